-- RingedPage.readWords
def fX6_readWords_67 (a1 : Int32) : Nat → Int32 → zMM → Option (Int32 × zMM)
  | 0, _, _ => none
  | n + 1, l2, M =>
  if (M.1 153 1) ≤ l2 then
    some ((M.1 153 1), M)
  else
    (fX5_digitAt (l2) M).bind fun q2 =>
    (fX0_setSize 0 (a1) (l2) (q2.1) q2.2).bind fun q3 =>
    fX6_readWords_67 a1 n ((l2 + 1)) q3.2
set_option maxRecDepth 100000 in
theorem tX6_readWords_67 (a1 : Int32) : ∀ (n : Nat) (l2 : Int32) (M : zMM) (q : Int32 × zMM), fX6_readWords_67 a1 n l2 M = some q → zEV iX6_readWords 0 0 (zZO (some (.inl q.1), q.2)) 67 [(0, .inr (.inr 157)), (1, .inl a1), (2, .inl l2)] [] M := by
  intro n
  induction n with
  | zero =>
    intro l2 M q h
    rw [fX6_readWords_67] at h
    cases h
  | succ n ih =>
    intro l2 M q h
    rw [fX6_readWords_67] at h
    refine zEV.iload_n dX6_readWords_67 rfl 2 rfl ?_
    refine zEV.aload_n dX6_readWords_68 rfl 0 rfl ?_
    refine zEV.gfr rfl inz6 7 (by decide) wf_RX6_51 (by decide) rfl rfl dX6_readWords_69 ?_
    refine zEV.gfi rfl inz5 1 (by decide) wf_RX6_66 (by decide) rfl rfl dX6_readWords_72 ?_
    refine zEV.icmp_ge 102 dX6_readWords_75 (by decide) (fun c1 => ?_) (fun c1 => ?_)
    · rw [if_pos c1] at h
      refine zEV.aload_n dX6_readWords_102 rfl 0 rfl ?_
      refine zEV.gfr rfl inz6 7 (by decide) wf_RX6_51 (by decide) rfl rfl dX6_readWords_103 ?_
      refine zEV.gfi rfl inz5 1 (by decide) wf_RX6_66 (by decide) rfl rfl dX6_readWords_106 ?_
      have h := Option.some.inj h
      subst h
      exact zEV.iret rfl dX6_readWords_109
    · rw [if_neg c1] at h
      refine zEV.aload_n dX6_readWords_78 rfl 0 rfl ?_
      refine zEV.gfr rfl inz6 0 (by decide) wf_RX6_12 (by decide) rfl rfl dX6_readWords_79 ?_
      refine zEV.iload_n dX6_readWords_82 rfl 1 rfl ?_
      refine zEV.iload_n dX6_readWords_83 rfl 2 rfl ?_
      refine zEV.aload_n dX6_readWords_84 rfl 0 rfl ?_
      refine zEV.gfr rfl inz6 7 (by decide) wf_RX6_51 (by decide) rfl rfl dX6_readWords_85 ?_
      refine zEV.iload_n dX6_readWords_88 rfl 2 rfl ?_
      obtain ⟨q2, hq2, h⟩ := bind_yes h
      refine zEV.callVi (kX5_digitAt (l2)  M q2 hq2) (by decide) rfl rfl wm_RX6_355 wc_X5_digitAt hy_X5_digitAt rfl ⟨Nat.le_of_ble_eq_true rfl, Nat.le_of_ble_eq_true rfl⟩ rfl (Nat.le_of_ble_eq_true rfl) dX6_readWords_89 ?_
      obtain ⟨q3, hq3, h⟩ := bind_yes h
      refine zEV.callVi (kX0_setSize 0 (a1) (l2) (q2.1) lf_0 q2.2 q3 hq3) (by decide) rfl rfl wm_RX6_109 wc_X0_setSize hy_X0_setSize rfl ⟨Nat.le_of_ble_eq_true rfl, Nat.le_of_ble_eq_true rfl⟩ rfl (Nat.le_of_ble_eq_true rfl) dX6_readWords_92 ?_
      refine zEV.pop dX6_readWords_95 rfl ?_
      refine zEV.iinc (v := (l2 + 1)) dX6_readWords_96 2 rfl rfl (Nat.le_of_ble_eq_true rfl) rfl ?_
      refine zEV.goto 67 dX6_readWords_99 (by decide) ?_
      exact zEV.perm [1, 2, 0] rfl (ih ((l2 + 1)) q3.2 q h)
def fX6_readWords_2 (a1 : Int32) : Nat → Int32 → zMM → Option (Int32 × zMM)
  | 0, _, _ => none
  | n + 1, l2, M =>
  if (M.1 153 1) ≤ l2 then
    (fX0_dropTiesOf 0 (a1) M).bind fun q2 =>
    if oob (a1) 3 then none else
    fX6_readWords_67 a1 zFU (0) (wr q2 2 (Int32.toNatClampNeg a1) (q2.1 153 1))
  else
    if (70 : Int32) ≤ l2 then
      some (((-1) - l2), M)
    else
      (fX5_digitAt (l2) M).bind fun q5 =>
      if (1 : Int32) ≤ q5.1 then
        fX6_readWords_2 a1 n ((l2 + 1)) q5.2
      else
        some (((-1) - l2), q5.2)
set_option maxRecDepth 100000 in
theorem tX6_readWords_2 (a1 : Int32) : ∀ (n : Nat) (l2 : Int32) (M : zMM) (q : Int32 × zMM), fX6_readWords_2 a1 n l2 M = some q → zEV iX6_readWords 0 0 (zZO (some (.inl q.1), q.2)) 2 [(0, .inr (.inr 157)), (1, .inl a1), (2, .inl l2)] [] M := by
  intro n
  induction n with
  | zero =>
    intro l2 M q h
    rw [fX6_readWords_2] at h
    cases h
  | succ n ih =>
    intro l2 M q h
    rw [fX6_readWords_2] at h
    refine zEV.iload_n dX6_readWords_2 rfl 2 rfl ?_
    refine zEV.aload_n dX6_readWords_3 rfl 0 rfl ?_
    refine zEV.gfr rfl inz6 7 (by decide) wf_RX6_51 (by decide) rfl rfl dX6_readWords_4 ?_
    refine zEV.gfi rfl inz5 1 (by decide) wf_RX6_66 (by decide) rfl rfl dX6_readWords_7 ?_
    refine zEV.icmp_ge 41 dX6_readWords_10 (by decide) (fun c1 => ?_) (fun c1 => ?_)
    · rw [if_pos c1] at h
      refine zEV.aload_n dX6_readWords_41 rfl 0 rfl ?_
      refine zEV.gfr rfl inz6 0 (by decide) wf_RX6_12 (by decide) rfl rfl dX6_readWords_42 ?_
      refine zEV.iload_n dX6_readWords_45 rfl 1 rfl ?_
      obtain ⟨q2, hq2, h⟩ := bind_yes h
      refine zEV.callVv (kX0_dropTiesOf 0 (a1) lf_0 M q2 hq2) (by decide) rfl rfl wm_RX6_358 wc_X0_dropTiesOf hy_X0_dropTiesOf rfl ⟨Nat.le_of_ble_eq_true rfl, Nat.le_of_ble_eq_true rfl⟩ rfl (Nat.le_of_ble_eq_true rfl) dX6_readWords_46 ?_
      refine zEV.aload_n dX6_readWords_49 rfl 0 rfl ?_
      refine zEV.gfr rfl inz6 0 (by decide) wf_RX6_12 (by decide) rfl rfl dX6_readWords_50 ?_
      refine zEV.gfr rfl inz0 8 (by decide) wf_RX6_231 (by decide) rfl rfl dX6_readWords_53 ?_
      refine zEV.iload_n dX6_readWords_56 rfl 1 rfl ?_
      refine zEV.aload_n dX6_readWords_57 rfl 0 rfl ?_
      refine zEV.gfr rfl inz6 7 (by decide) wf_RX6_51 (by decide) rfl rfl dX6_readWords_58 ?_
      refine zEV.gfi rfl inz5 1 (by decide) wf_RX6_66 (by decide) rfl rfl dX6_readWords_61 ?_
      obtain ⟨g3, h⟩ := ite_no h
      refine zEV.iast (by decide) rfl g3 dX6_readWords_64 ?_
      refine zEV.iconst (v := 0) dX6_readWords_65 rfl ?_
      refine zEV.istore_n dX6_readWords_66 rfl (Nat.le_of_ble_eq_true rfl) rfl ?_
      exact zEV.perm [1, 2, 0] rfl (tX6_readWords_67 a1 zFU (0) (wr q2 2 (Int32.toNatClampNeg a1) (q2.1 153 1)) q h)
    · rw [if_neg c1] at h
      refine zEV.iload_n dX6_readWords_13 rfl 2 rfl ?_
      refine zEV.bipush (v := 70) dX6_readWords_14 rfl ?_
      refine zEV.icmp_ge 31 dX6_readWords_16 (by decide) (fun c4 => ?_) (fun c4 => ?_)
      · rw [if_pos c4] at h
        refine zEV.iconst (v := (-1)) dX6_readWords_31 rfl ?_
        refine zEV.iload_n dX6_readWords_32 rfl 2 rfl ?_
        refine zEV.isub dX6_readWords_33 ?_
        have h := Option.some.inj h
        subst h
        exact zEV.iret rfl dX6_readWords_34
      · rw [if_neg c4] at h
        refine zEV.aload_n dX6_readWords_19 rfl 0 rfl ?_
        refine zEV.gfr rfl inz6 7 (by decide) wf_RX6_51 (by decide) rfl rfl dX6_readWords_20 ?_
        refine zEV.iload_n dX6_readWords_23 rfl 2 rfl ?_
        obtain ⟨q5, hq5, h⟩ := bind_yes h
        refine zEV.callVi (kX5_digitAt (l2)  M q5 hq5) (by decide) rfl rfl wm_RX6_355 wc_X5_digitAt hy_X5_digitAt rfl ⟨Nat.le_of_ble_eq_true rfl, Nat.le_of_ble_eq_true rfl⟩ rfl (Nat.le_of_ble_eq_true rfl) dX6_readWords_24 ?_
        refine zEV.iconst (v := 1) dX6_readWords_27 rfl ?_
        refine zEV.icmp_ge 35 dX6_readWords_28 (by decide) (fun c6 => ?_) (fun c6 => ?_)
        · rw [if_pos c6] at h
          refine zEV.iinc (v := (l2 + 1)) dX6_readWords_35 2 rfl rfl (Nat.le_of_ble_eq_true rfl) rfl ?_
          refine zEV.goto 2 dX6_readWords_38 (by decide) ?_
          exact zEV.perm [1, 2, 0] rfl (ih ((l2 + 1)) q5.2 q h)
        · rw [if_neg c6] at h
          refine zEV.iconst (v := (-1)) dX6_readWords_31 rfl ?_
          refine zEV.iload_n dX6_readWords_32 rfl 2 rfl ?_
          refine zEV.isub dX6_readWords_33 ?_
          have h := Option.some.inj h
          subst h
          exact zEV.iret rfl dX6_readWords_34
def fX6_readWords (a1 : Int32) (M : zMM) : Option (Int32 × zMM) :=
  fX6_readWords_2 a1 zFU (0) M
set_option maxRecDepth 100000 in
theorem tX6_readWords_0 (a1 : Int32) (M : zMM) (q : Int32 × zMM) (h : fX6_readWords a1  M = some q) : zEV iX6_readWords 0 0 (zZO (some (.inl q.1), q.2)) 0 [(0, .inr (.inr 157)), (1, .inl a1)] [] M := by
  unfold fX6_readWords at h
  refine zEV.iconst (v := 0) dX6_readWords_0 rfl ?_
  refine zEV.istore_n dX6_readWords_1 rfl (Nat.le_of_ble_eq_true rfl) rfl ?_
  exact zEV.perm [1, 2, 0] rfl (tX6_readWords_2 a1 zFU (0) M q h)
theorem kX6_readWords (a1 : Int32) (M : zMM) (q : Int32 × zMM) (h : fX6_readWords a1 M = some q) : zCN yX6_readWords iX6_readWords [.inr (.inr 157), .inl a1] M (some (.inl q.1), q.2) :=
  zCN.of (by decide) rfl rfl (Nat.le_of_ble_eq_true rfl) (zEV.perm [0, 1] rfl (tX6_readWords_0 a1 M q h))
-- RingedPage.remembered
def fX6_remembered (a1 : Int32) (M : zMM) : Option (Int32 × zMM) :=
  if a1 < (0 : Int32) then
    some (a1, M)
  else
    (fX1_remember  M).bind fun q2 =>
    some (a1, q2)
set_option maxRecDepth 100000 in
theorem tX6_remembered_0 (a1 : Int32) (M : zMM) (q : Int32 × zMM) (h : fX6_remembered a1  M = some q) : zEV iX6_remembered 0 0 (zZO (some (.inl q.1), q.2)) 0 [(0, .inr (.inr 157)), (1, .inl a1)] [] M := by
  unfold fX6_remembered at h
  refine zEV.iload_n dX6_remembered_0 rfl 1 rfl ?_
  refine zEV.if_lt 11 dX6_remembered_1 (by decide) (fun c1 => ?_) (fun c1 => ?_)
  · rw [if_pos c1] at h
    refine zEV.iload_n dX6_remembered_11 rfl 1 rfl ?_
    have h := Option.some.inj h
    subst h
    exact zEV.iret rfl dX6_remembered_12
  · rw [if_neg c1] at h
    refine zEV.aload_n dX6_remembered_4 rfl 0 rfl ?_
    refine zEV.gfr rfl inz6 4 (by decide) wf_RX6_36 (by decide) rfl rfl dX6_remembered_5 ?_
    obtain ⟨q2, hq2, h⟩ := bind_yes h
    refine zEV.callVv (kX1_remember   M q2 hq2) (by decide) rfl rfl wm_RX6_327 wc_X1_remember hy_X1_remember rfl ⟨Nat.le_of_ble_eq_true rfl, Nat.le_of_ble_eq_true rfl⟩ rfl (Nat.le_of_ble_eq_true rfl) dX6_remembered_8 ?_
    refine zEV.iload_n dX6_remembered_11 rfl 1 rfl ?_
    have h := Option.some.inj h
    subst h
    exact zEV.iret rfl dX6_remembered_12
theorem kX6_remembered (a1 : Int32) (M : zMM) (q : Int32 × zMM) (h : fX6_remembered a1 M = some q) : zCN yX6_remembered iX6_remembered [.inr (.inr 157), .inl a1] M (some (.inl q.1), q.2) :=
  zCN.of (by decide) rfl rfl (Nat.le_of_ble_eq_true rfl) (zEV.perm [0, 1] rfl (tX6_remembered_0 a1 M q h))
-- RingedPage.words
def fX6_words_27 (a1 : Int32) (s0 : Int32) (M : zMM) : Option (Int32 × zMM) :=
  (fX5_clear  M).bind fun q1 =>
  (fX6_remembered (s0) q1).bind fun q2 =>
  some (q2.1, q2.2)
set_option maxRecDepth 100000 in
theorem tX6_words_27 (a1 : Int32) (s0 : Int32) (M : zMM) (q : Int32 × zMM) (h : fX6_words_27 a1 s0 M = some q) : zEV iX6_words 0 0 (zZO (some (.inl q.1), q.2)) 27 [(0, .inr (.inr 157))] [.inl s0] M := by
  unfold fX6_words_27 at h
  refine zEV.istore_n dX6_words_27 rfl (Nat.le_of_ble_eq_true rfl) rfl ?_
  refine zEV.aload_n dX6_words_28 rfl 1 rfl ?_
  refine zEV.gfr rfl inz6 7 (by decide) wf_RX6_51 (by decide) rfl rfl dX6_words_29 ?_
  obtain ⟨q1, hq1, h⟩ := bind_yes h
  refine zEV.callVv (kX5_clear   M q1 hq1) (by decide) rfl rfl wm_RX6_84 wc_X5_clear hy_X5_clear rfl ⟨Nat.le_of_ble_eq_true rfl, Nat.le_of_ble_eq_true rfl⟩ rfl (Nat.le_of_ble_eq_true rfl) dX6_words_32 ?_
  refine zEV.aload_n dX6_words_35 rfl 1 rfl ?_
  refine zEV.iload_n dX6_words_36 rfl 0 rfl ?_
  obtain ⟨q2, hq2, h⟩ := bind_yes h
  refine zEV.callVi (kX6_remembered (s0)  q1 q2 hq2) (by decide) rfl rfl wm_RX6_87 wc_X6_remembered hy_X6_remembered rfl ⟨Nat.le_of_ble_eq_true rfl, Nat.le_of_ble_eq_true rfl⟩ rfl (Nat.le_of_ble_eq_true rfl) dX6_words_37 ?_
  have h := Option.some.inj h
  subst h
  exact zEV.iret rfl dX6_words_40
def fX6_words (a1 : Int32) (M : zMM) : Option (Int32 × zMM) :=
  (fX1_mark 0 M).bind fun q1 =>
  (fX6_isText (a1) q1).bind fun q2 =>
  if q2.1 = (0 : Int32) then
    fX6_words_27 a1 ((-1)) q2.2
  else
    (fX6_readWords (a1) q2.2).bind fun q4 =>
    fX6_words_27 a1 (q4.1) q4.2
set_option maxRecDepth 100000 in
theorem tX6_words_0 (a1 : Int32) (M : zMM) (q : Int32 × zMM) (h : fX6_words a1  M = some q) : zEV iX6_words 0 0 (zZO (some (.inl q.1), q.2)) 0 [(0, .inr (.inr 157)), (1, .inl a1)] [] M := by
  unfold fX6_words at h
  refine zEV.aload_n dX6_words_0 rfl 0 rfl ?_
  refine zEV.gfr rfl inz6 4 (by decide) wf_RX6_36 (by decide) rfl rfl dX6_words_1 ?_
  refine zEV.aload_n dX6_words_4 rfl 0 rfl ?_
  refine zEV.gfr rfl inz6 0 (by decide) wf_RX6_12 (by decide) rfl rfl dX6_words_5 ?_
  obtain ⟨q1, hq1, h⟩ := bind_yes h
  refine zEV.callVv (kX1_mark 0 lf_0 M q1 hq1) (by decide) rfl rfl wm_RX6_73 wc_X1_mark hy_X1_mark rfl ⟨Nat.le_of_ble_eq_true rfl, Nat.le_of_ble_eq_true rfl⟩ rfl (Nat.le_of_ble_eq_true rfl) dX6_words_8 ?_
  refine zEV.iload_n dX6_words_11 rfl 1 rfl ?_
  obtain ⟨q2, hq2, h⟩ := bind_yes h
  refine zEV.callSi (kX6_isText (a1)  q1 q2 hq2) wm_RX6_77 wc_X6_isText hy_X6_isText rfl ⟨Nat.le_of_ble_eq_true rfl, Nat.le_of_ble_eq_true rfl⟩ rfl (Nat.le_of_ble_eq_true rfl) dX6_words_12 ?_
  refine zEV.if_eq 26 dX6_words_15 (by decide) (fun c3 => ?_) (fun c3 => ?_)
  · rw [if_pos c3] at h
    refine zEV.iconst (v := (-1)) dX6_words_26 rfl ?_
    exact zEV.perm [0] rfl (tX6_words_27 a1 ((-1)) q2.2 q h)
  · rw [if_neg c3] at h
    refine zEV.aload_n dX6_words_18 rfl 0 rfl ?_
    refine zEV.iload_n dX6_words_19 rfl 1 rfl ?_
    obtain ⟨q4, hq4, h⟩ := bind_yes h
    refine zEV.callVi (kX6_readWords (a1)  q2.2 q4 hq4) (by decide) rfl rfl wm_RX6_80 wc_X6_readWords hy_X6_readWords rfl ⟨Nat.le_of_ble_eq_true rfl, Nat.le_of_ble_eq_true rfl⟩ rfl (Nat.le_of_ble_eq_true rfl) dX6_words_20 ?_
    refine zEV.goto 27 dX6_words_23 (by decide) ?_
    exact zEV.perm [0] rfl (tX6_words_27 a1 (q4.1) q4.2 q h)
theorem kX6_words (a1 : Int32) (M : zMM) (q : Int32 × zMM) (h : fX6_words a1 M = some q) : zCN yX6_words iX6_words [.inr (.inr 157), .inl a1] M (some (.inl q.1), q.2) :=
  zCN.of (by decide) rfl rfl (Nat.le_of_ble_eq_true rfl) (zEV.perm [0, 1] rfl (tX6_words_0 a1 M q h))
-- RingedPage.readTie
def fX6_readTie_30 (a1 : Int32) (s0 : Int32) (M : zMM) : Option (Int32 × zMM) :=
  if s0 < (0 : Int32) then
    some (((-1) - a1), M)
  else
    if (M.1 10 6) < 12 then
      (fX5_numberAt ((a1 + 1)) (2) M).bind fun q3 =>
      if (0 : Int32) ≤ q3.1 then
        (fX0_hasWord 10 (s0) (q3.1) q3.2).bind fun q5 =>
        if q5.1 = (0 : Int32) then
          some (((-1) - (a1 + 2)), q5.2)
        else
          (fX0_isTied 10 (s0) (q3.1) q5.2).bind fun q7 =>
          if q7.1 = (0 : Int32) then
            (fX5_numberAt ((a1 + 3)) (2) q7.2).bind fun q9 =>
            if (0 : Int32) ≤ q9.1 then
              (fX0_hasWord 10 (0) (q9.1) q9.2).bind fun q11 =>
              if q11.1 = (0 : Int32) then
                some (((-1) - (a1 + 4)), q11.2)
              else
                (fX0_addTie 10 (s0) (q3.1) (q9.1) q11.2).bind fun q13 =>
                some (0, q13)
            else
              some (q9.1, q9.2)
          else
            some (((-1) - (a1 + 2)), q7.2)
      else
        some (q3.1, q3.2)
    else
      some (((-1) - a1), M)
set_option maxRecDepth 100000 in
theorem tX6_readTie_30 (a1 : Int32) (s0 : Int32) (M : zMM) (q : Int32 × zMM) (h : fX6_readTie_30 a1 s0 M = some q) : zEV iX6_readTie 0 0 (zZO (some (.inl q.1), q.2)) 30 [(0, .inr (.inr 157)), (1, .inl a1)] [.inl s0] M := by
  unfold fX6_readTie_30 at h
  refine zEV.istore_n dX6_readTie_30 rfl (Nat.le_of_ble_eq_true rfl) rfl ?_
  refine zEV.iload_n dX6_readTie_31 rfl 0 rfl ?_
  refine zEV.if_lt 47 dX6_readTie_32 (by decide) (fun c1 => ?_) (fun c1 => ?_)
  · rw [if_pos c1] at h
    refine zEV.iconst (v := (-1)) dX6_readTie_47 rfl ?_
    refine zEV.iload_n dX6_readTie_48 rfl 2 rfl ?_
    refine zEV.isub dX6_readTie_49 ?_
    have h := Option.some.inj h
    subst h
    exact zEV.iret rfl dX6_readTie_50
  · rw [if_neg c1] at h
    refine zEV.aload_n dX6_readTie_35 rfl 1 rfl ?_
    refine zEV.gfr rfl inz6 1 (by decide) wf_RX6_16 (by decide) rfl rfl dX6_readTie_36 ?_
    refine zEV.gfi rfl inz0 6 (by decide) wf_RX6_213 (by decide) rfl rfl dX6_readTie_39 ?_
    refine zEV.bipush (v := 12) dX6_readTie_42 rfl ?_
    refine zEV.icmp_lt 51 dX6_readTie_44 (by decide) (fun c2 => ?_) (fun c2 => ?_)
    · rw [if_pos c2] at h
      refine zEV.aload_n dX6_readTie_51 rfl 1 rfl ?_
      refine zEV.gfr rfl inz6 7 (by decide) wf_RX6_51 (by decide) rfl rfl dX6_readTie_52 ?_
      refine zEV.iload_n dX6_readTie_55 rfl 2 rfl ?_
      refine zEV.iconst (v := 1) dX6_readTie_56 rfl ?_
      refine zEV.iadd dX6_readTie_57 ?_
      refine zEV.iconst (v := 2) dX6_readTie_58 rfl ?_
      obtain ⟨q3, hq3, h⟩ := bind_yes h
      refine zEV.callVi (kX5_numberAt ((a1 + 1)) (2)  M q3 hq3) (by decide) rfl rfl wm_RX6_364 wc_X5_numberAt hy_X5_numberAt rfl ⟨Nat.le_of_ble_eq_true rfl, Nat.le_of_ble_eq_true rfl⟩ rfl (Nat.le_of_ble_eq_true rfl) dX6_readTie_59 ?_
      refine zEV.istore dX6_readTie_62 (Nat.le_of_ble_eq_true rfl) rfl ?_
      refine zEV.iload dX6_readTie_64 0 rfl ?_
      refine zEV.if_ge 72 dX6_readTie_66 (by decide) (fun c4 => ?_) (fun c4 => ?_)
      · rw [if_pos c4] at h
        refine zEV.aload_n dX6_readTie_72 rfl 2 rfl ?_
        refine zEV.gfr rfl inz6 1 (by decide) wf_RX6_16 (by decide) rfl rfl dX6_readTie_73 ?_
        refine zEV.iload_n dX6_readTie_76 rfl 1 rfl ?_
        refine zEV.iload dX6_readTie_77 0 rfl ?_
        obtain ⟨q5, hq5, h⟩ := bind_yes h
        refine zEV.callVi (kX0_hasWord 10 (s0) (q3.1) lf_10 q3.2 q5 hq5) (by decide) rfl rfl wm_RX6_94 wc_X0_hasWord hy_X0_hasWord rfl ⟨Nat.le_of_ble_eq_true rfl, Nat.le_of_ble_eq_true rfl⟩ rfl (Nat.le_of_ble_eq_true rfl) dX6_readTie_79 ?_
        refine zEV.if_eq 98 dX6_readTie_82 (by decide) (fun c6 => ?_) (fun c6 => ?_)
        · rw [if_pos c6] at h
          refine zEV.iconst (v := (-1)) dX6_readTie_98 rfl ?_
          refine zEV.iload_n dX6_readTie_99 rfl 3 rfl ?_
          refine zEV.iconst (v := 2) dX6_readTie_100 rfl ?_
          refine zEV.iadd dX6_readTie_101 ?_
          refine zEV.isub dX6_readTie_102 ?_
          have h := Option.some.inj h
          subst h
          exact zEV.iret rfl dX6_readTie_103
        · rw [if_neg c6] at h
          refine zEV.aload_n dX6_readTie_85 rfl 2 rfl ?_
          refine zEV.gfr rfl inz6 1 (by decide) wf_RX6_16 (by decide) rfl rfl dX6_readTie_86 ?_
          refine zEV.iload_n dX6_readTie_89 rfl 1 rfl ?_
          refine zEV.iload dX6_readTie_90 0 rfl ?_
          obtain ⟨q7, hq7, h⟩ := bind_yes h
          refine zEV.callVi (kX0_isTied 10 (s0) (q3.1) lf_10 q5.2 q7 hq7) (by decide) rfl rfl wm_RX6_234 wc_X0_isTied hy_X0_isTied rfl ⟨Nat.le_of_ble_eq_true rfl, Nat.le_of_ble_eq_true rfl⟩ rfl (Nat.le_of_ble_eq_true rfl) dX6_readTie_92 ?_
          refine zEV.if_eq 104 dX6_readTie_95 (by decide) (fun c8 => ?_) (fun c8 => ?_)
          · rw [if_pos c8] at h
            refine zEV.aload_n dX6_readTie_104 rfl 2 rfl ?_
            refine zEV.gfr rfl inz6 7 (by decide) wf_RX6_51 (by decide) rfl rfl dX6_readTie_105 ?_
            refine zEV.iload_n dX6_readTie_108 rfl 3 rfl ?_
            refine zEV.iconst (v := 3) dX6_readTie_109 rfl ?_
            refine zEV.iadd dX6_readTie_110 ?_
            refine zEV.iconst (v := 2) dX6_readTie_111 rfl ?_
            obtain ⟨q9, hq9, h⟩ := bind_yes h
            refine zEV.callVi (kX5_numberAt ((a1 + 3)) (2)  q7.2 q9 hq9) (by decide) rfl rfl wm_RX6_364 wc_X5_numberAt hy_X5_numberAt rfl ⟨Nat.le_of_ble_eq_true rfl, Nat.le_of_ble_eq_true rfl⟩ rfl (Nat.le_of_ble_eq_true rfl) dX6_readTie_112 ?_
            refine zEV.istore dX6_readTie_115 (Nat.le_of_ble_eq_true rfl) rfl ?_
            refine zEV.iload dX6_readTie_117 0 rfl ?_
            refine zEV.if_ge 125 dX6_readTie_119 (by decide) (fun c10 => ?_) (fun c10 => ?_)
            · rw [if_pos c10] at h
              refine zEV.aload_n dX6_readTie_125 rfl 3 rfl ?_
              refine zEV.gfr rfl inz6 1 (by decide) wf_RX6_16 (by decide) rfl rfl dX6_readTie_126 ?_
              refine zEV.iconst (v := 0) dX6_readTie_129 rfl ?_
              refine zEV.iload dX6_readTie_130 0 rfl ?_
              obtain ⟨q11, hq11, h⟩ := bind_yes h
              refine zEV.callVi (kX0_hasWord 10 (0) (q9.1) lf_10 q9.2 q11 hq11) (by decide) rfl rfl wm_RX6_94 wc_X0_hasWord hy_X0_hasWord rfl ⟨Nat.le_of_ble_eq_true rfl, Nat.le_of_ble_eq_true rfl⟩ rfl (Nat.le_of_ble_eq_true rfl) dX6_readTie_132 ?_
              refine zEV.if_ne 144 dX6_readTie_135 (by decide) (fun c12 => ?_) (fun c12 => ?_)
              · rw [if_neg c12] at h
                refine zEV.aload_n dX6_readTie_144 rfl 3 rfl ?_
                refine zEV.gfr rfl inz6 1 (by decide) wf_RX6_16 (by decide) rfl rfl dX6_readTie_145 ?_
                refine zEV.iload_n dX6_readTie_148 rfl 2 rfl ?_
                refine zEV.iload dX6_readTie_149 1 rfl ?_
                refine zEV.iload dX6_readTie_151 0 rfl ?_
                obtain ⟨q13, hq13, h⟩ := bind_yes h
                refine zEV.callVv (kX0_addTie 10 (s0) (q3.1) (q9.1) lf_10 q11.2 q13 hq13) (by decide) rfl rfl wm_RX6_367 wc_X0_addTie hy_X0_addTie rfl ⟨Nat.le_of_ble_eq_true rfl, Nat.le_of_ble_eq_true rfl⟩ rfl (Nat.le_of_ble_eq_true rfl) dX6_readTie_153 ?_
                refine zEV.iconst (v := 0) dX6_readTie_156 rfl ?_
                have h := Option.some.inj h
                subst h
                exact zEV.iret rfl dX6_readTie_157
              · rw [if_pos c12] at h
                refine zEV.iconst (v := (-1)) dX6_readTie_138 rfl ?_
                refine zEV.iload_n dX6_readTie_139 rfl 4 rfl ?_
                refine zEV.iconst (v := 4) dX6_readTie_140 rfl ?_
                refine zEV.iadd dX6_readTie_141 ?_
                refine zEV.isub dX6_readTie_142 ?_
                have h := Option.some.inj h
                subst h
                exact zEV.iret rfl dX6_readTie_143
            · rw [if_neg c10] at h
              refine zEV.iload dX6_readTie_122 0 rfl ?_
              have h := Option.some.inj h
              subst h
              exact zEV.iret rfl dX6_readTie_124
          · rw [if_neg c8] at h
            refine zEV.iconst (v := (-1)) dX6_readTie_98 rfl ?_
            refine zEV.iload_n dX6_readTie_99 rfl 3 rfl ?_
            refine zEV.iconst (v := 2) dX6_readTie_100 rfl ?_
            refine zEV.iadd dX6_readTie_101 ?_
            refine zEV.isub dX6_readTie_102 ?_
            have h := Option.some.inj h
            subst h
            exact zEV.iret rfl dX6_readTie_103
      · rw [if_neg c4] at h
        refine zEV.iload dX6_readTie_69 0 rfl ?_
        have h := Option.some.inj h
        subst h
        exact zEV.iret rfl dX6_readTie_71
    · rw [if_neg c2] at h
      refine zEV.iconst (v := (-1)) dX6_readTie_47 rfl ?_
      refine zEV.iload_n dX6_readTie_48 rfl 2 rfl ?_
      refine zEV.isub dX6_readTie_49 ?_
      have h := Option.some.inj h
      subst h
      exact zEV.iret rfl dX6_readTie_50
def fX6_readTie (a1 : Int32) (M : zMM) : Option (Int32 × zMM) :=
  (fX5_signAt (a1) M).bind fun q1 =>
  if q1.1 = 105 then
    fX6_readTie_30 a1 (1) q1.2
  else
    if q1.1 = 111 then
      fX6_readTie_30 a1 (2) q1.2
    else
      fX6_readTie_30 a1 ((-1)) q1.2
set_option maxRecDepth 100000 in
theorem tX6_readTie_0 (a1 : Int32) (M : zMM) (q : Int32 × zMM) (h : fX6_readTie a1  M = some q) : zEV iX6_readTie 0 0 (zZO (some (.inl q.1), q.2)) 0 [(0, .inr (.inr 157)), (1, .inl a1)] [] M := by
  unfold fX6_readTie at h
  refine zEV.aload_n dX6_readTie_0 rfl 0 rfl ?_
  refine zEV.gfr rfl inz6 7 (by decide) wf_RX6_51 (by decide) rfl rfl dX6_readTie_1 ?_
  refine zEV.iload_n dX6_readTie_4 rfl 1 rfl ?_
  obtain ⟨q1, hq1, h⟩ := bind_yes h
  refine zEV.callVi (kX5_signAt (a1)  M q1 hq1) (by decide) rfl rfl wm_RX6_316 wc_X5_signAt hy_X5_signAt rfl ⟨Nat.le_of_ble_eq_true rfl, Nat.le_of_ble_eq_true rfl⟩ rfl (Nat.le_of_ble_eq_true rfl) dX6_readTie_5 ?_
  refine zEV.istore_n dX6_readTie_8 rfl (Nat.le_of_ble_eq_true rfl) rfl ?_
  refine zEV.iload_n dX6_readTie_9 rfl 0 rfl ?_
  refine zEV.bipush (v := 105) dX6_readTie_10 rfl ?_
  refine zEV.icmp_ne 19 dX6_readTie_12 (by decide) (fun c2 => ?_) (fun c2 => ?_)
  · rw [if_neg c2] at h
    refine zEV.iload_n dX6_readTie_19 rfl 0 rfl ?_
    refine zEV.bipush (v := 111) dX6_readTie_20 rfl ?_
    refine zEV.icmp_ne 29 dX6_readTie_22 (by decide) (fun c3 => ?_) (fun c3 => ?_)
    · rw [if_neg c3] at h
      refine zEV.iconst (v := (-1)) dX6_readTie_29 rfl ?_
      exact zEV.perm [1, 2] rfl (tX6_readTie_30 a1 ((-1)) q1.2 q h)
    · rw [if_pos c3] at h
      refine zEV.iconst (v := 2) dX6_readTie_25 rfl ?_
      refine zEV.goto 30 dX6_readTie_26 (by decide) ?_
      exact zEV.perm [1, 2] rfl (tX6_readTie_30 a1 (2) q1.2 q h)
  · rw [if_pos c2] at h
    refine zEV.iconst (v := 1) dX6_readTie_15 rfl ?_
    refine zEV.goto 30 dX6_readTie_16 (by decide) ?_
    exact zEV.perm [1, 2] rfl (tX6_readTie_30 a1 (1) q1.2 q h)
theorem kX6_readTie (a1 : Int32) (M : zMM) (q : Int32 × zMM) (h : fX6_readTie a1 M = some q) : zCN yX6_readTie iX6_readTie [.inr (.inr 157), .inl a1] M (some (.inl q.1), q.2) :=
  zCN.of (by decide) rfl rfl (Nat.le_of_ble_eq_true rfl) (zEV.perm [0, 1] rfl (tX6_readTie_0 a1 M q h))
-- RingedPage.readTies
def fX6_readTies_21 : Nat → Int32 → zMM → Option (Int32 × zMM)
  | 0, _, _ => none
  | n + 1, l1, M =>
  if (M.1 153 1) ≤ l1 then
    (fX0_copy 0 10 M).bind fun q2 =>
    some ((q2.1 0 6), q2)
  else
    (fX6_readTie (l1) M).bind fun q3 =>
    if (0 : Int32) ≤ q3.1 then
      fX6_readTies_21 n ((l1 + 5)) q3.2
    else
      some (q3.1, q3.2)
set_option maxRecDepth 100000 in
theorem tX6_readTies_21 : ∀ (n : Nat) (l1 : Int32) (M : zMM) (q : Int32 × zMM), fX6_readTies_21 n l1 M = some q → zEV iX6_readTies 0 0 (zZO (some (.inl q.1), q.2)) 21 [(0, .inr (.inr 157)), (1, .inl l1)] [] M := by
  intro n
  induction n with
  | zero =>
    intro l1 M q h
    rw [fX6_readTies_21] at h
    cases h
  | succ n ih =>
    intro l1 M q h
    rw [fX6_readTies_21] at h
    refine zEV.iload_n dX6_readTies_21 rfl 1 rfl ?_
    refine zEV.aload_n dX6_readTies_22 rfl 0 rfl ?_
    refine zEV.gfr rfl inz6 7 (by decide) wf_RX6_51 (by decide) rfl rfl dX6_readTies_23 ?_
    refine zEV.gfi rfl inz5 1 (by decide) wf_RX6_66 (by decide) rfl rfl dX6_readTies_26 ?_
    refine zEV.icmp_ge 50 dX6_readTies_29 (by decide) (fun c1 => ?_) (fun c1 => ?_)
    · rw [if_pos c1] at h
      refine zEV.aload_n dX6_readTies_50 rfl 0 rfl ?_
      refine zEV.gfr rfl inz6 0 (by decide) wf_RX6_12 (by decide) rfl rfl dX6_readTies_51 ?_
      refine zEV.aload_n dX6_readTies_54 rfl 0 rfl ?_
      refine zEV.gfr rfl inz6 1 (by decide) wf_RX6_16 (by decide) rfl rfl dX6_readTies_55 ?_
      obtain ⟨q2, hq2, h⟩ := bind_yes h
      refine zEV.callVv (kX0_copy 0 10 lf_0 lf_10 M q2 hq2) (by decide) rfl rfl wm_RX6_240 wc_X0_copy hy_X0_copy rfl ⟨Nat.le_of_ble_eq_true rfl, Nat.le_of_ble_eq_true rfl⟩ rfl (Nat.le_of_ble_eq_true rfl) dX6_readTies_58 ?_
      refine zEV.aload_n dX6_readTies_61 rfl 0 rfl ?_
      refine zEV.gfr rfl inz6 0 (by decide) wf_RX6_12 (by decide) rfl rfl dX6_readTies_62 ?_
      refine zEV.gfi rfl inz0 6 (by decide) wf_RX6_213 (by decide) rfl rfl dX6_readTies_65 ?_
      have h := Option.some.inj h
      subst h
      exact zEV.iret rfl dX6_readTies_68
    · rw [if_neg c1] at h
      refine zEV.aload_n dX6_readTies_32 rfl 0 rfl ?_
      refine zEV.iload_n dX6_readTies_33 rfl 1 rfl ?_
      obtain ⟨q3, hq3, h⟩ := bind_yes h
      refine zEV.callVi (kX6_readTie (l1)  M q3 hq3) (by decide) rfl rfl wm_RX6_361 wc_X6_readTie hy_X6_readTie rfl ⟨Nat.le_of_ble_eq_true rfl, Nat.le_of_ble_eq_true rfl⟩ rfl (Nat.le_of_ble_eq_true rfl) dX6_readTies_34 ?_
      refine zEV.istore_n dX6_readTies_37 rfl (Nat.le_of_ble_eq_true rfl) rfl ?_
      refine zEV.iload_n dX6_readTies_38 rfl 0 rfl ?_
      refine zEV.if_ge 44 dX6_readTies_39 (by decide) (fun c4 => ?_) (fun c4 => ?_)
      · rw [if_pos c4] at h
        refine zEV.iinc (v := (l1 + 5)) dX6_readTies_44 2 rfl rfl (Nat.le_of_ble_eq_true rfl) rfl ?_
        refine zEV.goto 21 dX6_readTies_47 (by decide) ?_
        exact zEV.perm [2, 0] rfl (ih ((l1 + 5)) q3.2 q h)
      · rw [if_neg c4] at h
        refine zEV.iload_n dX6_readTies_42 rfl 0 rfl ?_
        have h := Option.some.inj h
        subst h
        exact zEV.iret rfl dX6_readTies_43
def fX6_readTies (M : zMM) : Option (Int32 × zMM) :=
  (fX0_copy 10 0 M).bind fun q1 =>
  fX6_readTies_21 zFU (0) (wr q1 10 6 0)
set_option maxRecDepth 100000 in
theorem tX6_readTies_0 (M : zMM) (q : Int32 × zMM) (h : fX6_readTies  M = some q) : zEV iX6_readTies 0 0 (zZO (some (.inl q.1), q.2)) 0 [(0, .inr (.inr 157))] [] M := by
  unfold fX6_readTies at h
  refine zEV.aload_n dX6_readTies_0 rfl 0 rfl ?_
  refine zEV.gfr rfl inz6 1 (by decide) wf_RX6_16 (by decide) rfl rfl dX6_readTies_1 ?_
  refine zEV.aload_n dX6_readTies_4 rfl 0 rfl ?_
  refine zEV.gfr rfl inz6 0 (by decide) wf_RX6_12 (by decide) rfl rfl dX6_readTies_5 ?_
  obtain ⟨q1, hq1, h⟩ := bind_yes h
  refine zEV.callVv (kX0_copy 10 0 lf_10 lf_0 M q1 hq1) (by decide) rfl rfl wm_RX6_240 wc_X0_copy hy_X0_copy rfl ⟨Nat.le_of_ble_eq_true rfl, Nat.le_of_ble_eq_true rfl⟩ rfl (Nat.le_of_ble_eq_true rfl) dX6_readTies_8 ?_
  refine zEV.aload_n dX6_readTies_11 rfl 0 rfl ?_
  refine zEV.gfr rfl inz6 1 (by decide) wf_RX6_16 (by decide) rfl rfl dX6_readTies_12 ?_
  refine zEV.iconst (v := 0) dX6_readTies_15 rfl ?_
  refine zEV.pfi rfl inz0 tyX0 tyX0_ok nmX0 6 (by decide) wf_RX6_213 rfl (by decide +kernel) (by decide) rfl rfl dX6_readTies_16 ?_
  refine zEV.iconst (v := 0) dX6_readTies_19 rfl ?_
  refine zEV.istore_n dX6_readTies_20 rfl (Nat.le_of_ble_eq_true rfl) rfl ?_
  exact zEV.perm [1, 0] rfl (tX6_readTies_21 zFU (0) (wr q1 10 6 0) q h)
theorem kX6_readTies (M : zMM) (q : Int32 × zMM) (h : fX6_readTies M = some q) : zCN yX6_readTies iX6_readTies [.inr (.inr 157)] M (some (.inl q.1), q.2) :=
  zCN.of (by decide) rfl rfl (Nat.le_of_ble_eq_true rfl) (zEV.perm [0] rfl (tX6_readTies_0 M q h))
-- RingedPage.ties
def fX6_ties (M : zMM) : Option (Int32 × zMM) :=
  (fX1_mark 0 M).bind fun q1 =>
  (fX6_readTies  q1).bind fun q2 =>
  (fX5_clear  q2.2).bind fun q3 =>
  (fX6_remembered (q2.1) q3).bind fun q4 =>
  some (q4.1, q4.2)
set_option maxRecDepth 100000 in
theorem tX6_ties_0 (M : zMM) (q : Int32 × zMM) (h : fX6_ties  M = some q) : zEV iX6_ties 0 0 (zZO (some (.inl q.1), q.2)) 0 [(0, .inr (.inr 157))] [] M := by
  unfold fX6_ties at h
  refine zEV.aload_n dX6_ties_0 rfl 0 rfl ?_
  refine zEV.gfr rfl inz6 4 (by decide) wf_RX6_36 (by decide) rfl rfl dX6_ties_1 ?_
  refine zEV.aload_n dX6_ties_4 rfl 0 rfl ?_
  refine zEV.gfr rfl inz6 0 (by decide) wf_RX6_12 (by decide) rfl rfl dX6_ties_5 ?_
  obtain ⟨q1, hq1, h⟩ := bind_yes h
  refine zEV.callVv (kX1_mark 0 lf_0 M q1 hq1) (by decide) rfl rfl wm_RX6_73 wc_X1_mark hy_X1_mark rfl ⟨Nat.le_of_ble_eq_true rfl, Nat.le_of_ble_eq_true rfl⟩ rfl (Nat.le_of_ble_eq_true rfl) dX6_ties_8 ?_
  refine zEV.aload_n dX6_ties_11 rfl 0 rfl ?_
  obtain ⟨q2, hq2, h⟩ := bind_yes h
  refine zEV.callVi (kX6_readTies   q1 q2 hq2) (by decide) rfl rfl wm_RX6_90 wc_X6_readTies hy_X6_readTies rfl ⟨Nat.le_of_ble_eq_true rfl, Nat.le_of_ble_eq_true rfl⟩ rfl (Nat.le_of_ble_eq_true rfl) dX6_ties_12 ?_
  refine zEV.istore_n dX6_ties_15 rfl (Nat.le_of_ble_eq_true rfl) rfl ?_
  refine zEV.aload_n dX6_ties_16 rfl 1 rfl ?_
  refine zEV.gfr rfl inz6 7 (by decide) wf_RX6_51 (by decide) rfl rfl dX6_ties_17 ?_
  obtain ⟨q3, hq3, h⟩ := bind_yes h
  refine zEV.callVv (kX5_clear   q2.2 q3 hq3) (by decide) rfl rfl wm_RX6_84 wc_X5_clear hy_X5_clear rfl ⟨Nat.le_of_ble_eq_true rfl, Nat.le_of_ble_eq_true rfl⟩ rfl (Nat.le_of_ble_eq_true rfl) dX6_ties_20 ?_
  refine zEV.aload_n dX6_ties_23 rfl 1 rfl ?_
  refine zEV.iload_n dX6_ties_24 rfl 0 rfl ?_
  obtain ⟨q4, hq4, h⟩ := bind_yes h
  refine zEV.callVi (kX6_remembered (q2.1)  q3 q4 hq4) (by decide) rfl rfl wm_RX6_87 wc_X6_remembered hy_X6_remembered rfl ⟨Nat.le_of_ble_eq_true rfl, Nat.le_of_ble_eq_true rfl⟩ rfl (Nat.le_of_ble_eq_true rfl) dX6_ties_25 ?_
  have h := Option.some.inj h
  subst h
  exact zEV.iret rfl dX6_ties_28
theorem kX6_ties (M : zMM) (q : Int32 × zMM) (h : fX6_ties M = some q) : zCN yX6_ties iX6_ties [.inr (.inr 157)] M (some (.inl q.1), q.2) :=
  zCN.of (by decide) rfl rfl (Nat.le_of_ble_eq_true rfl) (zEV.perm [0] rfl (tX6_ties_0 M q h))
-- RingedPage.entry
def fX6_entry (a0 : Int32) (a1 : Int32) (a2 : Int32) (a3 : Int32) (M : zMM) : Option (Int32 × zMM) :=
  if a0 = (0 : Int32) then
    some ((Int32.toInt8 (a1 + (a3 * a2))).toInt32, M)
  else
    if a0 = 1 then
      some ((Int32.toInt16 (a1 + (a3 * a2))).toInt32, M)
    else
      some ((a1 + (a3 * a2)), M)
set_option maxRecDepth 100000 in
theorem tX6_entry_0 (a0 : Int32) (a1 : Int32) (a2 : Int32) (a3 : Int32) (M : zMM) (q : Int32 × zMM) (h : fX6_entry a0 a1 a2 a3  M = some q) : zEV iX6_entry 0 0 (zZO (some (.inl q.1), q.2)) 0 [(0, .inl a0), (1, .inl a1), (2, .inl a2), (3, .inl a3)] [] M := by
  unfold fX6_entry at h
  refine zEV.iload_n dX6_entry_0 rfl 1 rfl ?_
  refine zEV.iload_n dX6_entry_1 rfl 3 rfl ?_
  refine zEV.iload_n dX6_entry_2 rfl 2 rfl ?_
  refine zEV.imul dX6_entry_3 ?_
  refine zEV.iadd dX6_entry_4 ?_
  refine zEV.istore dX6_entry_5 (Nat.le_of_ble_eq_true rfl) rfl ?_
  refine zEV.iload_n dX6_entry_7 rfl 1 rfl ?_
  refine zEV.if_ne 17 dX6_entry_8 (by decide) (fun c1 => ?_) (fun c1 => ?_)
  · rw [if_neg c1] at h
    refine zEV.iload_n dX6_entry_17 rfl 1 rfl ?_
    refine zEV.iconst (v := 1) dX6_entry_18 rfl ?_
    refine zEV.icmp_ne 28 dX6_entry_19 (by decide) (fun c2 => ?_) (fun c2 => ?_)
    · rw [if_neg c2] at h
      refine zEV.iload dX6_entry_28 0 rfl ?_
      have h := Option.some.inj h
      subst h
      exact zEV.iret rfl dX6_entry_30
    · rw [if_pos c2] at h
      refine zEV.iload dX6_entry_22 0 rfl ?_
      refine zEV.i2s dX6_entry_24 ?_
      refine zEV.goto 30 dX6_entry_25 (by decide) ?_
      have h := Option.some.inj h
      subst h
      exact zEV.iret rfl dX6_entry_30
  · rw [if_pos c1] at h
    refine zEV.iload dX6_entry_11 0 rfl ?_
    refine zEV.i2b dX6_entry_13 ?_
    refine zEV.goto 30 dX6_entry_14 (by decide) ?_
    have h := Option.some.inj h
    subst h
    exact zEV.iret rfl dX6_entry_30
theorem kX6_entry (a0 : Int32) (a1 : Int32) (a2 : Int32) (a3 : Int32) (M : zMM) (q : Int32 × zMM) (h : fX6_entry a0 a1 a2 a3 M = some q) : zCN yX6_entry iX6_entry [.inl a0, .inl a1, .inl a2, .inl a3] M (some (.inl q.1), q.2) :=
  zCN.of (by decide) rfl rfl (Nat.le_of_ble_eq_true rfl) (zEV.perm [0, 1, 2, 3] rfl (tX6_entry_0 a0 a1 a2 a3 M q h))
-- RingedPage.isSize
def fX6_isSize (a0 : Int32) (M : zMM) : Option (Int32 × zMM) :=
  if a0 < 1 then
    some (0, M)
  else
    if (9 : Int32) < a0 then
      some (0, M)
    else
      some (1, M)
set_option maxRecDepth 100000 in
theorem tX6_isSize_0 (a0 : Int32) (M : zMM) (q : Int32 × zMM) (h : fX6_isSize a0  M = some q) : zEV iX6_isSize 0 0 (zZO (some (.inl q.1), q.2)) 0 [(0, .inl a0)] [] M := by
  unfold fX6_isSize at h
  refine zEV.iload_n dX6_isSize_0 rfl 0 rfl ?_
  refine zEV.iconst (v := 1) dX6_isSize_1 rfl ?_
  refine zEV.icmp_lt 15 dX6_isSize_2 (by decide) (fun c1 => ?_) (fun c1 => ?_)
  · rw [if_pos c1] at h
    refine zEV.iconst (v := 0) dX6_isSize_15 rfl ?_
    have h := Option.some.inj h
    subst h
    exact zEV.zret rfl (Or.inl rfl) dX6_isSize_16
  · rw [if_neg c1] at h
    refine zEV.iload_n dX6_isSize_5 rfl 0 rfl ?_
    refine zEV.bipush (v := 9) dX6_isSize_6 rfl ?_
    refine zEV.icmp_gt 15 dX6_isSize_8 (by decide) (fun c2 => ?_) (fun c2 => ?_)
    · rw [if_pos c2] at h
      refine zEV.iconst (v := 0) dX6_isSize_15 rfl ?_
      have h := Option.some.inj h
      subst h
      exact zEV.zret rfl (Or.inl rfl) dX6_isSize_16
    · rw [if_neg c2] at h
      refine zEV.iconst (v := 1) dX6_isSize_11 rfl ?_
      refine zEV.goto 16 dX6_isSize_12 (by decide) ?_
      have h := Option.some.inj h
      subst h
      exact zEV.zret rfl (Or.inr rfl) dX6_isSize_16
theorem kX6_isSize (a0 : Int32) (M : zMM) (q : Int32 × zMM) (h : fX6_isSize a0 M = some q) : zCN yX6_isSize iX6_isSize [.inl a0] M (some (.inl q.1), q.2) :=
  zCN.of (by decide) rfl rfl (Nat.le_of_ble_eq_true rfl) (zEV.perm [0] rfl (tX6_isSize_0 a0 M q h))
-- RingedPage.sheet
def fX6_sheet_161 (K126 : Int32 → Int32 → zMM → Option (Int32 × zMM)) (a1 : Int32) (a2 : Int32) (a3 : Int32) (a4 : Int32) (a5 : Int32) (a6 : Int32) (l7 : Int32) (l8 : Int32) (M : zMM) : Option (Int32 × zMM) :=
  K126 (l7) ((l8 + 1)) M
set_option maxRecDepth 100000 in
theorem tX6_sheet_161 (K126 : Int32 → Int32 → zMM → Option (Int32 × zMM)) (a1 : Int32) (a2 : Int32) (a3 : Int32) (a4 : Int32) (a5 : Int32) (a6 : Int32) (hK126 : ∀ (l7 : Int32) (l8 : Int32) (M : zMM) (q : Int32 × zMM), K126 l7 l8 M = some q → zEV iX6_sheet 0 0 (zZO (some (.inl q.1), q.2)) 126 [(0, .inr (.inr 157)), (1, .inl a1), (2, .inl a2), (3, .inl a3), (4, .inl a4), (5, .inl a5), (6, .inl a6), (7, .inl l7), (8, .inl l8)] [] M) (l7 : Int32) (l8 : Int32) (M : zMM) (q : Int32 × zMM) (h : fX6_sheet_161 K126 a1 a2 a3 a4 a5 a6 l7 l8 M = some q) : zEV iX6_sheet 0 0 (zZO (some (.inl q.1), q.2)) 161 [(0, .inr (.inr 157)), (1, .inl a1), (2, .inl a2), (3, .inl a3), (4, .inl a4), (5, .inl a5), (6, .inl a6), (7, .inl l7), (8, .inl l8)] [] M := by
  unfold fX6_sheet_161 at h
  refine zEV.iinc (v := (l8 + 1)) dX6_sheet_161 8 rfl rfl (Nat.le_of_ble_eq_true rfl) rfl ?_
  refine zEV.goto 126 dX6_sheet_164 (by decide) ?_
  exact zEV.perm [1, 2, 3, 4, 5, 6, 7, 8, 0] rfl (hK126 (l7) ((l8 + 1)) M q h)
def fX6_sheet_126 (a1 : Int32) (a2 : Int32) (a3 : Int32) (a4 : Int32) (a5 : Int32) (a6 : Int32) : Nat → Int32 → Int32 → zMM → Option (Int32 × zMM)
  | 0, _, _, _ => none
  | n + 1, l7, l8, M =>
  if a4 ≤ l8 then
    some (l7, M)
  else
    (fX6_entry (a3) (a5) (a6) (l8) M).bind fun q2 =>
    (fX0_setSize 0 (a1) ((a2 + l8)) (q2.1) q2.2).bind fun q3 =>
    if q3.1 = (0 : Int32) then
      fX6_sheet_161 (fX6_sheet_126 a1 a2 a3 a4 a5 a6 n) a1 a2 a3 a4 a5 a6 (l7) (l8) q3.2
    else
      fX6_sheet_161 (fX6_sheet_126 a1 a2 a3 a4 a5 a6 n) a1 a2 a3 a4 a5 a6 ((l7 + 1)) (l8) q3.2
set_option maxRecDepth 100000 in
theorem tX6_sheet_126 (a1 : Int32) (a2 : Int32) (a3 : Int32) (a4 : Int32) (a5 : Int32) (a6 : Int32) : ∀ (n : Nat) (l7 : Int32) (l8 : Int32) (M : zMM) (q : Int32 × zMM), fX6_sheet_126 a1 a2 a3 a4 a5 a6 n l7 l8 M = some q → zEV iX6_sheet 0 0 (zZO (some (.inl q.1), q.2)) 126 [(0, .inr (.inr 157)), (1, .inl a1), (2, .inl a2), (3, .inl a3), (4, .inl a4), (5, .inl a5), (6, .inl a6), (7, .inl l7), (8, .inl l8)] [] M := by
  intro n
  induction n with
  | zero =>
    intro l7 l8 M q h
    rw [fX6_sheet_126] at h
    cases h
  | succ n ih =>
    intro l7 l8 M q h
    rw [fX6_sheet_126] at h
    refine zEV.iload dX6_sheet_126 8 rfl ?_
    refine zEV.iload dX6_sheet_128 4 rfl ?_
    refine zEV.icmp_ge 167 dX6_sheet_130 (by decide) (fun c1 => ?_) (fun c1 => ?_)
    · rw [if_pos c1] at h
      refine zEV.iload dX6_sheet_167 7 rfl ?_
      have h := Option.some.inj h
      subst h
      exact zEV.iret rfl dX6_sheet_169
    · rw [if_neg c1] at h
      refine zEV.aload_n dX6_sheet_133 rfl 0 rfl ?_
      refine zEV.gfr rfl inz6 0 (by decide) wf_RX6_12 (by decide) rfl rfl dX6_sheet_134 ?_
      refine zEV.iload_n dX6_sheet_137 rfl 1 rfl ?_
      refine zEV.iload_n dX6_sheet_138 rfl 2 rfl ?_
      refine zEV.iload dX6_sheet_139 8 rfl ?_
      refine zEV.iadd dX6_sheet_141 ?_
      refine zEV.iload_n dX6_sheet_142 rfl 3 rfl ?_
      refine zEV.iload dX6_sheet_143 5 rfl ?_
      refine zEV.iload dX6_sheet_145 6 rfl ?_
      refine zEV.iload dX6_sheet_147 8 rfl ?_
      obtain ⟨q2, hq2, h⟩ := bind_yes h
      refine zEV.callSi (kX6_entry (a3) (a5) (a6) (l8)  M q2 hq2) wm_RX6_98 wc_X6_entry hy_X6_entry rfl ⟨Nat.le_of_ble_eq_true rfl, Nat.le_of_ble_eq_true rfl⟩ rfl (Nat.le_of_ble_eq_true rfl) dX6_sheet_149 ?_
      obtain ⟨q3, hq3, h⟩ := bind_yes h
      refine zEV.callVi (kX0_setSize 0 (a1) ((a2 + l8)) (q2.1) lf_0 q2.2 q3 hq3) (by decide) rfl rfl wm_RX6_109 wc_X0_setSize hy_X0_setSize rfl ⟨Nat.le_of_ble_eq_true rfl, Nat.le_of_ble_eq_true rfl⟩ rfl (Nat.le_of_ble_eq_true rfl) dX6_sheet_152 ?_
      refine zEV.if_eq 161 dX6_sheet_155 (by decide) (fun c4 => ?_) (fun c4 => ?_)
      · rw [if_pos c4] at h
        exact zEV.perm [0, 1, 2, 3, 4, 5, 6, 7, 8] rfl (tX6_sheet_161 (fX6_sheet_126 a1 a2 a3 a4 a5 a6 n) a1 a2 a3 a4 a5 a6 (fun l7 l8 M9 q9 h9 => ih l7 l8 M9 q9 h9) (l7) (l8) q3.2 q h)
      · rw [if_neg c4] at h
        refine zEV.iinc (v := (l7 + 1)) dX6_sheet_158 7 rfl rfl (Nat.le_of_ble_eq_true rfl) rfl ?_
        exact zEV.perm [1, 2, 3, 4, 5, 6, 7, 0, 8] rfl (tX6_sheet_161 (fX6_sheet_126 a1 a2 a3 a4 a5 a6 n) a1 a2 a3 a4 a5 a6 (fun l7 l8 M9 q9 h9 => ih l7 l8 M9 q9 h9) ((l7 + 1)) (l8) q3.2 q h)
def fX6_sheet_91 (K44 : Int32 → zMM → Option (Int32 × zMM)) (a1 : Int32) (a2 : Int32) (a3 : Int32) (a4 : Int32) (a5 : Int32) (a6 : Int32) (l7 : Int32) (s0 : Int32) (M : zMM) : Option (Int32 × zMM) :=
  if s0 = (0 : Int32) then
    K44 ((l7 + 1)) M
  else
    (fX2_tell_ ((Int32.toInt64 l7)) ((Int32.toInt64 s0)) M).bind fun q2 =>
    some ((-4), q2)
set_option maxRecDepth 100000 in
theorem tX6_sheet_91 (K44 : Int32 → zMM → Option (Int32 × zMM)) (a1 : Int32) (a2 : Int32) (a3 : Int32) (a4 : Int32) (a5 : Int32) (a6 : Int32) (hK44 : ∀ (l7 : Int32) (M : zMM) (q : Int32 × zMM), K44 l7 M = some q → zEV iX6_sheet 0 0 (zZO (some (.inl q.1), q.2)) 44 [(0, .inr (.inr 157)), (1, .inl a1), (2, .inl a2), (3, .inl a3), (4, .inl a4), (5, .inl a5), (6, .inl a6), (7, .inl l7)] [] M) (l7 : Int32) (s0 : Int32) (M : zMM) (q : Int32 × zMM) (h : fX6_sheet_91 K44 a1 a2 a3 a4 a5 a6 l7 s0 M = some q) : zEV iX6_sheet 0 0 (zZO (some (.inl q.1), q.2)) 91 [(0, .inr (.inr 157)), (1, .inl a1), (2, .inl a2), (3, .inl a3), (4, .inl a4), (5, .inl a5), (6, .inl a6), (7, .inl l7)] [.inl s0] M := by
  unfold fX6_sheet_91 at h
  refine zEV.istore dX6_sheet_91 (Nat.le_of_ble_eq_true rfl) rfl ?_
  refine zEV.iload dX6_sheet_93 0 rfl ?_
  refine zEV.if_eq 114 dX6_sheet_95 (by decide) (fun c1 => ?_) (fun c1 => ?_)
  · rw [if_pos c1] at h
    refine zEV.iinc (v := (l7 + 1)) dX6_sheet_114 8 rfl rfl (Nat.le_of_ble_eq_true rfl) rfl ?_
    refine zEV.goto 44 dX6_sheet_117 (by decide) ?_
    exact zEV.perm [2, 3, 4, 5, 6, 7, 8, 0] rfl (hK44 ((l7 + 1)) M q h)
  · rw [if_neg c1] at h
    refine zEV.aload_n dX6_sheet_98 rfl 1 rfl ?_
    refine zEV.gfr rfl inz6 8 (by decide) wf_RX6_58 (by decide) rfl rfl dX6_sheet_99 ?_
    refine zEV.iload dX6_sheet_102 8 rfl ?_
    refine zEV.i2l dX6_sheet_104 ?_
    refine zEV.iload dX6_sheet_105 0 rfl ?_
    refine zEV.i2l dX6_sheet_107 ?_
    obtain ⟨q2, hq2, h⟩ := bind_yes h
    refine zEV.callVv (kX2_tell_ ((Int32.toInt64 l7)) ((Int32.toInt64 s0))  M q2 hq2) (by decide) rfl rfl wm_RX6_105 wc_X2_tell_ hy_X2_tell_ rfl ⟨Nat.le_of_ble_eq_true rfl, Nat.le_of_ble_eq_true rfl⟩ rfl (Nat.le_of_ble_eq_true rfl) dX6_sheet_108 ?_
    refine zEV.bipush (v := (-4)) dX6_sheet_111 rfl ?_
    have h := Option.some.inj h
    subst h
    exact zEV.iret rfl dX6_sheet_113
def fX6_sheet_44 (a1 : Int32) (a2 : Int32) (a3 : Int32) (a4 : Int32) (a5 : Int32) (a6 : Int32) : Nat → Int32 → zMM → Option (Int32 × zMM)
  | 0, _, _ => none
  | n + 1, l7, M =>
  if a4 ≤ l7 then
    fX6_sheet_126 a1 a2 a3 a4 a5 a6 zFU (0) (0) M
  else
    (fX0_hasWord 0 (a1) ((a2 + l7)) M).bind fun q2 =>
    if q2.1 = (0 : Int32) then
      fX6_sheet_91 (fX6_sheet_44 a1 a2 a3 a4 a5 a6 n) a1 a2 a3 a4 a5 a6 (l7) (1) q2.2
    else
      (fX6_entry (a3) (a5) (a6) (l7) q2.2).bind fun q4 =>
      (fX6_isSize (q4.1) q4.2).bind fun q5 =>
      if q5.1 = (0 : Int32) then
        fX6_sheet_91 (fX6_sheet_44 a1 a2 a3 a4 a5 a6 n) a1 a2 a3 a4 a5 a6 (l7) (2) q5.2
      else
        fX6_sheet_91 (fX6_sheet_44 a1 a2 a3 a4 a5 a6 n) a1 a2 a3 a4 a5 a6 (l7) (0) q5.2
set_option maxRecDepth 100000 in
theorem tX6_sheet_44 (a1 : Int32) (a2 : Int32) (a3 : Int32) (a4 : Int32) (a5 : Int32) (a6 : Int32) : ∀ (n : Nat) (l7 : Int32) (M : zMM) (q : Int32 × zMM), fX6_sheet_44 a1 a2 a3 a4 a5 a6 n l7 M = some q → zEV iX6_sheet 0 0 (zZO (some (.inl q.1), q.2)) 44 [(0, .inr (.inr 157)), (1, .inl a1), (2, .inl a2), (3, .inl a3), (4, .inl a4), (5, .inl a5), (6, .inl a6), (7, .inl l7)] [] M := by
  intro n
  induction n with
  | zero =>
    intro l7 M q h
    rw [fX6_sheet_44] at h
    cases h
  | succ n ih =>
    intro l7 M q h
    rw [fX6_sheet_44] at h
    refine zEV.iload dX6_sheet_44 7 rfl ?_
    refine zEV.iload dX6_sheet_46 4 rfl ?_
    refine zEV.icmp_ge 120 dX6_sheet_48 (by decide) (fun c1 => ?_) (fun c1 => ?_)
    · rw [if_pos c1] at h
      refine zEV.iconst (v := 0) dX6_sheet_120 rfl ?_
      refine zEV.istore dX6_sheet_121 (Nat.le_of_ble_eq_true rfl) rfl ?_
      refine zEV.iconst (v := 0) dX6_sheet_123 rfl ?_
      refine zEV.istore dX6_sheet_124 (Nat.le_of_ble_eq_true rfl) rfl ?_
      exact zEV.perm [2, 3, 4, 5, 6, 7, 8, 1, 0] rfl (tX6_sheet_126 a1 a2 a3 a4 a5 a6 zFU (0) (0) M q h)
    · rw [if_neg c1] at h
      refine zEV.aload_n dX6_sheet_51 rfl 0 rfl ?_
      refine zEV.gfr rfl inz6 0 (by decide) wf_RX6_12 (by decide) rfl rfl dX6_sheet_52 ?_
      refine zEV.iload_n dX6_sheet_55 rfl 1 rfl ?_
      refine zEV.iload_n dX6_sheet_56 rfl 2 rfl ?_
      refine zEV.iload dX6_sheet_57 7 rfl ?_
      refine zEV.iadd dX6_sheet_59 ?_
      obtain ⟨q2, hq2, h⟩ := bind_yes h
      refine zEV.callVi (kX0_hasWord 0 (a1) ((a2 + l7)) lf_0 M q2 hq2) (by decide) rfl rfl wm_RX6_94 wc_X0_hasWord hy_X0_hasWord rfl ⟨Nat.le_of_ble_eq_true rfl, Nat.le_of_ble_eq_true rfl⟩ rfl (Nat.le_of_ble_eq_true rfl) dX6_sheet_60 ?_
      refine zEV.if_ne 70 dX6_sheet_63 (by decide) (fun c3 => ?_) (fun c3 => ?_)
      · rw [if_neg c3] at h
        refine zEV.iload_n dX6_sheet_70 rfl 3 rfl ?_
        refine zEV.iload dX6_sheet_71 5 rfl ?_
        refine zEV.iload dX6_sheet_73 6 rfl ?_
        refine zEV.iload dX6_sheet_75 7 rfl ?_
        obtain ⟨q4, hq4, h⟩ := bind_yes h
        refine zEV.callSi (kX6_entry (a3) (a5) (a6) (l7)  q2.2 q4 hq4) wm_RX6_98 wc_X6_entry hy_X6_entry rfl ⟨Nat.le_of_ble_eq_true rfl, Nat.le_of_ble_eq_true rfl⟩ rfl (Nat.le_of_ble_eq_true rfl) dX6_sheet_77 ?_
        obtain ⟨q5, hq5, h⟩ := bind_yes h
        refine zEV.callSi (kX6_isSize (q4.1)  q4.2 q5 hq5) wm_RX6_102 wc_X6_isSize hy_X6_isSize rfl ⟨Nat.le_of_ble_eq_true rfl, Nat.le_of_ble_eq_true rfl⟩ rfl (Nat.le_of_ble_eq_true rfl) dX6_sheet_80 ?_
        refine zEV.if_ne 90 dX6_sheet_83 (by decide) (fun c6 => ?_) (fun c6 => ?_)
        · rw [if_neg c6] at h
          refine zEV.iconst (v := 0) dX6_sheet_90 rfl ?_
          exact zEV.perm [0, 1, 2, 3, 4, 5, 6, 7] rfl (tX6_sheet_91 (fX6_sheet_44 a1 a2 a3 a4 a5 a6 n) a1 a2 a3 a4 a5 a6 (fun l7 M9 q9 h9 => ih l7 M9 q9 h9) (l7) (0) q5.2 q h)
        · rw [if_pos c6] at h
          refine zEV.iconst (v := 2) dX6_sheet_86 rfl ?_
          refine zEV.goto 91 dX6_sheet_87 (by decide) ?_
          exact zEV.perm [0, 1, 2, 3, 4, 5, 6, 7] rfl (tX6_sheet_91 (fX6_sheet_44 a1 a2 a3 a4 a5 a6 n) a1 a2 a3 a4 a5 a6 (fun l7 M9 q9 h9 => ih l7 M9 q9 h9) (l7) (2) q5.2 q h)
      · rw [if_pos c3] at h
        refine zEV.iconst (v := 1) dX6_sheet_66 rfl ?_
        refine zEV.goto 91 dX6_sheet_67 (by decide) ?_
        exact zEV.perm [0, 1, 2, 3, 4, 5, 6, 7] rfl (tX6_sheet_91 (fX6_sheet_44 a1 a2 a3 a4 a5 a6 n) a1 a2 a3 a4 a5 a6 (fun l7 M9 q9 h9 => ih l7 M9 q9 h9) (l7) (1) q2.2 q h)
def fX6_sheet (a1 : Int32) (a2 : Int32) (a3 : Int32) (a4 : Int32) (a5 : Int32) (a6 : Int32) (M : zMM) : Option (Int32 × zMM) :=
  (fX6_isText (a1) M).bind fun q1 =>
  if q1.1 = (0 : Int32) then
    some ((-1), q1.2)
  else
    if a3 < (0 : Int32) then
      some ((-1), q1.2)
    else
      if (3 : Int32) < a3 then
        some ((-1), q1.2)
      else
        if a4 ≤ 70 then
          if a3 = 3 then
            some ((-3), q1.2)
          else
            if (0 : Int32) ≤ a4 then
              fX6_sheet_44 a1 a2 a3 a4 a5 a6 zFU (0) q1.2
            else
              some ((-2), q1.2)
        else
          some ((-1), q1.2)
set_option maxRecDepth 100000 in
theorem tX6_sheet_0 (a1 : Int32) (a2 : Int32) (a3 : Int32) (a4 : Int32) (a5 : Int32) (a6 : Int32) (M : zMM) (q : Int32 × zMM) (h : fX6_sheet a1 a2 a3 a4 a5 a6  M = some q) : zEV iX6_sheet 0 0 (zZO (some (.inl q.1), q.2)) 0 [(0, .inr (.inr 157)), (1, .inl a1), (2, .inl a2), (3, .inl a3), (4, .inl a4), (5, .inl a5), (6, .inl a6)] [] M := by
  unfold fX6_sheet at h
  refine zEV.iload_n dX6_sheet_0 rfl 1 rfl ?_
  obtain ⟨q1, hq1, h⟩ := bind_yes h
  refine zEV.callSi (kX6_isText (a1)  M q1 hq1) wm_RX6_77 wc_X6_isText hy_X6_isText rfl ⟨Nat.le_of_ble_eq_true rfl, Nat.le_of_ble_eq_true rfl⟩ rfl (Nat.le_of_ble_eq_true rfl) dX6_sheet_1 ?_
  refine zEV.if_eq 23 dX6_sheet_4 (by decide) (fun c2 => ?_) (fun c2 => ?_)
  · rw [if_pos c2] at h
    refine zEV.iconst (v := (-1)) dX6_sheet_23 rfl ?_
    have h := Option.some.inj h
    subst h
    exact zEV.iret rfl dX6_sheet_24
  · rw [if_neg c2] at h
    refine zEV.iload_n dX6_sheet_7 rfl 3 rfl ?_
    refine zEV.if_lt 23 dX6_sheet_8 (by decide) (fun c3 => ?_) (fun c3 => ?_)
    · rw [if_pos c3] at h
      refine zEV.iconst (v := (-1)) dX6_sheet_23 rfl ?_
      have h := Option.some.inj h
      subst h
      exact zEV.iret rfl dX6_sheet_24
    · rw [if_neg c3] at h
      refine zEV.iload_n dX6_sheet_11 rfl 3 rfl ?_
      refine zEV.iconst (v := 3) dX6_sheet_12 rfl ?_
      refine zEV.icmp_gt 23 dX6_sheet_13 (by decide) (fun c4 => ?_) (fun c4 => ?_)
      · rw [if_pos c4] at h
        refine zEV.iconst (v := (-1)) dX6_sheet_23 rfl ?_
        have h := Option.some.inj h
        subst h
        exact zEV.iret rfl dX6_sheet_24
      · rw [if_neg c4] at h
        refine zEV.iload dX6_sheet_16 4 rfl ?_
        refine zEV.bipush (v := 70) dX6_sheet_18 rfl ?_
        refine zEV.icmp_le 25 dX6_sheet_20 (by decide) (fun c5 => ?_) (fun c5 => ?_)
        · rw [if_pos c5] at h
          refine zEV.iload_n dX6_sheet_25 rfl 3 rfl ?_
          refine zEV.iconst (v := 3) dX6_sheet_26 rfl ?_
          refine zEV.icmp_ne 33 dX6_sheet_27 (by decide) (fun c6 => ?_) (fun c6 => ?_)
          · rw [if_neg c6] at h
            refine zEV.iload dX6_sheet_33 4 rfl ?_
            refine zEV.if_ge 41 dX6_sheet_35 (by decide) (fun c7 => ?_) (fun c7 => ?_)
            · rw [if_pos c7] at h
              refine zEV.iconst (v := 0) dX6_sheet_41 rfl ?_
              refine zEV.istore dX6_sheet_42 (Nat.le_of_ble_eq_true rfl) rfl ?_
              exact zEV.perm [1, 2, 3, 4, 5, 6, 7, 0] rfl (tX6_sheet_44 a1 a2 a3 a4 a5 a6 zFU (0) q1.2 q h)
            · rw [if_neg c7] at h
              refine zEV.bipush (v := (-2)) dX6_sheet_38 rfl ?_
              have h := Option.some.inj h
              subst h
              exact zEV.iret rfl dX6_sheet_40
          · rw [if_pos c6] at h
            refine zEV.bipush (v := (-3)) dX6_sheet_30 rfl ?_
            have h := Option.some.inj h
            subst h
            exact zEV.iret rfl dX6_sheet_32
        · rw [if_neg c5] at h
          refine zEV.iconst (v := (-1)) dX6_sheet_23 rfl ?_
          have h := Option.some.inj h
          subst h
          exact zEV.iret rfl dX6_sheet_24
theorem kX6_sheet (a1 : Int32) (a2 : Int32) (a3 : Int32) (a4 : Int32) (a5 : Int32) (a6 : Int32) (M : zMM) (q : Int32 × zMM) (h : fX6_sheet a1 a2 a3 a4 a5 a6 M = some q) : zCN yX6_sheet iX6_sheet [.inr (.inr 157), .inl a1, .inl a2, .inl a3, .inl a4, .inl a5, .inl a6] M (some (.inl q.1), q.2) :=
  zCN.of (by decide) rfl rfl (Nat.le_of_ble_eq_true rfl) (zEV.perm [0, 1, 2, 3, 4, 5, 6] rfl (tX6_sheet_0 a1 a2 a3 a4 a5 a6 M q h))
-- RingedPage.pages
def fX6_pages_55 (l1 : Int32) (s0 : Int64) (M : zMM) : Option (Int32 × zMM) :=
  (fX2_tell (s0) M).bind fun q1 =>
  some (l1, q1)
set_option maxRecDepth 100000 in
theorem tX6_pages_55 (l1 : Int32) (s0 : Int64) (M : zMM) (q : Int32 × zMM) (h : fX6_pages_55 l1 s0 M = some q) : zEV iX6_pages 0 0 (zZO (some (.inl q.1), q.2)) 55 [(1, .inl l1)] [.inr (.inl s0), .inr (.inr 155)] M := by
  unfold fX6_pages_55 at h
  obtain ⟨q1, hq1, h⟩ := bind_yes h
  refine zEV.callVv (kX2_tell (s0)  M q1 hq1) (by decide) rfl rfl wm_RX6_126 wc_X2_tell hy_X2_tell rfl ⟨Nat.le_of_ble_eq_true rfl, Nat.le_of_ble_eq_true rfl⟩ rfl (Nat.le_of_ble_eq_true rfl) dX6_pages_55 ?_
  refine zEV.iload_n dX6_pages_58 rfl 0 rfl ?_
  have h := Option.some.inj h
  subst h
  exact zEV.iret rfl dX6_pages_59
def fX6_pages (M : zMM) : Option (Int32 × zMM) :=
  (fX4_set 0 M).bind fun q1 =>
  (fX4_pageCount 0 q1).bind fun q2 =>
  if q2.1 = (0 : Int32) then
    fX6_pages_55 (q2.1) ((0 : Int64)) q2.2
  else
    fX6_pages_55 (q2.1) ((Int32.toInt64 ((q2.2.1 120 0) - ((q2.1 - 1) * (q2.2.1 0 1))))) q2.2
set_option maxRecDepth 100000 in
theorem tX6_pages_0 (M : zMM) (q : Int32 × zMM) (h : fX6_pages  M = some q) : zEV iX6_pages 0 0 (zZO (some (.inl q.1), q.2)) 0 [(0, .inr (.inr 157))] [] M := by
  unfold fX6_pages at h
  refine zEV.aload_n dX6_pages_0 rfl 0 rfl ?_
  refine zEV.gfr rfl inz6 2 (by decide) wf_RX6_22 (by decide) rfl rfl dX6_pages_1 ?_
  refine zEV.aload_n dX6_pages_4 rfl 0 rfl ?_
  refine zEV.gfr rfl inz6 0 (by decide) wf_RX6_12 (by decide) rfl rfl dX6_pages_5 ?_
  obtain ⟨q1, hq1, h⟩ := bind_yes h
  refine zEV.callVv (kX4_set 0 lf_0 M q1 hq1) (by decide) rfl rfl wm_RX6_113 wc_X4_set hy_X4_set rfl ⟨Nat.le_of_ble_eq_true rfl, Nat.le_of_ble_eq_true rfl⟩ rfl (Nat.le_of_ble_eq_true rfl) dX6_pages_8 ?_
  refine zEV.aload_n dX6_pages_11 rfl 0 rfl ?_
  refine zEV.gfr rfl inz6 2 (by decide) wf_RX6_22 (by decide) rfl rfl dX6_pages_12 ?_
  refine zEV.aload_n dX6_pages_15 rfl 0 rfl ?_
  refine zEV.gfr rfl inz6 0 (by decide) wf_RX6_12 (by decide) rfl rfl dX6_pages_16 ?_
  obtain ⟨q2, hq2, h⟩ := bind_yes h
  refine zEV.callVi (kX4_pageCount 0 lf_0 q1 q2 hq2) (by decide) rfl rfl wm_RX6_116 wc_X4_pageCount hy_X4_pageCount rfl ⟨Nat.le_of_ble_eq_true rfl, Nat.le_of_ble_eq_true rfl⟩ rfl (Nat.le_of_ble_eq_true rfl) dX6_pages_19 ?_
  refine zEV.istore_n dX6_pages_22 rfl (Nat.le_of_ble_eq_true rfl) rfl ?_
  refine zEV.aload_n dX6_pages_23 rfl 1 rfl ?_
  refine zEV.gfr rfl inz6 8 (by decide) wf_RX6_58 (by decide) rfl rfl dX6_pages_24 ?_
  refine zEV.iload_n dX6_pages_27 rfl 0 rfl ?_
  refine zEV.if_ne 35 dX6_pages_28 (by decide) (fun c3 => ?_) (fun c3 => ?_)
  · rw [if_neg c3] at h
    refine zEV.aload_n dX6_pages_35 rfl 1 rfl ?_
    refine zEV.gfr rfl inz6 2 (by decide) wf_RX6_22 (by decide) rfl rfl dX6_pages_36 ?_
    refine zEV.gfi rfl inz4 0 (by decide) wf_RX6_120 (by decide) rfl rfl dX6_pages_39 ?_
    refine zEV.iload_n dX6_pages_42 rfl 0 rfl ?_
    refine zEV.iconst (v := 1) dX6_pages_43 rfl ?_
    refine zEV.isub dX6_pages_44 ?_
    refine zEV.aload_n dX6_pages_45 rfl 1 rfl ?_
    refine zEV.gfr rfl inz6 0 (by decide) wf_RX6_12 (by decide) rfl rfl dX6_pages_46 ?_
    refine zEV.gfi rfl inz0 1 (by decide) wf_RX6_123 (by decide) rfl rfl dX6_pages_49 ?_
    refine zEV.imul dX6_pages_52 ?_
    refine zEV.isub dX6_pages_53 ?_
    refine zEV.i2l dX6_pages_54 ?_
    exact zEV.perm [0] rfl (tX6_pages_55 (q2.1) ((Int32.toInt64 ((q2.2.1 120 0) - ((q2.1 - 1) * (q2.2.1 0 1))))) q2.2 q h)
  · rw [if_pos c3] at h
    refine zEV.lconst (v := 0) dX6_pages_31 rfl ?_
    refine zEV.goto 55 dX6_pages_32 (by decide) ?_
    exact zEV.perm [0] rfl (tX6_pages_55 (q2.1) ((0 : Int64)) q2.2 q h)
theorem kX6_pages (M : zMM) (q : Int32 × zMM) (h : fX6_pages M = some q) : zCN yX6_pages iX6_pages [.inr (.inr 157)] M (some (.inl q.1), q.2) :=
  zCN.of (by decide) rfl rfl (Nat.le_of_ble_eq_true rfl) (zEV.perm [0] rfl (tX6_pages_0 M q h))
-- RingedPage.placeOf
def fX6_placeOf (a1 : Int32) (a2 : Int32) (M : zMM) : Option (Int32 × zMM) :=
  (fX4_set 0 M).bind fun q1 =>
  if a1 < (0 : Int32) then
    some ((-1), q1)
  else
    (fX4_pageCount 0 q1).bind fun q3 =>
    if q3.1 ≤ a1 then
      some ((-1), q3.2)
    else
      if a2 < (0 : Int32) then
        some ((-1), q3.2)
      else
        if a2 < (q3.2.1 0 1) then
          some (((a1 * (q3.2.1 0 1)) + a2), q3.2)
        else
          some ((-1), q3.2)
set_option maxRecDepth 100000 in
theorem tX6_placeOf_0 (a1 : Int32) (a2 : Int32) (M : zMM) (q : Int32 × zMM) (h : fX6_placeOf a1 a2  M = some q) : zEV iX6_placeOf 0 0 (zZO (some (.inl q.1), q.2)) 0 [(0, .inr (.inr 157)), (1, .inl a1), (2, .inl a2)] [] M := by
  unfold fX6_placeOf at h
  refine zEV.aload_n dX6_placeOf_0 rfl 0 rfl ?_
  refine zEV.gfr rfl inz6 2 (by decide) wf_RX6_22 (by decide) rfl rfl dX6_placeOf_1 ?_
  refine zEV.aload_n dX6_placeOf_4 rfl 0 rfl ?_
  refine zEV.gfr rfl inz6 0 (by decide) wf_RX6_12 (by decide) rfl rfl dX6_placeOf_5 ?_
  obtain ⟨q1, hq1, h⟩ := bind_yes h
  refine zEV.callVv (kX4_set 0 lf_0 M q1 hq1) (by decide) rfl rfl wm_RX6_113 wc_X4_set hy_X4_set rfl ⟨Nat.le_of_ble_eq_true rfl, Nat.le_of_ble_eq_true rfl⟩ rfl (Nat.le_of_ble_eq_true rfl) dX6_placeOf_8 ?_
  refine zEV.iload_n dX6_placeOf_11 rfl 1 rfl ?_
  refine zEV.if_lt 45 dX6_placeOf_12 (by decide) (fun c2 => ?_) (fun c2 => ?_)
  · rw [if_pos c2] at h
    refine zEV.iconst (v := (-1)) dX6_placeOf_45 rfl ?_
    have h := Option.some.inj h
    subst h
    exact zEV.iret rfl dX6_placeOf_46
  · rw [if_neg c2] at h
    refine zEV.iload_n dX6_placeOf_15 rfl 1 rfl ?_
    refine zEV.aload_n dX6_placeOf_16 rfl 0 rfl ?_
    refine zEV.gfr rfl inz6 2 (by decide) wf_RX6_22 (by decide) rfl rfl dX6_placeOf_17 ?_
    refine zEV.aload_n dX6_placeOf_20 rfl 0 rfl ?_
    refine zEV.gfr rfl inz6 0 (by decide) wf_RX6_12 (by decide) rfl rfl dX6_placeOf_21 ?_
    obtain ⟨q3, hq3, h⟩ := bind_yes h
    refine zEV.callVi (kX4_pageCount 0 lf_0 q1 q3 hq3) (by decide) rfl rfl wm_RX6_116 wc_X4_pageCount hy_X4_pageCount rfl ⟨Nat.le_of_ble_eq_true rfl, Nat.le_of_ble_eq_true rfl⟩ rfl (Nat.le_of_ble_eq_true rfl) dX6_placeOf_24 ?_
    refine zEV.icmp_ge 45 dX6_placeOf_27 (by decide) (fun c4 => ?_) (fun c4 => ?_)
    · rw [if_pos c4] at h
      refine zEV.iconst (v := (-1)) dX6_placeOf_45 rfl ?_
      have h := Option.some.inj h
      subst h
      exact zEV.iret rfl dX6_placeOf_46
    · rw [if_neg c4] at h
      refine zEV.iload_n dX6_placeOf_30 rfl 2 rfl ?_
      refine zEV.if_lt 45 dX6_placeOf_31 (by decide) (fun c5 => ?_) (fun c5 => ?_)
      · rw [if_pos c5] at h
        refine zEV.iconst (v := (-1)) dX6_placeOf_45 rfl ?_
        have h := Option.some.inj h
        subst h
        exact zEV.iret rfl dX6_placeOf_46
      · rw [if_neg c5] at h
        refine zEV.iload_n dX6_placeOf_34 rfl 2 rfl ?_
        refine zEV.aload_n dX6_placeOf_35 rfl 0 rfl ?_
        refine zEV.gfr rfl inz6 0 (by decide) wf_RX6_12 (by decide) rfl rfl dX6_placeOf_36 ?_
        refine zEV.gfi rfl inz0 1 (by decide) wf_RX6_123 (by decide) rfl rfl dX6_placeOf_39 ?_
        refine zEV.icmp_lt 47 dX6_placeOf_42 (by decide) (fun c6 => ?_) (fun c6 => ?_)
        · rw [if_pos c6] at h
          refine zEV.iload_n dX6_placeOf_47 rfl 1 rfl ?_
          refine zEV.aload_n dX6_placeOf_48 rfl 0 rfl ?_
          refine zEV.gfr rfl inz6 0 (by decide) wf_RX6_12 (by decide) rfl rfl dX6_placeOf_49 ?_
          refine zEV.gfi rfl inz0 1 (by decide) wf_RX6_123 (by decide) rfl rfl dX6_placeOf_52 ?_
          refine zEV.imul dX6_placeOf_55 ?_
          refine zEV.iload_n dX6_placeOf_56 rfl 2 rfl ?_
          refine zEV.iadd dX6_placeOf_57 ?_
          have h := Option.some.inj h
          subst h
          exact zEV.iret rfl dX6_placeOf_58
        · rw [if_neg c6] at h
          refine zEV.iconst (v := (-1)) dX6_placeOf_45 rfl ?_
          have h := Option.some.inj h
          subst h
          exact zEV.iret rfl dX6_placeOf_46
theorem kX6_placeOf (a1 : Int32) (a2 : Int32) (M : zMM) (q : Int32 × zMM) (h : fX6_placeOf a1 a2 M = some q) : zCN yX6_placeOf iX6_placeOf [.inr (.inr 157), .inl a1, .inl a2] M (some (.inl q.1), q.2) :=
  zCN.of (by decide) rfl rfl (Nat.le_of_ble_eq_true rfl) (zEV.perm [0, 1, 2] rfl (tX6_placeOf_0 a1 a2 M q h))
-- RingedPage.part
def fX6_part (a1 : Int32) (a2 : Int32) (a3 : Int32) (M : zMM) : Option (Int32 × zMM) :=
  (fX6_placeOf (a1) (a2) M).bind fun q1 =>
  if q1.1 < (0 : Int32) then
    some ((-1), q1.2)
  else
    (fX6_isText (a3) q1.2).bind fun q3 =>
    if q3.1 = (0 : Int32) then
      some ((-1), q3.2)
    else
      (fX4_takenAt (a3) (q1.1) q3.2).bind fun q5 =>
      if q5.1 = (0 : Int32) then
        some ((-2), q5.2)
      else
        if oob (a3) 3 then none else
        if oob (q1.1) 210 then none else
        (fX2_tell___ ((Int32.toInt64 (q5.2.1 (129 + 1 * Int32.toNatClampNeg a3) (Int32.toNatClampNeg q1.1)))) ((Int32.toInt64 (q5.2.1 (137 + 1 * Int32.toNatClampNeg a3) (Int32.toNatClampNeg q1.1)))) ((Int32.toInt64 (q5.2.1 (141 + 1 * Int32.toNatClampNeg a3) (Int32.toNatClampNeg q1.1)))) ((Int32.toInt64 (q5.2.1 (145 + 1 * Int32.toNatClampNeg a3) (Int32.toNatClampNeg q1.1)))) q5.2).bind fun q9 =>
        some (q5.1, q9)
set_option maxRecDepth 100000 in
theorem tX6_part_0 (a1 : Int32) (a2 : Int32) (a3 : Int32) (M : zMM) (q : Int32 × zMM) (h : fX6_part a1 a2 a3  M = some q) : zEV iX6_part 0 0 (zZO (some (.inl q.1), q.2)) 0 [(0, .inr (.inr 157)), (1, .inl a1), (2, .inl a2), (3, .inl a3)] [] M := by
  unfold fX6_part at h
  refine zEV.aload_n dX6_part_0 rfl 0 rfl ?_
  refine zEV.iload_n dX6_part_1 rfl 1 rfl ?_
  refine zEV.iload_n dX6_part_2 rfl 2 rfl ?_
  obtain ⟨q1, hq1, h⟩ := bind_yes h
  refine zEV.callVi (kX6_placeOf (a1) (a2)  M q1 hq1) (by decide) rfl rfl wm_RX6_129 wc_X6_placeOf hy_X6_placeOf rfl ⟨Nat.le_of_ble_eq_true rfl, Nat.le_of_ble_eq_true rfl⟩ rfl (Nat.le_of_ble_eq_true rfl) dX6_part_3 ?_
  refine zEV.istore dX6_part_6 (Nat.le_of_ble_eq_true rfl) rfl ?_
  refine zEV.iload dX6_part_8 0 rfl ?_
  refine zEV.if_lt 20 dX6_part_10 (by decide) (fun c2 => ?_) (fun c2 => ?_)
  · rw [if_pos c2] at h
    refine zEV.iconst (v := (-1)) dX6_part_20 rfl ?_
    have h := Option.some.inj h
    subst h
    exact zEV.iret rfl dX6_part_21
  · rw [if_neg c2] at h
    refine zEV.iload_n dX6_part_13 rfl 4 rfl ?_
    obtain ⟨q3, hq3, h⟩ := bind_yes h
    refine zEV.callSi (kX6_isText (a3)  q1.2 q3 hq3) wm_RX6_77 wc_X6_isText hy_X6_isText rfl ⟨Nat.le_of_ble_eq_true rfl, Nat.le_of_ble_eq_true rfl⟩ rfl (Nat.le_of_ble_eq_true rfl) dX6_part_14 ?_
    refine zEV.if_ne 22 dX6_part_17 (by decide) (fun c4 => ?_) (fun c4 => ?_)
    · rw [if_neg c4] at h
      refine zEV.aload_n dX6_part_22 rfl 1 rfl ?_
      refine zEV.gfr rfl inz6 2 (by decide) wf_RX6_22 (by decide) rfl rfl dX6_part_23 ?_
      refine zEV.iload_n dX6_part_26 rfl 4 rfl ?_
      refine zEV.iload dX6_part_27 0 rfl ?_
      obtain ⟨q5, hq5, h⟩ := bind_yes h
      refine zEV.callVi (kX4_takenAt (a3) (q1.1)  q3.2 q5 hq5) (by decide) rfl rfl wm_RX6_133 wc_X4_takenAt hy_X4_takenAt rfl ⟨Nat.le_of_ble_eq_true rfl, Nat.le_of_ble_eq_true rfl⟩ rfl (Nat.le_of_ble_eq_true rfl) dX6_part_29 ?_
      refine zEV.istore dX6_part_32 (Nat.le_of_ble_eq_true rfl) rfl ?_
      refine zEV.iload dX6_part_34 0 rfl ?_
      refine zEV.if_ne 42 dX6_part_36 (by decide) (fun c6 => ?_) (fun c6 => ?_)
      · rw [if_neg c6] at h
        refine zEV.aload_n dX6_part_42 rfl 2 rfl ?_
        refine zEV.gfr rfl inz6 8 (by decide) wf_RX6_58 (by decide) rfl rfl dX6_part_43 ?_
        refine zEV.aload_n dX6_part_46 rfl 2 rfl ?_
        refine zEV.gfr rfl inz6 2 (by decide) wf_RX6_22 (by decide) rfl rfl dX6_part_47 ?_
        refine zEV.gfr rfl inz4 5 (by decide) wf_RX6_136 (by decide) rfl rfl dX6_part_50 ?_
        refine zEV.iload_n dX6_part_53 rfl 5 rfl ?_
        obtain ⟨g7, h⟩ := ite_no h
        refine zEV.aald (by decide) (by decide) rfl g7 dX6_part_54 ?_
        refine zEV.iload dX6_part_55 1 rfl ?_
        obtain ⟨g8, h⟩ := ite_no h
        refine zEV.iald (st_row129 g7).1 (st_row129 g7).2 g8 dX6_part_57 ?_
        refine zEV.i2l dX6_part_58 ?_
        refine zEV.aload_n dX6_part_59 rfl 2 rfl ?_
        refine zEV.gfr rfl inz6 2 (by decide) wf_RX6_22 (by decide) rfl rfl dX6_part_60 ?_
        refine zEV.gfr rfl inz4 7 (by decide) wf_RX6_140 (by decide) rfl rfl dX6_part_63 ?_
        refine zEV.iload_n dX6_part_66 rfl 5 rfl ?_
        refine zEV.aald (by decide) (by decide) rfl g7 dX6_part_67 ?_
        refine zEV.iload dX6_part_68 1 rfl ?_
        refine zEV.iald (st_row137 g7).1 (st_row137 g7).2 g8 dX6_part_70 ?_
        refine zEV.i2l dX6_part_71 ?_
        refine zEV.aload_n dX6_part_72 rfl 2 rfl ?_
        refine zEV.gfr rfl inz6 2 (by decide) wf_RX6_22 (by decide) rfl rfl dX6_part_73 ?_
        refine zEV.gfr rfl inz4 8 (by decide) wf_RX6_143 (by decide) rfl rfl dX6_part_76 ?_
        refine zEV.iload_n dX6_part_79 rfl 5 rfl ?_
        refine zEV.aald (by decide) (by decide) rfl g7 dX6_part_80 ?_
        refine zEV.iload dX6_part_81 1 rfl ?_
        refine zEV.iald (st_row141 g7).1 (st_row141 g7).2 g8 dX6_part_83 ?_
        refine zEV.i2l dX6_part_84 ?_
        refine zEV.aload_n dX6_part_85 rfl 2 rfl ?_
        refine zEV.gfr rfl inz6 2 (by decide) wf_RX6_22 (by decide) rfl rfl dX6_part_86 ?_
        refine zEV.gfr rfl inz4 9 (by decide) wf_RX6_146 (by decide) rfl rfl dX6_part_89 ?_
        refine zEV.iload_n dX6_part_92 rfl 5 rfl ?_
        refine zEV.aald (by decide) (by decide) rfl g7 dX6_part_93 ?_
        refine zEV.iload dX6_part_94 1 rfl ?_
        refine zEV.iald (st_row145 g7).1 (st_row145 g7).2 g8 dX6_part_96 ?_
        refine zEV.i2l dX6_part_97 ?_
        obtain ⟨q9, hq9, h⟩ := bind_yes h
        refine zEV.callVv (kX2_tell___ ((Int32.toInt64 (q5.2.1 (129 + 1 * Int32.toNatClampNeg a3) (Int32.toNatClampNeg q1.1)))) ((Int32.toInt64 (q5.2.1 (137 + 1 * Int32.toNatClampNeg a3) (Int32.toNatClampNeg q1.1)))) ((Int32.toInt64 (q5.2.1 (141 + 1 * Int32.toNatClampNeg a3) (Int32.toNatClampNeg q1.1)))) ((Int32.toInt64 (q5.2.1 (145 + 1 * Int32.toNatClampNeg a3) (Int32.toNatClampNeg q1.1))))  q5.2 q9 hq9) (by decide) rfl rfl wm_RX6_149 wc_X2_tell___ hy_X2_tell___ rfl ⟨Nat.le_of_ble_eq_true rfl, Nat.le_of_ble_eq_true rfl⟩ rfl (Nat.le_of_ble_eq_true rfl) dX6_part_98 ?_
        refine zEV.iload dX6_part_101 0 rfl ?_
        have h := Option.some.inj h
        subst h
        exact zEV.iret rfl dX6_part_103
      · rw [if_pos c6] at h
        refine zEV.bipush (v := (-2)) dX6_part_39 rfl ?_
        have h := Option.some.inj h
        subst h
        exact zEV.iret rfl dX6_part_41
    · rw [if_pos c4] at h
      refine zEV.iconst (v := (-1)) dX6_part_20 rfl ?_
      have h := Option.some.inj h
      subst h
      exact zEV.iret rfl dX6_part_21
theorem kX6_part (a1 : Int32) (a2 : Int32) (a3 : Int32) (M : zMM) (q : Int32 × zMM) (h : fX6_part a1 a2 a3 M = some q) : zCN yX6_part iX6_part [.inr (.inr 157), .inl a1, .inl a2, .inl a3] M (some (.inl q.1), q.2) :=
  zCN.of (by decide) rfl rfl (Nat.le_of_ble_eq_true rfl) (zEV.perm [0, 1, 2, 3] rfl (tX6_part_0 a1 a2 a3 M q h))
-- RingedPage.word
def fX6_word (a1 : Int32) (a2 : Int32) (a3 : Int32) (M : zMM) : Option (Option Int32 × zMM) :=
  (fX0_hasWord 0 (a1) (a2) M).bind fun q1 =>
  if q1.1 = (0 : Int32) then
    some (none, q1.2)
  else
    if a3 < (0 : Int32) then
      some (none, q1.2)
    else
      if a3 ≤ 4 then
        (fX4_set 0 q1.2).bind fun q5 =>
        if oob (a1) 3 then none else
        if oob (a2) 70 then none else
        if a3 = (0 : Int32) then
          (fX0_pageOf 0 ((q5.1 (125 + 1 * Int32.toNatClampNeg a1) (Int32.toNatClampNeg a2))) q5).bind fun q9 =>
          some (some q9.1, q9.2)
        else
          if a3 = (1 : Int32) then
            (fX0_pageOf 0 ((q5.1 (125 + 1 * Int32.toNatClampNeg a1) (Int32.toNatClampNeg a2))) q5).bind fun q10 =>
            some (some ((q5.1 (125 + 1 * Int32.toNatClampNeg a1) (Int32.toNatClampNeg a2)) - (q10.1 * (q10.2.1 0 1))), q10.2)
          else
            if a3 = (2 : Int32) then
              (fX4_columnOf 0 (a1) (a2) q5).bind fun q11 =>
              some (some q11.1, q11.2)
            else
              if a3 = (3 : Int32) then
                some (some (q5.1 (4 + 1 * Int32.toNatClampNeg a1) (Int32.toNatClampNeg a2)), q5)
              else
                if oob ((q5.1 (125 + 1 * Int32.toNatClampNeg a1) (Int32.toNatClampNeg a2))) 210 then none else
                some (some (a2 - (q5.1 (129 + 1 * Int32.toNatClampNeg a1) (Int32.toNatClampNeg (q5.1 (125 + 1 * Int32.toNatClampNeg a1) (Int32.toNatClampNeg a2))))), q5)
      else
        some (none, q1.2)
set_option maxRecDepth 100000 in
theorem tX6_word_0 (a1 : Int32) (a2 : Int32) (a3 : Int32) (M : zMM) (q : Option Int32 × zMM) (h : fX6_word a1 a2 a3  M = some q) : zEV iX6_word 1 6 (zZX (Option.map (fun v => (.inl v : zAV)) q.1, q.2)) 0 [(0, .inr (.inr 157)), (1, .inl a1), (2, .inl a2), (3, .inl a3)] [] M := by
  unfold fX6_word at h
  refine zEV.aload_n dX6_word_0 rfl 0 rfl ?_
  refine zEV.gfr rfl inz6 0 (by decide) wf_RX6_12 (by decide) rfl rfl dX6_word_1 ?_
  refine zEV.iload_n dX6_word_4 rfl 1 rfl ?_
  refine zEV.iload_n dX6_word_5 rfl 2 rfl ?_
  obtain ⟨q1, hq1, h⟩ := bind_yes h
  refine zEV.callVi (kX0_hasWord 0 (a1) (a2) lf_0 M q1 hq1) (by decide) rfl rfl wm_RX6_94 wc_X0_hasWord hy_X0_hasWord rfl ⟨Nat.le_of_ble_eq_true rfl, Nat.le_of_ble_eq_true rfl⟩ rfl (Nat.le_of_ble_eq_true rfl) dX6_word_6 ?_
  refine zEV.if_eq 21 dX6_word_9 (by decide) (fun c2 => ?_) (fun c2 => ?_)
  · rw [if_pos c2] at h
    have h := Option.some.inj h
    subst h
    exact zEV.throw rfl ⟨Nat.le_of_ble_eq_true rfl, Nat.le_of_ble_eq_true rfl⟩ dX6_word_21 dX6_word_24 dX6_word_25 dX6_word_28
  · rw [if_neg c2] at h
    refine zEV.iload_n dX6_word_12 rfl 3 rfl ?_
    refine zEV.if_lt 21 dX6_word_13 (by decide) (fun c3 => ?_) (fun c3 => ?_)
    · rw [if_pos c3] at h
      have h := Option.some.inj h
      subst h
      exact zEV.throw rfl ⟨Nat.le_of_ble_eq_true rfl, Nat.le_of_ble_eq_true rfl⟩ dX6_word_21 dX6_word_24 dX6_word_25 dX6_word_28
    · rw [if_neg c3] at h
      refine zEV.iload_n dX6_word_16 rfl 3 rfl ?_
      refine zEV.iconst (v := 4) dX6_word_17 rfl ?_
      refine zEV.icmp_le 29 dX6_word_18 (by decide) (fun c4 => ?_) (fun c4 => ?_)
      · rw [if_pos c4] at h
        refine zEV.aload_n dX6_word_29 rfl 0 rfl ?_
        refine zEV.gfr rfl inz6 2 (by decide) wf_RX6_22 (by decide) rfl rfl dX6_word_30 ?_
        refine zEV.aload_n dX6_word_33 rfl 0 rfl ?_
        refine zEV.gfr rfl inz6 0 (by decide) wf_RX6_12 (by decide) rfl rfl dX6_word_34 ?_
        obtain ⟨q5, hq5, h⟩ := bind_yes h
        refine zEV.callVv (kX4_set 0 lf_0 q1.2 q5 hq5) (by decide) rfl rfl wm_RX6_113 wc_X4_set hy_X4_set rfl ⟨Nat.le_of_ble_eq_true rfl, Nat.le_of_ble_eq_true rfl⟩ rfl (Nat.le_of_ble_eq_true rfl) dX6_word_37 ?_
        refine zEV.aload_n dX6_word_40 rfl 0 rfl ?_
        refine zEV.gfr rfl inz6 2 (by decide) wf_RX6_22 (by decide) rfl rfl dX6_word_41 ?_
        refine zEV.gfr rfl inz4 4 (by decide) wf_RX6_155 (by decide) rfl rfl dX6_word_44 ?_
        refine zEV.iload_n dX6_word_47 rfl 1 rfl ?_
        obtain ⟨g6, h⟩ := ite_no h
        refine zEV.aald (by decide) (by decide) rfl g6 dX6_word_48 ?_
        refine zEV.iload_n dX6_word_49 rfl 2 rfl ?_
        obtain ⟨g7, h⟩ := ite_no h
        refine zEV.iald (st_row125 g6).1 (st_row125 g6).2 g7 dX6_word_50 ?_
        refine zEV.istore dX6_word_51 (Nat.le_of_ble_eq_true rfl) rfl ?_
        refine zEV.iload_n dX6_word_53 rfl 4 rfl ?_
        by_cases c8_0 : a3 = (0 : Int32)
        · rw [if_pos c8_0] at h
          refine zEV.tabIn 84 dX6_word_54 (0) c8_0 (by decide) (by decide) rfl (by decide) ?_
          refine zEV.aload_n dX6_word_84 rfl 1 rfl ?_
          refine zEV.gfr rfl inz6 0 (by decide) wf_RX6_12 (by decide) rfl rfl dX6_word_85 ?_
          refine zEV.iload dX6_word_88 0 rfl ?_
          obtain ⟨q9, hq9, h⟩ := bind_yes h
          refine zEV.callVi (kX0_pageOf 0 ((q5.1 (125 + 1 * Int32.toNatClampNeg a1) (Int32.toNatClampNeg a2))) lf_0 q5 q9 hq9) (by decide) rfl rfl wm_RX6_158 wc_X0_pageOf hy_X0_pageOf rfl ⟨Nat.le_of_ble_eq_true rfl, Nat.le_of_ble_eq_true rfl⟩ rfl (Nat.le_of_ble_eq_true rfl) dX6_word_90 ?_
          have h := Option.some.inj h
          subst h
          exact zEV.iretX rfl dX6_word_93
        · rw [if_neg c8_0] at h
          by_cases c8_1 : a3 = (1 : Int32)
          · rw [if_pos c8_1] at h
            refine zEV.tabIn 94 dX6_word_54 (1) c8_1 (by decide) (by decide) rfl (by decide) ?_
            refine zEV.iload dX6_word_94 0 rfl ?_
            refine zEV.aload_n dX6_word_96 rfl 1 rfl ?_
            refine zEV.gfr rfl inz6 0 (by decide) wf_RX6_12 (by decide) rfl rfl dX6_word_97 ?_
            refine zEV.iload dX6_word_100 0 rfl ?_
            obtain ⟨q10, hq10, h⟩ := bind_yes h
            refine zEV.callVi (kX0_pageOf 0 ((q5.1 (125 + 1 * Int32.toNatClampNeg a1) (Int32.toNatClampNeg a2))) lf_0 q5 q10 hq10) (by decide) rfl rfl wm_RX6_158 wc_X0_pageOf hy_X0_pageOf rfl ⟨Nat.le_of_ble_eq_true rfl, Nat.le_of_ble_eq_true rfl⟩ rfl (Nat.le_of_ble_eq_true rfl) dX6_word_102 ?_
            refine zEV.aload_n dX6_word_105 rfl 1 rfl ?_
            refine zEV.gfr rfl inz6 0 (by decide) wf_RX6_12 (by decide) rfl rfl dX6_word_106 ?_
            refine zEV.gfi rfl inz0 1 (by decide) wf_RX6_123 (by decide) rfl rfl dX6_word_109 ?_
            refine zEV.imul dX6_word_112 ?_
            refine zEV.isub dX6_word_113 ?_
            have h := Option.some.inj h
            subst h
            exact zEV.iretX rfl dX6_word_114
          · rw [if_neg c8_1] at h
            by_cases c8_2 : a3 = (2 : Int32)
            · rw [if_pos c8_2] at h
              refine zEV.tabIn 115 dX6_word_54 (2) c8_2 (by decide) (by decide) rfl (by decide) ?_
              refine zEV.aload_n dX6_word_115 rfl 1 rfl ?_
              refine zEV.gfr rfl inz6 2 (by decide) wf_RX6_22 (by decide) rfl rfl dX6_word_116 ?_
              refine zEV.aload_n dX6_word_119 rfl 1 rfl ?_
              refine zEV.gfr rfl inz6 0 (by decide) wf_RX6_12 (by decide) rfl rfl dX6_word_120 ?_
              refine zEV.iload_n dX6_word_123 rfl 2 rfl ?_
              refine zEV.iload_n dX6_word_124 rfl 3 rfl ?_
              obtain ⟨q11, hq11, h⟩ := bind_yes h
              refine zEV.callVi (kX4_columnOf 0 (a1) (a2) lf_0 q5 q11 hq11) (by decide) rfl rfl wm_RX6_161 wc_X4_columnOf hy_X4_columnOf rfl ⟨Nat.le_of_ble_eq_true rfl, Nat.le_of_ble_eq_true rfl⟩ rfl (Nat.le_of_ble_eq_true rfl) dX6_word_125 ?_
              have h := Option.some.inj h
              subst h
              exact zEV.iretX rfl dX6_word_128
            · rw [if_neg c8_2] at h
              by_cases c8_3 : a3 = (3 : Int32)
              · rw [if_pos c8_3] at h
                refine zEV.tabIn 129 dX6_word_54 (3) c8_3 (by decide) (by decide) rfl (by decide) ?_
                refine zEV.aload_n dX6_word_129 rfl 1 rfl ?_
                refine zEV.gfr rfl inz6 0 (by decide) wf_RX6_12 (by decide) rfl rfl dX6_word_130 ?_
                refine zEV.gfr rfl inz0 9 (by decide) wf_RX6_165 (by decide) rfl rfl dX6_word_133 ?_
                refine zEV.iload_n dX6_word_136 rfl 2 rfl ?_
                refine zEV.aald (by decide) (by decide) rfl g6 dX6_word_137 ?_
                refine zEV.iload_n dX6_word_138 rfl 3 rfl ?_
                refine zEV.iald (lf_row0 g6).1 (lf_row0 g6).2 g7 dX6_word_139 ?_
                have h := Option.some.inj h
                subst h
                exact zEV.iretX rfl dX6_word_140
              · rw [if_neg c8_3] at h
                refine zEV.tabOut 141 3 dX6_word_54 (by decide) (by decide) rfl (fun k hk => ?_) (by decide) ?_
                · match k, hk with
                  | 0, _ => exact c8_0
                  | 1, _ => exact c8_1
                  | 2, _ => exact c8_2
                  | 3, _ => exact c8_3
                  | k + 4, hk => exact absurd hk (by omega)
                refine zEV.iload_n dX6_word_141 rfl 3 rfl ?_
                refine zEV.aload_n dX6_word_142 rfl 1 rfl ?_
                refine zEV.gfr rfl inz6 2 (by decide) wf_RX6_22 (by decide) rfl rfl dX6_word_143 ?_
                refine zEV.gfr rfl inz4 5 (by decide) wf_RX6_136 (by decide) rfl rfl dX6_word_146 ?_
                refine zEV.iload_n dX6_word_149 rfl 2 rfl ?_
                refine zEV.aald (by decide) (by decide) rfl g6 dX6_word_150 ?_
                refine zEV.iload dX6_word_151 0 rfl ?_
                obtain ⟨g12, h⟩ := ite_no h
                refine zEV.iald (st_row129 g6).1 (st_row129 g6).2 g12 dX6_word_153 ?_
                refine zEV.isub dX6_word_154 ?_
                have h := Option.some.inj h
                subst h
                exact zEV.iretX rfl dX6_word_155
      · rw [if_neg c4] at h
        have h := Option.some.inj h
        subst h
        exact zEV.throw rfl ⟨Nat.le_of_ble_eq_true rfl, Nat.le_of_ble_eq_true rfl⟩ dX6_word_21 dX6_word_24 dX6_word_25 dX6_word_28
theorem kX6_word (a1 : Int32) (a2 : Int32) (a3 : Int32) (M : zMM) (q : Option Int32 × zMM) (h : fX6_word a1 a2 a3 M = some q) : zCX1 yX6_word iX6_word [.inr (.inr 157), .inl a1, .inl a2, .inl a3] M (Option.map (fun v => (.inl v : zAV)) q.1, q.2) :=
  zCX1.of (by decide) rfl rfl (Nat.le_of_ble_eq_true rfl) (zEV.perm [0, 1, 2, 3] rfl (tX6_word_0 a1 a2 a3 M q h))
-- RingedPage.at
def fX6_at_141 (K33 : Int32 → Int32 → zMM → Option (Int32 × zMM)) (K55 : Int32 → Int32 → Int32 → Int32 → zMM → Option (Int32 × zMM)) (a1 : Int32) (a2 : Int32) (a3 : Int32) (l4 : Int32) (l5 : Int32) (l6 : Int32) (l7 : Int32) (M : zMM) : Option (Int32 × zMM) :=
  K55 (l4) (l5) (l6) ((l7 + 1)) M
set_option maxRecDepth 100000 in
theorem tX6_at_141 (K33 : Int32 → Int32 → zMM → Option (Int32 × zMM)) (K55 : Int32 → Int32 → Int32 → Int32 → zMM → Option (Int32 × zMM)) (a1 : Int32) (a2 : Int32) (a3 : Int32) (hK33 : ∀ (l4 : Int32) (l5 : Int32) (M : zMM) (q : Int32 × zMM), K33 l4 l5 M = some q → zEV iX6_at 0 0 (zZO (some (.inl q.1), q.2)) 33 [(0, .inr (.inr 157)), (3, .inl a3), (4, .inl l4), (5, .inl l5)] [] M) (hK55 : ∀ (l4 : Int32) (l5 : Int32) (l6 : Int32) (l7 : Int32) (M : zMM) (q : Int32 × zMM), K55 l4 l5 l6 l7 M = some q → zEV iX6_at 0 0 (zZO (some (.inl q.1), q.2)) 55 [(0, .inr (.inr 157)), (3, .inl a3), (4, .inl l4), (5, .inl l5), (6, .inl l6), (7, .inl l7)] [] M) (l4 : Int32) (l5 : Int32) (l6 : Int32) (l7 : Int32) (M : zMM) (q : Int32 × zMM) (h : fX6_at_141 K33 K55 a1 a2 a3 l4 l5 l6 l7 M = some q) : zEV iX6_at 0 0 (zZO (some (.inl q.1), q.2)) 141 [(0, .inr (.inr 157)), (3, .inl a3), (4, .inl l4), (5, .inl l5), (6, .inl l6), (7, .inl l7)] [] M := by
  unfold fX6_at_141 at h
  refine zEV.iinc (v := (l7 + 1)) dX6_at_141 5 rfl rfl (Nat.le_of_ble_eq_true rfl) rfl ?_
  refine zEV.goto 55 dX6_at_144 (by decide) ?_
  exact zEV.perm [1, 2, 3, 4, 5, 0] rfl (hK55 (l4) (l5) (l6) ((l7 + 1)) M q h)
def fX6_at_55 (K33 : Int32 → Int32 → zMM → Option (Int32 × zMM)) (a1 : Int32) (a2 : Int32) (a3 : Int32) : Nat → Int32 → Int32 → Int32 → Int32 → zMM → Option (Int32 × zMM)
  | 0, _, _, _, _, _ => none
  | n + 1, l4, l5, l6, l7, M =>
  if l6 ≤ l7 then
    K33 (l4) ((l5 + 1)) M
  else
    if oob (l5) 3 then none else
    if oob (l4) 210 then none else
    (fX4_columnOf 0 (l5) (((M.1 (129 + 1 * Int32.toNatClampNeg l5) (Int32.toNatClampNeg l4)) + l7)) M).bind fun q4 =>
    if (a3 - q4.1) < (0 : Int32) then
      fX6_at_141 K33 (fX6_at_55 K33 a1 a2 a3 n) a1 a2 a3 (l4) (l5) (l6) (l7) q4.2
    else
      if oob (((M.1 (129 + 1 * Int32.toNatClampNeg l5) (Int32.toNatClampNeg l4)) + l7)) 70 then none else
      if (q4.2.1 (4 + 1 * Int32.toNatClampNeg l5) (Int32.toNatClampNeg ((M.1 (129 + 1 * Int32.toNatClampNeg l5) (Int32.toNatClampNeg l4)) + l7))) ≤ (a3 - q4.1) then
        fX6_at_141 K33 (fX6_at_55 K33 a1 a2 a3 n) a1 a2 a3 (l4) (l5) (l6) (l7) q4.2
      else
        (fX2_tell ((Int32.toInt64 (a3 - q4.1))) q4.2).bind fun q8 =>
        some (((100 * l5) + ((M.1 (129 + 1 * Int32.toNatClampNeg l5) (Int32.toNatClampNeg l4)) + l7)), q8)
set_option maxRecDepth 100000 in
theorem tX6_at_55 (K33 : Int32 → Int32 → zMM → Option (Int32 × zMM)) (a1 : Int32) (a2 : Int32) (a3 : Int32) (hK33 : ∀ (l4 : Int32) (l5 : Int32) (M : zMM) (q : Int32 × zMM), K33 l4 l5 M = some q → zEV iX6_at 0 0 (zZO (some (.inl q.1), q.2)) 33 [(0, .inr (.inr 157)), (3, .inl a3), (4, .inl l4), (5, .inl l5)] [] M) : ∀ (n : Nat) (l4 : Int32) (l5 : Int32) (l6 : Int32) (l7 : Int32) (M : zMM) (q : Int32 × zMM), fX6_at_55 K33 a1 a2 a3 n l4 l5 l6 l7 M = some q → zEV iX6_at 0 0 (zZO (some (.inl q.1), q.2)) 55 [(0, .inr (.inr 157)), (3, .inl a3), (4, .inl l4), (5, .inl l5), (6, .inl l6), (7, .inl l7)] [] M := by
  intro n
  induction n with
  | zero =>
    intro l4 l5 l6 l7 M q h
    rw [fX6_at_55] at h
    cases h
  | succ n ih =>
    intro l4 l5 l6 l7 M q h
    rw [fX6_at_55] at h
    refine zEV.iload dX6_at_55 5 rfl ?_
    refine zEV.iload dX6_at_57 4 rfl ?_
    refine zEV.icmp_ge 147 dX6_at_59 (by decide) (fun c1 => ?_) (fun c1 => ?_)
    · rw [if_pos c1] at h
      refine zEV.iinc (v := (l5 + 1)) dX6_at_147 3 rfl rfl (Nat.le_of_ble_eq_true rfl) rfl ?_
      refine zEV.goto 33 dX6_at_150 (by decide) ?_
      exact zEV.perm [1, 2, 3, 0] rfl (hK33 (l4) ((l5 + 1)) M q h)
    · rw [if_neg c1] at h
      refine zEV.aload_n dX6_at_62 rfl 0 rfl ?_
      refine zEV.gfr rfl inz6 2 (by decide) wf_RX6_22 (by decide) rfl rfl dX6_at_63 ?_
      refine zEV.gfr rfl inz4 5 (by decide) wf_RX6_136 (by decide) rfl rfl dX6_at_66 ?_
      refine zEV.iload dX6_at_69 3 rfl ?_
      obtain ⟨g2, h⟩ := ite_no h
      refine zEV.aald (by decide) (by decide) rfl g2 dX6_at_71 ?_
      refine zEV.iload dX6_at_72 2 rfl ?_
      obtain ⟨g3, h⟩ := ite_no h
      refine zEV.iald (st_row129 g2).1 (st_row129 g2).2 g3 dX6_at_74 ?_
      refine zEV.iload dX6_at_75 5 rfl ?_
      refine zEV.iadd dX6_at_77 ?_
      refine zEV.istore dX6_at_78 (Nat.le_of_ble_eq_true rfl) rfl ?_
      refine zEV.iload_n dX6_at_80 rfl 2 rfl ?_
      refine zEV.aload_n dX6_at_81 rfl 1 rfl ?_
      refine zEV.gfr rfl inz6 2 (by decide) wf_RX6_22 (by decide) rfl rfl dX6_at_82 ?_
      refine zEV.aload_n dX6_at_85 rfl 1 rfl ?_
      refine zEV.gfr rfl inz6 0 (by decide) wf_RX6_12 (by decide) rfl rfl dX6_at_86 ?_
      refine zEV.iload dX6_at_89 4 rfl ?_
      refine zEV.iload dX6_at_91 0 rfl ?_
      obtain ⟨q4, hq4, h⟩ := bind_yes h
      refine zEV.callVi (kX4_columnOf 0 (l5) (((M.1 (129 + 1 * Int32.toNatClampNeg l5) (Int32.toNatClampNeg l4)) + l7)) lf_0 M q4 hq4) (by decide) rfl rfl wm_RX6_161 wc_X4_columnOf hy_X4_columnOf rfl ⟨Nat.le_of_ble_eq_true rfl, Nat.le_of_ble_eq_true rfl⟩ rfl (Nat.le_of_ble_eq_true rfl) dX6_at_93 ?_
      refine zEV.isub dX6_at_96 ?_
      refine zEV.istore dX6_at_97 (Nat.le_of_ble_eq_true rfl) rfl ?_
      refine zEV.iload dX6_at_99 0 rfl ?_
      refine zEV.if_lt 141 dX6_at_101 (by decide) (fun c5 => ?_) (fun c5 => ?_)
      · rw [if_pos c5] at h
        exact zEV.perm [2, 3, 4, 5, 6, 7] rfl (tX6_at_141 K33 (fX6_at_55 K33 a1 a2 a3 n) a1 a2 a3 hK33 (fun l4 l5 l6 l7 M9 q9 h9 => ih l4 l5 l6 l7 M9 q9 h9) (l4) (l5) (l6) (l7) q4.2 q h)
      · rw [if_neg c5] at h
        refine zEV.iload dX6_at_104 0 rfl ?_
        refine zEV.aload_n dX6_at_106 rfl 2 rfl ?_
        refine zEV.gfr rfl inz6 0 (by decide) wf_RX6_12 (by decide) rfl rfl dX6_at_107 ?_
        refine zEV.gfr rfl inz0 9 (by decide) wf_RX6_165 (by decide) rfl rfl dX6_at_110 ?_
        refine zEV.iload dX6_at_113 5 rfl ?_
        refine zEV.aald (by decide) (by decide) rfl g2 dX6_at_115 ?_
        refine zEV.iload dX6_at_116 1 rfl ?_
        obtain ⟨g6, h⟩ := ite_no h
        refine zEV.iald (lf_row0 g2).1 (lf_row0 g2).2 g6 dX6_at_118 ?_
        refine zEV.icmp_ge 141 dX6_at_119 (by decide) (fun c7 => ?_) (fun c7 => ?_)
        · rw [if_pos c7] at h
          exact zEV.perm [2, 3, 4, 5, 6, 7] rfl (tX6_at_141 K33 (fX6_at_55 K33 a1 a2 a3 n) a1 a2 a3 hK33 (fun l4 l5 l6 l7 M9 q9 h9 => ih l4 l5 l6 l7 M9 q9 h9) (l4) (l5) (l6) (l7) q4.2 q h)
        · rw [if_neg c7] at h
          refine zEV.aload_n dX6_at_122 rfl 2 rfl ?_
          refine zEV.gfr rfl inz6 8 (by decide) wf_RX6_58 (by decide) rfl rfl dX6_at_123 ?_
          refine zEV.iload dX6_at_126 0 rfl ?_
          refine zEV.i2l dX6_at_128 ?_
          obtain ⟨q8, hq8, h⟩ := bind_yes h
          refine zEV.callVv (kX2_tell ((Int32.toInt64 (a3 - q4.1)))  q4.2 q8 hq8) (by decide) rfl rfl wm_RX6_126 wc_X2_tell hy_X2_tell rfl ⟨Nat.le_of_ble_eq_true rfl, Nat.le_of_ble_eq_true rfl⟩ rfl (Nat.le_of_ble_eq_true rfl) dX6_at_129 ?_
          refine zEV.bipush (v := 100) dX6_at_132 rfl ?_
          refine zEV.iload dX6_at_134 5 rfl ?_
          refine zEV.imul dX6_at_136 ?_
          refine zEV.iload dX6_at_137 1 rfl ?_
          refine zEV.iadd dX6_at_139 ?_
          have h := Option.some.inj h
          subst h
          exact zEV.iret rfl dX6_at_140
def fX6_at_33 (a1 : Int32) (a2 : Int32) (a3 : Int32) : Nat → Int32 → Int32 → zMM → Option (Int32 × zMM)
  | 0, _, _, _ => none
  | n + 1, l4, l5, M =>
  if (3 : Int32) ≤ l5 then
    some ((-2), M)
  else
    (fX4_takenAt (l5) (l4) M).bind fun q2 =>
    fX6_at_55 (fX6_at_33 a1 a2 a3 n) a1 a2 a3 zFU (l4) (l5) (q2.1) (0) q2.2
set_option maxRecDepth 100000 in
theorem tX6_at_33 (a1 : Int32) (a2 : Int32) (a3 : Int32) : ∀ (n : Nat) (l4 : Int32) (l5 : Int32) (M : zMM) (q : Int32 × zMM), fX6_at_33 a1 a2 a3 n l4 l5 M = some q → zEV iX6_at 0 0 (zZO (some (.inl q.1), q.2)) 33 [(0, .inr (.inr 157)), (3, .inl a3), (4, .inl l4), (5, .inl l5)] [] M := by
  intro n
  induction n with
  | zero =>
    intro l4 l5 M q h
    rw [fX6_at_33] at h
    cases h
  | succ n ih =>
    intro l4 l5 M q h
    rw [fX6_at_33] at h
    refine zEV.iload dX6_at_33 3 rfl ?_
    refine zEV.iconst (v := 3) dX6_at_35 rfl ?_
    refine zEV.icmp_ge 153 dX6_at_36 (by decide) (fun c1 => ?_) (fun c1 => ?_)
    · rw [if_pos c1] at h
      refine zEV.bipush (v := (-2)) dX6_at_153 rfl ?_
      have h := Option.some.inj h
      subst h
      exact zEV.iret rfl dX6_at_155
    · rw [if_neg c1] at h
      refine zEV.aload_n dX6_at_39 rfl 0 rfl ?_
      refine zEV.gfr rfl inz6 2 (by decide) wf_RX6_22 (by decide) rfl rfl dX6_at_40 ?_
      refine zEV.iload dX6_at_43 3 rfl ?_
      refine zEV.iload dX6_at_45 2 rfl ?_
      obtain ⟨q2, hq2, h⟩ := bind_yes h
      refine zEV.callVi (kX4_takenAt (l5) (l4)  M q2 hq2) (by decide) rfl rfl wm_RX6_133 wc_X4_takenAt hy_X4_takenAt rfl ⟨Nat.le_of_ble_eq_true rfl, Nat.le_of_ble_eq_true rfl⟩ rfl (Nat.le_of_ble_eq_true rfl) dX6_at_47 ?_
      refine zEV.istore dX6_at_50 (Nat.le_of_ble_eq_true rfl) rfl ?_
      refine zEV.iconst (v := 0) dX6_at_52 rfl ?_
      refine zEV.istore dX6_at_53 (Nat.le_of_ble_eq_true rfl) rfl ?_
      exact zEV.perm [2, 3, 4, 5, 1, 0] rfl (tX6_at_55 (fX6_at_33 a1 a2 a3 n) a1 a2 a3 (fun l4 l5 M9 q9 h9 => ih l4 l5 M9 q9 h9) zFU (l4) (l5) (q2.1) (0) q2.2 q h)
def fX6_at (a1 : Int32) (a2 : Int32) (a3 : Int32) (M : zMM) : Option (Int32 × zMM) :=
  (fX6_placeOf (a1) (a2) M).bind fun q1 =>
  if q1.1 < (0 : Int32) then
    some ((-1), q1.2)
  else
    if a3 < (0 : Int32) then
      some ((-1), q1.2)
    else
      if a3 < (q1.2.1 0 0) then
        fX6_at_33 a1 a2 a3 zFU (q1.1) (0) q1.2
      else
        some ((-1), q1.2)
set_option maxRecDepth 100000 in
theorem tX6_at_0 (a1 : Int32) (a2 : Int32) (a3 : Int32) (M : zMM) (q : Int32 × zMM) (h : fX6_at a1 a2 a3  M = some q) : zEV iX6_at 0 0 (zZO (some (.inl q.1), q.2)) 0 [(0, .inr (.inr 157)), (1, .inl a1), (2, .inl a2), (3, .inl a3)] [] M := by
  unfold fX6_at at h
  refine zEV.aload_n dX6_at_0 rfl 0 rfl ?_
  refine zEV.iload_n dX6_at_1 rfl 1 rfl ?_
  refine zEV.iload_n dX6_at_2 rfl 2 rfl ?_
  obtain ⟨q1, hq1, h⟩ := bind_yes h
  refine zEV.callVi (kX6_placeOf (a1) (a2)  M q1 hq1) (by decide) rfl rfl wm_RX6_129 wc_X6_placeOf hy_X6_placeOf rfl ⟨Nat.le_of_ble_eq_true rfl, Nat.le_of_ble_eq_true rfl⟩ rfl (Nat.le_of_ble_eq_true rfl) dX6_at_3 ?_
  refine zEV.istore dX6_at_6 (Nat.le_of_ble_eq_true rfl) rfl ?_
  refine zEV.iload dX6_at_8 0 rfl ?_
  refine zEV.if_lt 28 dX6_at_10 (by decide) (fun c2 => ?_) (fun c2 => ?_)
  · rw [if_pos c2] at h
    refine zEV.iconst (v := (-1)) dX6_at_28 rfl ?_
    have h := Option.some.inj h
    subst h
    exact zEV.iret rfl dX6_at_29
  · rw [if_neg c2] at h
    refine zEV.iload_n dX6_at_13 rfl 4 rfl ?_
    refine zEV.if_lt 28 dX6_at_14 (by decide) (fun c3 => ?_) (fun c3 => ?_)
    · rw [if_pos c3] at h
      refine zEV.iconst (v := (-1)) dX6_at_28 rfl ?_
      have h := Option.some.inj h
      subst h
      exact zEV.iret rfl dX6_at_29
    · rw [if_neg c3] at h
      refine zEV.iload_n dX6_at_17 rfl 4 rfl ?_
      refine zEV.aload_n dX6_at_18 rfl 1 rfl ?_
      refine zEV.gfr rfl inz6 0 (by decide) wf_RX6_12 (by decide) rfl rfl dX6_at_19 ?_
      refine zEV.gfi rfl inz0 0 (by decide) wf_RX6_168 (by decide) rfl rfl dX6_at_22 ?_
      refine zEV.icmp_lt 30 dX6_at_25 (by decide) (fun c4 => ?_) (fun c4 => ?_)
      · rw [if_pos c4] at h
        refine zEV.iconst (v := 0) dX6_at_30 rfl ?_
        refine zEV.istore dX6_at_31 (Nat.le_of_ble_eq_true rfl) rfl ?_
        exact zEV.perm [2, 5, 1, 0] rfl (tX6_at_33 a1 a2 a3 zFU (q1.1) (0) q1.2 q h)
      · rw [if_neg c4] at h
        refine zEV.iconst (v := (-1)) dX6_at_28 rfl ?_
        have h := Option.some.inj h
        subst h
        exact zEV.iret rfl dX6_at_29
theorem kX6_at (a1 : Int32) (a2 : Int32) (a3 : Int32) (M : zMM) (q : Int32 × zMM) (h : fX6_at a1 a2 a3 M = some q) : zCN yX6_at iX6_at [.inr (.inr 157), .inl a1, .inl a2, .inl a3] M (some (.inl q.1), q.2) :=
  zCN.of (by decide) rfl rfl (Nat.le_of_ble_eq_true rfl) (zEV.perm [0, 1, 2, 3] rfl (tX6_at_0 a1 a2 a3 M q h))
-- RingedPage.ends
def fX6_ends (a1 : Int32) (M : zMM) : Option (Int32 × zMM) :=
  (fX6_isText (a1) M).bind fun q1 =>
  if q1.1 = (0 : Int32) then
    some ((-1), q1.2)
  else
    (fX4_set 0 q1.2).bind fun q3 =>
    if oob (a1) 3 then none else
    (fX2_tell_ ((Int32.toInt64 (q3.1 122 (Int32.toNatClampNeg a1)))) ((Int32.toInt64 (q3.1 123 (Int32.toNatClampNeg a1)))) q3).bind fun q5 =>
    (fX4_endOf 0 (a1) q5).bind fun q6 =>
    some (q6.1, q6.2)
set_option maxRecDepth 100000 in
theorem tX6_ends_0 (a1 : Int32) (M : zMM) (q : Int32 × zMM) (h : fX6_ends a1  M = some q) : zEV iX6_ends 0 0 (zZO (some (.inl q.1), q.2)) 0 [(0, .inr (.inr 157)), (1, .inl a1)] [] M := by
  unfold fX6_ends at h
  refine zEV.iload_n dX6_ends_0 rfl 1 rfl ?_
  obtain ⟨q1, hq1, h⟩ := bind_yes h
  refine zEV.callSi (kX6_isText (a1)  M q1 hq1) wm_RX6_77 wc_X6_isText hy_X6_isText rfl ⟨Nat.le_of_ble_eq_true rfl, Nat.le_of_ble_eq_true rfl⟩ rfl (Nat.le_of_ble_eq_true rfl) dX6_ends_1 ?_
  refine zEV.if_ne 9 dX6_ends_4 (by decide) (fun c2 => ?_) (fun c2 => ?_)
  · rw [if_neg c2] at h
    refine zEV.aload_n dX6_ends_9 rfl 0 rfl ?_
    refine zEV.gfr rfl inz6 2 (by decide) wf_RX6_22 (by decide) rfl rfl dX6_ends_10 ?_
    refine zEV.aload_n dX6_ends_13 rfl 0 rfl ?_
    refine zEV.gfr rfl inz6 0 (by decide) wf_RX6_12 (by decide) rfl rfl dX6_ends_14 ?_
    obtain ⟨q3, hq3, h⟩ := bind_yes h
    refine zEV.callVv (kX4_set 0 lf_0 q1.2 q3 hq3) (by decide) rfl rfl wm_RX6_113 wc_X4_set hy_X4_set rfl ⟨Nat.le_of_ble_eq_true rfl, Nat.le_of_ble_eq_true rfl⟩ rfl (Nat.le_of_ble_eq_true rfl) dX6_ends_17 ?_
    refine zEV.aload_n dX6_ends_20 rfl 0 rfl ?_
    refine zEV.gfr rfl inz6 8 (by decide) wf_RX6_58 (by decide) rfl rfl dX6_ends_21 ?_
    refine zEV.aload_n dX6_ends_24 rfl 0 rfl ?_
    refine zEV.gfr rfl inz6 2 (by decide) wf_RX6_22 (by decide) rfl rfl dX6_ends_25 ?_
    refine zEV.gfr rfl inz4 2 (by decide) wf_RX6_170 (by decide) rfl rfl dX6_ends_28 ?_
    refine zEV.iload_n dX6_ends_31 rfl 1 rfl ?_
    obtain ⟨g4, h⟩ := ite_no h
    refine zEV.iald (by decide) rfl g4 dX6_ends_32 ?_
    refine zEV.i2l dX6_ends_33 ?_
    refine zEV.aload_n dX6_ends_34 rfl 0 rfl ?_
    refine zEV.gfr rfl inz6 2 (by decide) wf_RX6_22 (by decide) rfl rfl dX6_ends_35 ?_
    refine zEV.gfr rfl inz4 3 (by decide) wf_RX6_174 (by decide) rfl rfl dX6_ends_38 ?_
    refine zEV.iload_n dX6_ends_41 rfl 1 rfl ?_
    refine zEV.iald (by decide) rfl g4 dX6_ends_42 ?_
    refine zEV.i2l dX6_ends_43 ?_
    obtain ⟨q5, hq5, h⟩ := bind_yes h
    refine zEV.callVv (kX2_tell_ ((Int32.toInt64 (q3.1 122 (Int32.toNatClampNeg a1)))) ((Int32.toInt64 (q3.1 123 (Int32.toNatClampNeg a1))))  q3 q5 hq5) (by decide) rfl rfl wm_RX6_105 wc_X2_tell_ hy_X2_tell_ rfl ⟨Nat.le_of_ble_eq_true rfl, Nat.le_of_ble_eq_true rfl⟩ rfl (Nat.le_of_ble_eq_true rfl) dX6_ends_44 ?_
    refine zEV.aload_n dX6_ends_47 rfl 0 rfl ?_
    refine zEV.gfr rfl inz6 2 (by decide) wf_RX6_22 (by decide) rfl rfl dX6_ends_48 ?_
    refine zEV.aload_n dX6_ends_51 rfl 0 rfl ?_
    refine zEV.gfr rfl inz6 0 (by decide) wf_RX6_12 (by decide) rfl rfl dX6_ends_52 ?_
    refine zEV.iload_n dX6_ends_55 rfl 1 rfl ?_
    obtain ⟨q6, hq6, h⟩ := bind_yes h
    refine zEV.callVi (kX4_endOf 0 (a1) lf_0 q5 q6 hq6) (by decide) rfl rfl wm_RX6_177 wc_X4_endOf hy_X4_endOf rfl ⟨Nat.le_of_ble_eq_true rfl, Nat.le_of_ble_eq_true rfl⟩ rfl (Nat.le_of_ble_eq_true rfl) dX6_ends_56 ?_
    have h := Option.some.inj h
    subst h
    exact zEV.iret rfl dX6_ends_59
  · rw [if_pos c2] at h
    refine zEV.iconst (v := (-1)) dX6_ends_7 rfl ?_
    have h := Option.some.inj h
    subst h
    exact zEV.iret rfl dX6_ends_8
theorem kX6_ends (a1 : Int32) (M : zMM) (q : Int32 × zMM) (h : fX6_ends a1 M = some q) : zCN yX6_ends iX6_ends [.inr (.inr 157), .inl a1] M (some (.inl q.1), q.2) :=
  zCN.of (by decide) rfl rfl (Nat.le_of_ble_eq_true rfl) (zEV.perm [0, 1] rfl (tX6_ends_0 a1 M q h))
