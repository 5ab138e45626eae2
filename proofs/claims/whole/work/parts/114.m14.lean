-- RingedPageModel.keep
def fX7_keep_25 (a1 : Int32) : Nat → Int32 → zMM → Option (Int32 × zMM)
  | 0, _, _ => none
  | n + 1, l2, M =>
  if (259 : Int32) ≤ l2 then
    some (1, M)
  else
    if oob (l2) 259 then none else
    if oob (((259 * a1) + l2)) 518 then none else
    fX7_keep_25 a1 n ((l2 + 1)) (wr M 172 (Int32.toNatClampNeg ((259 * a1) + l2)) (M.1 159 (Int32.toNatClampNeg l2)))
set_option maxRecDepth 100000 in
theorem tX7_keep_25 (a1 : Int32) : ∀ (n : Nat) (l2 : Int32) (M : zMM) (q : Int32 × zMM), fX7_keep_25 a1 n l2 M = some q → zEV iX7_keep 0 0 (zZO (some (.inl q.1), q.2)) 25 [(0, .inr (.inr 158)), (1, .inl a1), (2, .inl l2)] [] M := by
  intro n
  induction n with
  | zero =>
    intro l2 M q h
    rw [fX7_keep_25] at h
    cases h
  | succ n ih =>
    intro l2 M q h
    rw [fX7_keep_25] at h
    refine zEV.iload_n dX7_keep_25 rfl 2 rfl ?_
    refine zEV.sipush (v := 259) dX7_keep_26 rfl ?_
    refine zEV.icmp_ge 56 dX7_keep_29 (by decide) (fun c1 => ?_) (fun c1 => ?_)
    · rw [if_pos c1] at h
      refine zEV.iconst (v := 1) dX7_keep_56 rfl ?_
      have h := Option.some.inj h
      subst h
      exact zEV.zret rfl (Or.inr rfl) dX7_keep_57
    · rw [if_neg c1] at h
      refine zEV.aload_n dX7_keep_32 rfl 0 rfl ?_
      refine zEV.gfr rfl inz7 26 (by decide) wf_RX7_51 (by decide) rfl rfl dX7_keep_33 ?_
      refine zEV.sipush (v := 259) dX7_keep_36 rfl ?_
      refine zEV.iload_n dX7_keep_39 rfl 1 rfl ?_
      refine zEV.imul dX7_keep_40 ?_
      refine zEV.iload_n dX7_keep_41 rfl 2 rfl ?_
      refine zEV.iadd dX7_keep_42 ?_
      refine zEV.aload_n dX7_keep_43 rfl 0 rfl ?_
      refine zEV.gfr rfl inz7 0 (by decide) wf_RX7_9 (by decide) rfl rfl dX7_keep_44 ?_
      refine zEV.iload_n dX7_keep_47 rfl 2 rfl ?_
      obtain ⟨g2, h⟩ := ite_no h
      refine zEV.iald (by decide) rfl g2 dX7_keep_48 ?_
      obtain ⟨g3, h⟩ := ite_no h
      refine zEV.iast (by decide) rfl g3 dX7_keep_49 ?_
      refine zEV.iinc (v := (l2 + 1)) dX7_keep_50 2 rfl rfl (Nat.le_of_ble_eq_true rfl) rfl ?_
      refine zEV.goto 25 dX7_keep_53 (by decide) ?_
      exact zEV.perm [1, 2, 0] rfl (ih ((l2 + 1)) (wr M 172 (Int32.toNatClampNeg ((259 * a1) + l2)) (M.1 159 (Int32.toNatClampNeg l2))) q h)
def fX7_keep (a1 : Int32) (M : zMM) : Option (Int32 × zMM) :=
  (fX7_in (a1) (0) (1) (wr M 158 5 0)).bind fun q1 =>
  if q1.1 = (0 : Int32) then
    some (0, q1.2)
  else
    if oob (a1) 2 then none else
    fX7_keep_25 a1 zFU (0) (wr q1.2 173 (Int32.toNatClampNeg a1) (vp_nar .boolean 1))
set_option maxRecDepth 100000 in
theorem tX7_keep_0 (a1 : Int32) (M : zMM) (q : Int32 × zMM) (h : fX7_keep a1  M = some q) : zEV iX7_keep 0 0 (zZO (some (.inl q.1), q.2)) 0 [(0, .inr (.inr 158)), (1, .inl a1)] [] M := by
  unfold fX7_keep at h
  refine zEV.aload_n dX7_keep_0 rfl 0 rfl ?_
  refine zEV.iconst (v := 0) dX7_keep_1 rfl ?_
  refine zEV.pfi rfl inz7 tyX7 tyX7_ok nmX7 5 (by decide) wf_RX7_58 rfl (by decide +kernel) (by decide) rfl rfl dX7_keep_2 ?_
  refine zEV.iload_n dX7_keep_5 rfl 1 rfl ?_
  refine zEV.iconst (v := 0) dX7_keep_6 rfl ?_
  refine zEV.iconst (v := 1) dX7_keep_7 rfl ?_
  obtain ⟨q1, hq1, h⟩ := bind_yes h
  refine zEV.callSi (kX7_in (a1) (0) (1)  (wr M 158 5 0) q1 hq1) wm_RX7_65 wc_X7_in hy_X7_in rfl ⟨Nat.le_of_ble_eq_true rfl, Nat.le_of_ble_eq_true rfl⟩ rfl (Nat.le_of_ble_eq_true rfl) dX7_keep_8 ?_
  refine zEV.if_ne 16 dX7_keep_11 (by decide) (fun c2 => ?_) (fun c2 => ?_)
  · rw [if_neg c2] at h
    refine zEV.aload_n dX7_keep_16 rfl 0 rfl ?_
    refine zEV.gfr rfl inz7 27 (by decide) wf_RX7_54 (by decide) rfl rfl dX7_keep_17 ?_
    refine zEV.iload_n dX7_keep_20 rfl 1 rfl ?_
    refine zEV.iconst (v := 1) dX7_keep_21 rfl ?_
    obtain ⟨g3, h⟩ := ite_no h
    refine zEV.zast (by decide) rfl g3 dX7_keep_22 ?_
    refine zEV.iconst (v := 0) dX7_keep_23 rfl ?_
    refine zEV.istore_n dX7_keep_24 rfl (Nat.le_of_ble_eq_true rfl) rfl ?_
    exact zEV.perm [1, 2, 0] rfl (tX7_keep_25 a1 zFU (0) (wr q1.2 173 (Int32.toNatClampNeg a1) (vp_nar .boolean 1)) q h)
  · rw [if_pos c2] at h
    refine zEV.iconst (v := 0) dX7_keep_14 rfl ?_
    have h := Option.some.inj h
    subst h
    exact zEV.zret rfl (Or.inl rfl) dX7_keep_15
theorem kX7_keep (a1 : Int32) (M : zMM) (q : Int32 × zMM) (h : fX7_keep a1 M = some q) : zCN yX7_keep iX7_keep [.inr (.inr 158), .inl a1] M (some (.inl q.1), q.2) :=
  zCN.of (by decide) rfl rfl (Nat.le_of_ble_eq_true rfl) (zEV.perm [0, 1] rfl (tX7_keep_0 a1 M q h))
-- RingedPageModel.again
def fX7_again_27 (a1 : Int32) : Nat → Int32 → zMM → Option (Int32 × zMM)
  | 0, _, _ => none
  | n + 1, l2, M =>
  if (259 : Int32) ≤ l2 then
    some (1, (wr M 158 24 0))
  else
    if oob (((259 * a1) + l2)) 518 then none else
    if oob (l2) 259 then none else
    fX7_again_27 a1 n ((l2 + 1)) (wr M 159 (Int32.toNatClampNeg l2) (M.1 172 (Int32.toNatClampNeg ((259 * a1) + l2))))
set_option maxRecDepth 100000 in
theorem tX7_again_27 (a1 : Int32) : ∀ (n : Nat) (l2 : Int32) (M : zMM) (q : Int32 × zMM), fX7_again_27 a1 n l2 M = some q → zEV iX7_again 0 0 (zZO (some (.inl q.1), q.2)) 27 [(0, .inr (.inr 158)), (1, .inl a1), (2, .inl l2)] [] M := by
  intro n
  induction n with
  | zero =>
    intro l2 M q h
    rw [fX7_again_27] at h
    cases h
  | succ n ih =>
    intro l2 M q h
    rw [fX7_again_27] at h
    refine zEV.iload_n dX7_again_27 rfl 2 rfl ?_
    refine zEV.sipush (v := 259) dX7_again_28 rfl ?_
    refine zEV.icmp_ge 58 dX7_again_31 (by decide) (fun c1 => ?_) (fun c1 => ?_)
    · rw [if_pos c1] at h
      refine zEV.aload_n dX7_again_58 rfl 0 rfl ?_
      refine zEV.iconst (v := 0) dX7_again_59 rfl ?_
      refine zEV.pfi rfl inz7 tyX7 tyX7_ok nmX7 24 (by decide) wf_RX7_276 rfl (by decide +kernel) (by decide) rfl rfl dX7_again_60 ?_
      refine zEV.iconst (v := 1) dX7_again_63 rfl ?_
      have h := Option.some.inj h
      subst h
      exact zEV.zret rfl (Or.inr rfl) dX7_again_64
    · rw [if_neg c1] at h
      refine zEV.aload_n dX7_again_34 rfl 0 rfl ?_
      refine zEV.gfr rfl inz7 0 (by decide) wf_RX7_9 (by decide) rfl rfl dX7_again_35 ?_
      refine zEV.iload_n dX7_again_38 rfl 2 rfl ?_
      refine zEV.aload_n dX7_again_39 rfl 0 rfl ?_
      refine zEV.gfr rfl inz7 26 (by decide) wf_RX7_51 (by decide) rfl rfl dX7_again_40 ?_
      refine zEV.sipush (v := 259) dX7_again_43 rfl ?_
      refine zEV.iload_n dX7_again_46 rfl 1 rfl ?_
      refine zEV.imul dX7_again_47 ?_
      refine zEV.iload_n dX7_again_48 rfl 2 rfl ?_
      refine zEV.iadd dX7_again_49 ?_
      obtain ⟨g2, h⟩ := ite_no h
      refine zEV.iald (by decide) rfl g2 dX7_again_50 ?_
      obtain ⟨g3, h⟩ := ite_no h
      refine zEV.iast (by decide) rfl g3 dX7_again_51 ?_
      refine zEV.iinc (v := (l2 + 1)) dX7_again_52 2 rfl rfl (Nat.le_of_ble_eq_true rfl) rfl ?_
      refine zEV.goto 27 dX7_again_55 (by decide) ?_
      exact zEV.perm [1, 2, 0] rfl (ih ((l2 + 1)) (wr M 159 (Int32.toNatClampNeg l2) (M.1 172 (Int32.toNatClampNeg ((259 * a1) + l2)))) q h)
def fX7_again (a1 : Int32) (M : zMM) : Option (Int32 × zMM) :=
  (fX7_in (a1) (0) (1) (wr M 158 5 0)).bind fun q1 =>
  if q1.1 = (0 : Int32) then
    some (0, q1.2)
  else
    if oob (a1) 2 then none else
    if (q1.2.1 173 (Int32.toNatClampNeg a1)) = (0 : Int32) then
      some (0, q1.2)
    else
      fX7_again_27 a1 zFU (0) q1.2
set_option maxRecDepth 100000 in
theorem tX7_again_0 (a1 : Int32) (M : zMM) (q : Int32 × zMM) (h : fX7_again a1  M = some q) : zEV iX7_again 0 0 (zZO (some (.inl q.1), q.2)) 0 [(0, .inr (.inr 158)), (1, .inl a1)] [] M := by
  unfold fX7_again at h
  refine zEV.aload_n dX7_again_0 rfl 0 rfl ?_
  refine zEV.iconst (v := 0) dX7_again_1 rfl ?_
  refine zEV.pfi rfl inz7 tyX7 tyX7_ok nmX7 5 (by decide) wf_RX7_58 rfl (by decide +kernel) (by decide) rfl rfl dX7_again_2 ?_
  refine zEV.iload_n dX7_again_5 rfl 1 rfl ?_
  refine zEV.iconst (v := 0) dX7_again_6 rfl ?_
  refine zEV.iconst (v := 1) dX7_again_7 rfl ?_
  obtain ⟨q1, hq1, h⟩ := bind_yes h
  refine zEV.callSi (kX7_in (a1) (0) (1)  (wr M 158 5 0) q1 hq1) wm_RX7_65 wc_X7_in hy_X7_in rfl ⟨Nat.le_of_ble_eq_true rfl, Nat.le_of_ble_eq_true rfl⟩ rfl (Nat.le_of_ble_eq_true rfl) dX7_again_8 ?_
  refine zEV.if_eq 23 dX7_again_11 (by decide) (fun c2 => ?_) (fun c2 => ?_)
  · rw [if_pos c2] at h
    refine zEV.iconst (v := 0) dX7_again_23 rfl ?_
    have h := Option.some.inj h
    subst h
    exact zEV.zret rfl (Or.inl rfl) dX7_again_24
  · rw [if_neg c2] at h
    refine zEV.aload_n dX7_again_14 rfl 0 rfl ?_
    refine zEV.gfr rfl inz7 27 (by decide) wf_RX7_54 (by decide) rfl rfl dX7_again_15 ?_
    refine zEV.iload_n dX7_again_18 rfl 1 rfl ?_
    obtain ⟨g3, h⟩ := ite_no h
    refine zEV.zald (by decide) rfl g3 dX7_again_19 ?_
    refine zEV.if_ne 25 dX7_again_20 (by decide) (fun c4 => ?_) (fun c4 => ?_)
    · rw [if_neg c4] at h
      refine zEV.iconst (v := 0) dX7_again_25 rfl ?_
      refine zEV.istore_n dX7_again_26 rfl (Nat.le_of_ble_eq_true rfl) rfl ?_
      exact zEV.perm [1, 2, 0] rfl (tX7_again_27 a1 zFU (0) q1.2 q h)
    · rw [if_pos c4] at h
      refine zEV.iconst (v := 0) dX7_again_23 rfl ?_
      have h := Option.some.inj h
      subst h
      exact zEV.zret rfl (Or.inl rfl) dX7_again_24
theorem kX7_again (a1 : Int32) (M : zMM) (q : Int32 × zMM) (h : fX7_again a1 M = some q) : zCN yX7_again iX7_again [.inr (.inr 158), .inl a1] M (some (.inl q.1), q.2) :=
  zCN.of (by decide) rfl rfl (Nat.le_of_ble_eq_true rfl) (zEV.perm [0, 1] rfl (tX7_again_0 a1 M q h))
-- RingedPageModel.count
def fX7_count (a1 : Int32) (M : zMM) : Option (Int32 × zMM) :=
  (fX7_in (a1) (0) (7) (wr M 158 5 0)).bind fun q1 =>
  if q1.1 = (0 : Int32) then
    if a1 = (8 : Int32) then
      some ((q1.2.1 159 218), q1.2)
    else
      if a1 = (9 : Int32) then
        some ((q1.2.1 158 24), q1.2)
      else
        if a1 = (10 : Int32) then
          some ((q1.2.1 158 4), q1.2)
        else
          if a1 = (11 : Int32) then
            some ((q1.2.1 158 2), q1.2)
          else
            if a1 = (12 : Int32) then
              some ((q1.2.1 159 255), q1.2)
            else
              (fX7_in (a1) (13) (15) q1.2).bind fun q4 =>
              if q4.1 = (0 : Int32) then
                some ((-1), q4.2)
              else
                if oob (((256 + a1) - 13)) 259 then none else
                some ((q4.2.1 159 (Int32.toNatClampNeg ((256 + a1) - 13))), q4.2)
  else
    if oob (a1) 259 then none else
    some ((q1.2.1 159 (Int32.toNatClampNeg a1)), q1.2)
set_option maxRecDepth 100000 in
theorem tX7_count_0 (a1 : Int32) (M : zMM) (q : Int32 × zMM) (h : fX7_count a1  M = some q) : zEV iX7_count 0 0 (zZO (some (.inl q.1), q.2)) 0 [(0, .inr (.inr 158)), (1, .inl a1)] [] M := by
  unfold fX7_count at h
  refine zEV.aload_n dX7_count_0 rfl 0 rfl ?_
  refine zEV.iconst (v := 0) dX7_count_1 rfl ?_
  refine zEV.pfi rfl inz7 tyX7 tyX7_ok nmX7 5 (by decide) wf_RX7_58 rfl (by decide +kernel) (by decide) rfl rfl dX7_count_2 ?_
  refine zEV.iload_n dX7_count_5 rfl 1 rfl ?_
  refine zEV.iconst (v := 0) dX7_count_6 rfl ?_
  refine zEV.bipush (v := 7) dX7_count_7 rfl ?_
  obtain ⟨q1, hq1, h⟩ := bind_yes h
  refine zEV.callSi (kX7_in (a1) (0) (7)  (wr M 158 5 0) q1 hq1) wm_RX7_65 wc_X7_in hy_X7_in rfl ⟨Nat.le_of_ble_eq_true rfl, Nat.le_of_ble_eq_true rfl⟩ rfl (Nat.le_of_ble_eq_true rfl) dX7_count_9 ?_
  refine zEV.if_eq 22 dX7_count_12 (by decide) (fun c2 => ?_) (fun c2 => ?_)
  · rw [if_pos c2] at h
    refine zEV.iload_n dX7_count_22 rfl 1 rfl ?_
    by_cases c3_0 : a1 = (8 : Int32)
    · rw [if_pos c3_0] at h
      refine zEV.tabIn 56 dX7_count_23 (8) c3_0 (by decide) (by decide) rfl (by decide) ?_
      refine zEV.aload_n dX7_count_56 rfl 0 rfl ?_
      refine zEV.gfr rfl inz7 0 (by decide) wf_RX7_9 (by decide) rfl rfl dX7_count_57 ?_
      refine zEV.sipush (v := 218) dX7_count_60 rfl ?_
      refine zEV.ialdL (j := 218) (by decide) rfl (by decide) (by decide) dX7_count_63 ?_
      have h := Option.some.inj h
      subst h
      exact zEV.iret rfl dX7_count_64
    · rw [if_neg c3_0] at h
      by_cases c3_1 : a1 = (9 : Int32)
      · rw [if_pos c3_1] at h
        refine zEV.tabIn 65 dX7_count_23 (9) c3_1 (by decide) (by decide) rfl (by decide) ?_
        refine zEV.aload_n dX7_count_65 rfl 0 rfl ?_
        refine zEV.gfi rfl inz7 24 (by decide) wf_RX7_276 (by decide) rfl rfl dX7_count_66 ?_
        have h := Option.some.inj h
        subst h
        exact zEV.iret rfl dX7_count_69
      · rw [if_neg c3_1] at h
        by_cases c3_2 : a1 = (10 : Int32)
        · rw [if_pos c3_2] at h
          refine zEV.tabIn 70 dX7_count_23 (10) c3_2 (by decide) (by decide) rfl (by decide) ?_
          refine zEV.aload_n dX7_count_70 rfl 0 rfl ?_
          refine zEV.gfi rfl inz7 4 (by decide) wf_RX7_62 (by decide) rfl rfl dX7_count_71 ?_
          have h := Option.some.inj h
          subst h
          exact zEV.iret rfl dX7_count_74
        · rw [if_neg c3_2] at h
          by_cases c3_3 : a1 = (11 : Int32)
          · rw [if_pos c3_3] at h
            refine zEV.tabIn 75 dX7_count_23 (11) c3_3 (by decide) (by decide) rfl (by decide) ?_
            refine zEV.aload_n dX7_count_75 rfl 0 rfl ?_
            refine zEV.gfi rfl inz7 2 (by decide) wf_RX7_73 (by decide) rfl rfl dX7_count_76 ?_
            have h := Option.some.inj h
            subst h
            exact zEV.iret rfl dX7_count_79
          · rw [if_neg c3_3] at h
            by_cases c3_4 : a1 = (12 : Int32)
            · rw [if_pos c3_4] at h
              refine zEV.tabIn 80 dX7_count_23 (12) c3_4 (by decide) (by decide) rfl (by decide) ?_
              refine zEV.aload_n dX7_count_80 rfl 0 rfl ?_
              refine zEV.gfr rfl inz7 0 (by decide) wf_RX7_9 (by decide) rfl rfl dX7_count_81 ?_
              refine zEV.sipush (v := 255) dX7_count_84 rfl ?_
              refine zEV.ialdL (j := 255) (by decide) rfl (by decide) (by decide) dX7_count_87 ?_
              have h := Option.some.inj h
              subst h
              exact zEV.iret rfl dX7_count_88
            · rw [if_neg c3_4] at h
              refine zEV.tabOut 89 4 dX7_count_23 (by decide) (by decide) rfl (fun k hk => ?_) (by decide) ?_
              · match k, hk with
                | 0, _ => exact c3_0
                | 1, _ => exact c3_1
                | 2, _ => exact c3_2
                | 3, _ => exact c3_3
                | 4, _ => exact c3_4
                | k + 5, hk => exact absurd hk (by omega)
              refine zEV.iload_n dX7_count_89 rfl 1 rfl ?_
              refine zEV.bipush (v := 13) dX7_count_90 rfl ?_
              refine zEV.bipush (v := 15) dX7_count_92 rfl ?_
              obtain ⟨q4, hq4, h⟩ := bind_yes h
              refine zEV.callSi (kX7_in (a1) (13) (15)  q1.2 q4 hq4) wm_RX7_65 wc_X7_in hy_X7_in rfl ⟨Nat.le_of_ble_eq_true rfl, Nat.le_of_ble_eq_true rfl⟩ rfl (Nat.le_of_ble_eq_true rfl) dX7_count_94 ?_
              refine zEV.if_eq 116 dX7_count_97 (by decide) (fun c5 => ?_) (fun c5 => ?_)
              · rw [if_pos c5] at h
                refine zEV.iconst (v := (-1)) dX7_count_116 rfl ?_
                have h := Option.some.inj h
                subst h
                exact zEV.iret rfl dX7_count_117
              · rw [if_neg c5] at h
                refine zEV.aload_n dX7_count_100 rfl 0 rfl ?_
                refine zEV.gfr rfl inz7 0 (by decide) wf_RX7_9 (by decide) rfl rfl dX7_count_101 ?_
                refine zEV.sipush (v := 256) dX7_count_104 rfl ?_
                refine zEV.iload_n dX7_count_107 rfl 1 rfl ?_
                refine zEV.iadd dX7_count_108 ?_
                refine zEV.bipush (v := 13) dX7_count_109 rfl ?_
                refine zEV.isub dX7_count_111 ?_
                obtain ⟨g6, h⟩ := ite_no h
                refine zEV.iald (by decide) rfl g6 dX7_count_112 ?_
                refine zEV.goto 117 dX7_count_113 (by decide) ?_
                have h := Option.some.inj h
                subst h
                exact zEV.iret rfl dX7_count_117
  · rw [if_neg c2] at h
    refine zEV.aload_n dX7_count_15 rfl 0 rfl ?_
    refine zEV.gfr rfl inz7 0 (by decide) wf_RX7_9 (by decide) rfl rfl dX7_count_16 ?_
    refine zEV.iload_n dX7_count_19 rfl 1 rfl ?_
    obtain ⟨g7, h⟩ := ite_no h
    refine zEV.iald (by decide) rfl g7 dX7_count_20 ?_
    have h := Option.some.inj h
    subst h
    exact zEV.iret rfl dX7_count_21
theorem kX7_count (a1 : Int32) (M : zMM) (q : Int32 × zMM) (h : fX7_count a1 M = some q) : zCN yX7_count iX7_count [.inr (.inr 158), .inl a1] M (some (.inl q.1), q.2) :=
  zCN.of (by decide) rfl rfl (Nat.le_of_ble_eq_true rfl) (zEV.perm [0, 1] rfl (tX7_count_0 a1 M q h))
-- RingedPageModel.row
def fX7_row (a1 : Int32) (M : zMM) : Option (Int64 × zMM) :=
  (fX7_in (a1) (0) ((((wr M 158 5 0).1 158 4) - 1)) (wr M 158 5 0)).bind fun q1 =>
  if q1.1 = (0 : Int32) then
    (fX7_lost  q1.2).bind fun q3 =>
    some ((Int32.toInt64 q3.1), q3.2)
  else
    if oob (a1) 80 then none else
    some ((q1.2.2 161 (Int32.toNatClampNeg a1)), q1.2)
set_option maxRecDepth 100000 in
theorem tX7_row_0 (a1 : Int32) (M : zMM) (q : Int64 × zMM) (h : fX7_row a1  M = some q) : zEV iX7_row 0 0 (zZO (some (.inr (.inl q.1)), q.2)) 0 [(0, .inr (.inr 158)), (1, .inl a1)] [] M := by
  unfold fX7_row at h
  refine zEV.aload_n dX7_row_0 rfl 0 rfl ?_
  refine zEV.iconst (v := 0) dX7_row_1 rfl ?_
  refine zEV.pfi rfl inz7 tyX7 tyX7_ok nmX7 5 (by decide) wf_RX7_58 rfl (by decide +kernel) (by decide) rfl rfl dX7_row_2 ?_
  refine zEV.iload_n dX7_row_5 rfl 1 rfl ?_
  refine zEV.iconst (v := 0) dX7_row_6 rfl ?_
  refine zEV.aload_n dX7_row_7 rfl 0 rfl ?_
  refine zEV.gfi rfl inz7 4 (by decide) wf_RX7_62 (by decide) rfl rfl dX7_row_8 ?_
  refine zEV.iconst (v := 1) dX7_row_11 rfl ?_
  refine zEV.isub dX7_row_12 ?_
  obtain ⟨q1, hq1, h⟩ := bind_yes h
  refine zEV.callSi (kX7_in (a1) (0) ((((wr M 158 5 0).1 158 4) - 1))  (wr M 158 5 0) q1 hq1) wm_RX7_65 wc_X7_in hy_X7_in rfl ⟨Nat.le_of_ble_eq_true rfl, Nat.le_of_ble_eq_true rfl⟩ rfl (Nat.le_of_ble_eq_true rfl) dX7_row_13 ?_
  refine zEV.if_eq 28 dX7_row_16 (by decide) (fun c2 => ?_) (fun c2 => ?_)
  · rw [if_pos c2] at h
    refine zEV.aload_n dX7_row_28 rfl 0 rfl ?_
    obtain ⟨q3, hq3, h⟩ := bind_yes h
    refine zEV.callVi (kX7_lost   q1.2 q3 hq3) (by decide) rfl rfl wm_RX7_180 wc_X7_lost hy_X7_lost rfl ⟨Nat.le_of_ble_eq_true rfl, Nat.le_of_ble_eq_true rfl⟩ rfl (Nat.le_of_ble_eq_true rfl) dX7_row_29 ?_
    refine zEV.i2l dX7_row_32 ?_
    have h := Option.some.inj h
    subst h
    exact zEV.lret rfl dX7_row_33
  · rw [if_neg c2] at h
    refine zEV.aload_n dX7_row_19 rfl 0 rfl ?_
    refine zEV.gfr rfl inz7 3 (by decide) wf_RX7_17 (by decide) rfl rfl dX7_row_20 ?_
    refine zEV.iload_n dX7_row_23 rfl 1 rfl ?_
    obtain ⟨g4, h⟩ := ite_no h
    refine zEV.lald (by decide) rfl g4 dX7_row_24 ?_
    refine zEV.goto 33 dX7_row_25 (by decide) ?_
    have h := Option.some.inj h
    subst h
    exact zEV.lret rfl dX7_row_33
theorem kX7_row (a1 : Int32) (M : zMM) (q : Int64 × zMM) (h : fX7_row a1 M = some q) : zCN yX7_row iX7_row [.inr (.inr 158), .inl a1] M (some (.inr (.inl q.1)), q.2) :=
  zCN.of (by decide) rfl rfl (Nat.le_of_ble_eq_true rfl) (zEV.perm [0, 1] rfl (tX7_row_0 a1 M q h))
