-- RingedPage$Leaf.addTie
def fX0_addTie (b : Nat) (a1 : Int32) (a2 : Int32) (a3 : Int32) (M : zMM) : Option (zMM) :=
  if (M.1 b 6) < 12 then
    if oob ((M.1 b 6)) 12 then none else
    if oob (((wr M (b + 7) (Int32.toNatClampNeg (M.1 b 6)) a1).1 b 6)) 12 then none else
    if oob (((wr (wr M (b + 7) (Int32.toNatClampNeg (M.1 b 6)) a1) (b + 8) (Int32.toNatClampNeg ((wr M (b + 7) (Int32.toNatClampNeg (M.1 b 6)) a1).1 b 6)) a2).1 b 6)) 12 then none else
    some (wr (wr (wr (wr M (b + 7) (Int32.toNatClampNeg (M.1 b 6)) a1) (b + 8) (Int32.toNatClampNeg ((wr M (b + 7) (Int32.toNatClampNeg (M.1 b 6)) a1).1 b 6)) a2) (b + 9) (Int32.toNatClampNeg ((wr (wr M (b + 7) (Int32.toNatClampNeg (M.1 b 6)) a1) (b + 8) (Int32.toNatClampNeg ((wr M (b + 7) (Int32.toNatClampNeg (M.1 b 6)) a1).1 b 6)) a2).1 b 6)) a3) b 6 (((wr (wr (wr M (b + 7) (Int32.toNatClampNeg (M.1 b 6)) a1) (b + 8) (Int32.toNatClampNeg ((wr M (b + 7) (Int32.toNatClampNeg (M.1 b 6)) a1).1 b 6)) a2) (b + 9) (Int32.toNatClampNeg ((wr (wr M (b + 7) (Int32.toNatClampNeg (M.1 b 6)) a1) (b + 8) (Int32.toNatClampNeg ((wr M (b + 7) (Int32.toNatClampNeg (M.1 b 6)) a1).1 b 6)) a2).1 b 6)) a3).1 b 6) + 1))
  else
    some M
set_option maxRecDepth 100000 in
theorem tX0_addTie_0 (b : Nat) (a1 : Int32) (a2 : Int32) (a3 : Int32) (hb : lf b) (M : zMM) (q : zMM) (h : fX0_addTie b a1 a2 a3  M = some q) : zEV iX0_addTie 0 0 (zZO (none, q)) 0 [(0, .inr (.inr b)), (1, .inl a1), (2, .inl a2), (3, .inl a3)] [] M := by
  unfold fX0_addTie at h
  refine zEV.aload_n dX0_addTie_0 rfl 0 rfl ?_
  refine zEV.gfi rfl inz0 6 (by decide) wf_RX0_30 (lf_lt hb 0 (by decide)) (lf_shp hb 0 (by decide)) rfl dX0_addTie_1 ?_
  refine zEV.bipush (v := 12) dX0_addTie_4 rfl ?_
  refine zEV.icmp_lt 10 dX0_addTie_6 (by decide) (fun c1 => ?_) (fun c1 => ?_)
  · rw [if_pos c1] at h
    refine zEV.aload_n dX0_addTie_10 rfl 0 rfl ?_
    refine zEV.gfr rfl inz0 10 (by decide) wf_RX0_45 (lf_lt hb 0 (by decide)) (lf_shp hb 0 (by decide)) rfl dX0_addTie_11 ?_
    refine zEV.aload_n dX0_addTie_14 rfl 0 rfl ?_
    refine zEV.gfi rfl inz0 6 (by decide) wf_RX0_30 (lf_lt hb 0 (by decide)) (lf_shp hb 0 (by decide)) rfl dX0_addTie_15 ?_
    refine zEV.iload_n dX0_addTie_18 rfl 1 rfl ?_
    obtain ⟨g2, h⟩ := ite_no h
    refine zEV.iast (lf_lt hb 7 (by decide)) (lf_shp hb 7 (by decide)) g2 dX0_addTie_19 ?_
    refine zEV.aload_n dX0_addTie_20 rfl 0 rfl ?_
    refine zEV.gfr rfl inz0 11 (by decide) wf_RX0_48 (lf_lt hb 0 (by decide)) (lf_shp hb 0 (by decide)) rfl dX0_addTie_21 ?_
    refine zEV.aload_n dX0_addTie_24 rfl 0 rfl ?_
    refine zEV.gfi rfl inz0 6 (by decide) wf_RX0_30 (lf_lt hb 0 (by decide)) (lf_shp hb 0 (by decide)) rfl dX0_addTie_25 ?_
    refine zEV.iload_n dX0_addTie_28 rfl 2 rfl ?_
    obtain ⟨g3, h⟩ := ite_no h
    refine zEV.iast (lf_lt hb 8 (by decide)) (lf_shp hb 8 (by decide)) g3 dX0_addTie_29 ?_
    refine zEV.aload_n dX0_addTie_30 rfl 0 rfl ?_
    refine zEV.gfr rfl inz0 12 (by decide) wf_RX0_51 (lf_lt hb 0 (by decide)) (lf_shp hb 0 (by decide)) rfl dX0_addTie_31 ?_
    refine zEV.aload_n dX0_addTie_34 rfl 0 rfl ?_
    refine zEV.gfi rfl inz0 6 (by decide) wf_RX0_30 (lf_lt hb 0 (by decide)) (lf_shp hb 0 (by decide)) rfl dX0_addTie_35 ?_
    refine zEV.iload_n dX0_addTie_38 rfl 3 rfl ?_
    obtain ⟨g4, h⟩ := ite_no h
    refine zEV.iast (lf_lt hb 9 (by decide)) (lf_shp hb 9 (by decide)) g4 dX0_addTie_39 ?_
    refine zEV.aload_n dX0_addTie_40 rfl 0 rfl ?_
    refine zEV.dup dX0_addTie_41 rfl ?_
    refine zEV.gfi rfl inz0 6 (by decide) wf_RX0_30 (lf_lt hb 0 (by decide)) (lf_shp hb 0 (by decide)) rfl dX0_addTie_42 ?_
    refine zEV.iconst (v := 1) dX0_addTie_45 rfl ?_
    refine zEV.iadd dX0_addTie_46 ?_
    refine zEV.pfi rfl inz0 tyX0 tyX0_ok nmX0 6 (by decide) wf_RX0_30 rfl (by decide +kernel) (lf_lt hb 0 (by decide)) (lf_shp hb 0 (by decide)) rfl dX0_addTie_47 ?_
    have h := Option.some.inj h
    subst h
    exact zEV.vret rfl dX0_addTie_50
  · rw [if_neg c1] at h
    have h := Option.some.inj h
    subst h
    exact zEV.vret rfl dX0_addTie_9
theorem kX0_addTie (b : Nat) (a1 : Int32) (a2 : Int32) (a3 : Int32) (hb : lf b) (M : zMM) (q : zMM) (h : fX0_addTie b a1 a2 a3 M = some q) : zCN yX0_addTie iX0_addTie [.inr (.inr b), .inl a1, .inl a2, .inl a3] M (none, q) :=
  zCN.of (by decide) rfl rfl (Nat.le_of_ble_eq_true rfl) (zEV.perm [0, 1, 2, 3] rfl (tX0_addTie_0 b a1 a2 a3 hb M q h))
-- RingedPage$Leaf.dropTiesOf
def fX0_dropTiesOf_30 (K7 : Int32 → zMM → Option (zMM)) (b : Nat) (a1 : Int32) (l2 : Int32) (M : zMM) : Option (zMM) :=
  K7 ((l2 + (-1))) M
set_option maxRecDepth 100000 in
theorem tX0_dropTiesOf_30 (K7 : Int32 → zMM → Option (zMM)) (b : Nat) (a1 : Int32) (hb : lf b) (hK7 : ∀ (l2 : Int32) (M : zMM) (q : zMM), K7 l2 M = some q → zEV iX0_dropTiesOf 0 0 (zZO (none, q)) 7 [(0, .inr (.inr b)), (1, .inl a1), (2, .inl l2)] [] M) (l2 : Int32) (M : zMM) (q : zMM) (h : fX0_dropTiesOf_30 K7 b a1 l2 M = some q) : zEV iX0_dropTiesOf 0 0 (zZO (none, q)) 30 [(0, .inr (.inr b)), (1, .inl a1), (2, .inl l2)] [] M := by
  unfold fX0_dropTiesOf_30 at h
  refine zEV.iinc (v := (l2 + (-1))) dX0_dropTiesOf_30 2 rfl rfl (Nat.le_of_ble_eq_true rfl) rfl ?_
  refine zEV.goto 7 dX0_dropTiesOf_33 (by decide) ?_
  exact zEV.perm [1, 2, 0] rfl (hK7 ((l2 + (-1))) M q h)
def fX0_dropTiesOf_25 (K7 : Int32 → zMM → Option (zMM)) (b : Nat) (a1 : Int32) (l2 : Int32) (M : zMM) : Option (zMM) :=
  (fX0_dropTie b (l2) M).bind fun q1 =>
  fX0_dropTiesOf_30 K7 b a1 (l2) q1
set_option maxRecDepth 100000 in
theorem tX0_dropTiesOf_25 (K7 : Int32 → zMM → Option (zMM)) (b : Nat) (a1 : Int32) (hb : lf b) (hK7 : ∀ (l2 : Int32) (M : zMM) (q : zMM), K7 l2 M = some q → zEV iX0_dropTiesOf 0 0 (zZO (none, q)) 7 [(0, .inr (.inr b)), (1, .inl a1), (2, .inl l2)] [] M) (l2 : Int32) (M : zMM) (q : zMM) (h : fX0_dropTiesOf_25 K7 b a1 l2 M = some q) : zEV iX0_dropTiesOf 0 0 (zZO (none, q)) 25 [(0, .inr (.inr b)), (1, .inl a1), (2, .inl l2)] [] M := by
  unfold fX0_dropTiesOf_25 at h
  refine zEV.aload_n dX0_dropTiesOf_25 rfl 0 rfl ?_
  refine zEV.iload_n dX0_dropTiesOf_26 rfl 2 rfl ?_
  obtain ⟨q1, hq1, h⟩ := bind_yes h
  refine zEV.callVv (kX0_dropTie b (l2) hb M q1 hq1) (lf_lt hb 0 (by decide)) (lf_shp hb 0 (by decide)) rfl wm_RX0_82 wc_X0_dropTie hy_X0_dropTie rfl ⟨Nat.le_of_ble_eq_true rfl, Nat.le_of_ble_eq_true rfl⟩ rfl (Nat.le_of_ble_eq_true rfl) dX0_dropTiesOf_27 ?_
  exact zEV.perm [0, 1, 2] rfl (tX0_dropTiesOf_30 K7 b a1 hb hK7 (l2) q1 q h)
def fX0_dropTiesOf_7 (b : Nat) (a1 : Int32) : Nat → Int32 → zMM → Option (zMM)
  | 0, _, _ => none
  | n + 1, l2, M =>
  if l2 < (0 : Int32) then
    some M
  else
    if a1 = (0 : Int32) then
      fX0_dropTiesOf_25 (fX0_dropTiesOf_7 b a1 n) b a1 (l2) M
    else
      if oob (l2) 12 then none else
      if (M.1 (b + 7) (Int32.toNatClampNeg l2)) = a1 then
        fX0_dropTiesOf_25 (fX0_dropTiesOf_7 b a1 n) b a1 (l2) M
      else
        fX0_dropTiesOf_30 (fX0_dropTiesOf_7 b a1 n) b a1 (l2) M
set_option maxRecDepth 100000 in
theorem tX0_dropTiesOf_7 (b : Nat) (a1 : Int32) (hb : lf b) : ∀ (n : Nat) (l2 : Int32) (M : zMM) (q : zMM), fX0_dropTiesOf_7 b a1 n l2 M = some q → zEV iX0_dropTiesOf 0 0 (zZO (none, q)) 7 [(0, .inr (.inr b)), (1, .inl a1), (2, .inl l2)] [] M := by
  intro n
  induction n with
  | zero =>
    intro l2 M q h
    rw [fX0_dropTiesOf_7] at h
    cases h
  | succ n ih =>
    intro l2 M q h
    rw [fX0_dropTiesOf_7] at h
    refine zEV.iload_n dX0_dropTiesOf_7 rfl 2 rfl ?_
    refine zEV.if_lt 36 dX0_dropTiesOf_8 (by decide) (fun c1 => ?_) (fun c1 => ?_)
    · rw [if_pos c1] at h
      have h := Option.some.inj h
      subst h
      exact zEV.vret rfl dX0_dropTiesOf_36
    · rw [if_neg c1] at h
      refine zEV.iload_n dX0_dropTiesOf_11 rfl 1 rfl ?_
      refine zEV.if_eq 25 dX0_dropTiesOf_12 (by decide) (fun c2 => ?_) (fun c2 => ?_)
      · rw [if_pos c2] at h
        exact zEV.perm [0, 1, 2] rfl (tX0_dropTiesOf_25 (fX0_dropTiesOf_7 b a1 n) b a1 hb (fun l2 M9 q9 h9 => ih l2 M9 q9 h9) (l2) M q h)
      · rw [if_neg c2] at h
        refine zEV.aload_n dX0_dropTiesOf_15 rfl 0 rfl ?_
        refine zEV.gfr rfl inz0 10 (by decide) wf_RX0_45 (lf_lt hb 0 (by decide)) (lf_shp hb 0 (by decide)) rfl dX0_dropTiesOf_16 ?_
        refine zEV.iload_n dX0_dropTiesOf_19 rfl 2 rfl ?_
        obtain ⟨g3, h⟩ := ite_no h
        refine zEV.iald (lf_lt hb 7 (by decide)) (lf_shp hb 7 (by decide)) g3 dX0_dropTiesOf_20 ?_
        refine zEV.iload_n dX0_dropTiesOf_21 rfl 1 rfl ?_
        refine zEV.icmp_ne 30 dX0_dropTiesOf_22 (by decide) (fun c4 => ?_) (fun c4 => ?_)
        · rw [if_neg c4] at h
          exact zEV.perm [0, 1, 2] rfl (tX0_dropTiesOf_30 (fX0_dropTiesOf_7 b a1 n) b a1 hb (fun l2 M9 q9 h9 => ih l2 M9 q9 h9) (l2) M q h)
        · rw [if_pos c4] at h
          exact zEV.perm [0, 1, 2] rfl (tX0_dropTiesOf_25 (fX0_dropTiesOf_7 b a1 n) b a1 hb (fun l2 M9 q9 h9 => ih l2 M9 q9 h9) (l2) M q h)
def fX0_dropTiesOf (b : Nat) (a1 : Int32) (M : zMM) : Option (zMM) :=
  fX0_dropTiesOf_7 b a1 zFU (((M.1 b 6) - 1)) M
set_option maxRecDepth 100000 in
theorem tX0_dropTiesOf_0 (b : Nat) (a1 : Int32) (hb : lf b) (M : zMM) (q : zMM) (h : fX0_dropTiesOf b a1  M = some q) : zEV iX0_dropTiesOf 0 0 (zZO (none, q)) 0 [(0, .inr (.inr b)), (1, .inl a1)] [] M := by
  unfold fX0_dropTiesOf at h
  refine zEV.aload_n dX0_dropTiesOf_0 rfl 0 rfl ?_
  refine zEV.gfi rfl inz0 6 (by decide) wf_RX0_30 (lf_lt hb 0 (by decide)) (lf_shp hb 0 (by decide)) rfl dX0_dropTiesOf_1 ?_
  refine zEV.iconst (v := 1) dX0_dropTiesOf_4 rfl ?_
  refine zEV.isub dX0_dropTiesOf_5 ?_
  refine zEV.istore_n dX0_dropTiesOf_6 rfl (Nat.le_of_ble_eq_true rfl) rfl ?_
  exact zEV.perm [1, 2, 0] rfl (tX0_dropTiesOf_7 b a1 hb zFU (((M.1 b 6) - 1)) M q h)
theorem kX0_dropTiesOf (b : Nat) (a1 : Int32) (hb : lf b) (M : zMM) (q : zMM) (h : fX0_dropTiesOf b a1 M = some q) : zCN yX0_dropTiesOf iX0_dropTiesOf [.inr (.inr b), .inl a1] M (none, q) :=
  zCN.of (by decide) rfl rfl (Nat.le_of_ble_eq_true rfl) (zEV.perm [0, 1] rfl (tX0_dropTiesOf_0 b a1 hb M q h))
-- RingedPage$Past.mark
def fX1_mark (b1 : Nat) (M : zMM) : Option (zMM) :=
  if oob ((M.1 149 1)) 8 then none else
  (fX0_copy (40 + 10 * Int32.toNatClampNeg (M.1 149 1)) b1 M).bind fun q2 =>
  some q2
set_option maxRecDepth 100000 in
theorem tX1_mark_0 (b1 : Nat) (hb1 : lf b1) (M : zMM) (q : zMM) (h : fX1_mark b1  M = some q) : zEV iX1_mark 0 0 (zZO (none, q)) 0 [(0, .inr (.inr 149)), (1, .inr (.inr b1))] [] M := by
  unfold fX1_mark at h
  refine zEV.aload_n dX1_mark_0 rfl 0 rfl ?_
  refine zEV.gfr rfl inz1 0 (by decide) wf_RX1_13 (by decide) rfl rfl dX1_mark_1 ?_
  refine zEV.aload_n dX1_mark_4 rfl 0 rfl ?_
  refine zEV.gfi rfl inz1 1 (by decide) wf_RX1_17 (by decide) rfl rfl dX1_mark_5 ?_
  obtain ⟨g1, h⟩ := ite_no h
  refine zEV.aald (by decide) (by decide) rfl g1 dX1_mark_8 ?_
  refine zEV.aload_n dX1_mark_9 rfl 1 rfl ?_
  obtain ⟨q2, hq2, h⟩ := bind_yes h
  refine zEV.callVv (kX0_copy (40 + 10 * Int32.toNatClampNeg (M.1 149 1)) b1 (lf_arr40 g1) hb1 M q2 hq2) (lf_lt (lf_arr40 g1) 0 (by decide)) (lf_shp (lf_arr40 g1) 0 (by decide)) rfl wm_RX1_25 wc_X0_copy hy_X0_copy rfl ⟨Nat.le_of_ble_eq_true rfl, Nat.le_of_ble_eq_true rfl⟩ rfl (Nat.le_of_ble_eq_true rfl) dX1_mark_10 ?_
  have h := Option.some.inj h
  subst h
  exact zEV.vret rfl dX1_mark_13
theorem kX1_mark (b1 : Nat) (hb1 : lf b1) (M : zMM) (q : zMM) (h : fX1_mark b1 M = some q) : zCN yX1_mark iX1_mark [.inr (.inr 149), .inr (.inr b1)] M (none, q) :=
  zCN.of (by decide) rfl rfl (Nat.le_of_ble_eq_true rfl) (zEV.perm [0, 1] rfl (tX1_mark_0 b1 hb1 M q h))
-- RingedPage$Past.remember
def fX1_remember_22 (s0 : Int32) (M : zMM) : Option (zMM) :=
  some (wr (wr M 149 1 s0) 149 2 (if 7 < (((wr M 149 1 s0).1 149 2) + 1) then 7 else (((wr M 149 1 s0).1 149 2) + 1)))
set_option maxRecDepth 100000 in
theorem tX1_remember_22 (s0 : Int32) (M : zMM) (q : zMM) (h : fX1_remember_22 s0 M = some q) : zEV iX1_remember 0 0 (zZO (none, q)) 22 [(0, .inr (.inr 149))] [.inl s0, .inr (.inr 149)] M := by
  unfold fX1_remember_22 at h
  refine zEV.pfi rfl inz1 tyX1 tyX1_ok nmX1 1 (by decide) wf_RX1_17 rfl (by decide +kernel) (by decide) rfl rfl dX1_remember_22 ?_
  refine zEV.aload_n dX1_remember_25 rfl 0 rfl ?_
  refine zEV.aload_n dX1_remember_26 rfl 0 rfl ?_
  refine zEV.gfi rfl inz1 2 (by decide) wf_RX1_21 (by decide) rfl rfl dX1_remember_27 ?_
  refine zEV.iconst (v := 1) dX1_remember_30 rfl ?_
  refine zEV.iadd dX1_remember_31 ?_
  refine zEV.bipush (v := 7) dX1_remember_32 rfl ?_
  refine zEV.mmin wm_RX1_29 wj_min_s wj_math_i wj_min_c ⟨Nat.le_of_ble_eq_true rfl, Nat.le_of_ble_eq_true rfl⟩ dX1_remember_34 ?_
  refine zEV.pfi rfl inz1 tyX1 tyX1_ok nmX1 2 (by decide) wf_RX1_21 rfl (by decide +kernel) (by decide) rfl rfl dX1_remember_37 ?_
  have h := Option.some.inj h
  subst h
  exact zEV.vret rfl dX1_remember_40
def fX1_remember (M : zMM) : Option (zMM) :=
  if (8 : Int32) ≤ ((M.1 149 1) + 1) then
    fX1_remember_22 (0) M
  else
    fX1_remember_22 (((M.1 149 1) + 1)) M
set_option maxRecDepth 100000 in
theorem tX1_remember_0 (M : zMM) (q : zMM) (h : fX1_remember  M = some q) : zEV iX1_remember 0 0 (zZO (none, q)) 0 [(0, .inr (.inr 149))] [] M := by
  unfold fX1_remember at h
  refine zEV.aload_n dX1_remember_0 rfl 0 rfl ?_
  refine zEV.aload_n dX1_remember_1 rfl 0 rfl ?_
  refine zEV.gfi rfl inz1 1 (by decide) wf_RX1_17 (by decide) rfl rfl dX1_remember_2 ?_
  refine zEV.iconst (v := 1) dX1_remember_5 rfl ?_
  refine zEV.iadd dX1_remember_6 ?_
  refine zEV.bipush (v := 8) dX1_remember_7 rfl ?_
  refine zEV.icmp_ge 21 dX1_remember_9 (by decide) (fun c1 => ?_) (fun c1 => ?_)
  · rw [if_pos c1] at h
    refine zEV.iconst (v := 0) dX1_remember_21 rfl ?_
    exact zEV.perm [0] rfl (tX1_remember_22 (0) M q h)
  · rw [if_neg c1] at h
    refine zEV.aload_n dX1_remember_12 rfl 0 rfl ?_
    refine zEV.gfi rfl inz1 1 (by decide) wf_RX1_17 (by decide) rfl rfl dX1_remember_13 ?_
    refine zEV.iconst (v := 1) dX1_remember_16 rfl ?_
    refine zEV.iadd dX1_remember_17 ?_
    refine zEV.goto 22 dX1_remember_18 (by decide) ?_
    exact zEV.perm [0] rfl (tX1_remember_22 (((M.1 149 1) + 1)) M q h)
theorem kX1_remember (M : zMM) (q : zMM) (h : fX1_remember M = some q) : zCN yX1_remember iX1_remember [.inr (.inr 149)] M (none, q) :=
  zCN.of (by decide) rfl rfl (Nat.le_of_ble_eq_true rfl) (zEV.perm [0] rfl (tX1_remember_0 M q h))
-- RingedPage$Past.takeBack
def fX1_takeBack_28 (b1 : Nat) (s0 : Int32) (M : zMM) : Option (Int32 × zMM) :=
  if oob (((wr (wr M 149 1 s0) 149 2 (((wr M 149 1 s0).1 149 2) - 1)).1 149 1)) 8 then none else
  (fX0_copy b1 (40 + 10 * Int32.toNatClampNeg ((wr (wr M 149 1 s0) 149 2 (((wr M 149 1 s0).1 149 2) - 1)).1 149 1)) (wr (wr M 149 1 s0) 149 2 (((wr M 149 1 s0).1 149 2) - 1))).bind fun q2 =>
  some (1, q2)
set_option maxRecDepth 100000 in
theorem tX1_takeBack_28 (b1 : Nat) (hb1 : lf b1) (s0 : Int32) (M : zMM) (q : Int32 × zMM) (h : fX1_takeBack_28 b1 s0 M = some q) : zEV iX1_takeBack 0 0 (zZO (some (.inl q.1), q.2)) 28 [(0, .inr (.inr 149)), (1, .inr (.inr b1))] [.inl s0, .inr (.inr 149)] M := by
  unfold fX1_takeBack_28 at h
  refine zEV.pfi rfl inz1 tyX1 tyX1_ok nmX1 1 (by decide) wf_RX1_17 rfl (by decide +kernel) (by decide) rfl rfl dX1_takeBack_28 ?_
  refine zEV.aload_n dX1_takeBack_31 rfl 0 rfl ?_
  refine zEV.dup dX1_takeBack_32 rfl ?_
  refine zEV.gfi rfl inz1 2 (by decide) wf_RX1_21 (by decide) rfl rfl dX1_takeBack_33 ?_
  refine zEV.iconst (v := 1) dX1_takeBack_36 rfl ?_
  refine zEV.isub dX1_takeBack_37 ?_
  refine zEV.pfi rfl inz1 tyX1 tyX1_ok nmX1 2 (by decide) wf_RX1_21 rfl (by decide +kernel) (by decide) rfl rfl dX1_takeBack_38 ?_
  refine zEV.aload_n dX1_takeBack_41 rfl 1 rfl ?_
  refine zEV.aload_n dX1_takeBack_42 rfl 0 rfl ?_
  refine zEV.gfr rfl inz1 0 (by decide) wf_RX1_13 (by decide) rfl rfl dX1_takeBack_43 ?_
  refine zEV.aload_n dX1_takeBack_46 rfl 0 rfl ?_
  refine zEV.gfi rfl inz1 1 (by decide) wf_RX1_17 (by decide) rfl rfl dX1_takeBack_47 ?_
  obtain ⟨g1, h⟩ := ite_no h
  refine zEV.aald (by decide) (by decide) rfl g1 dX1_takeBack_50 ?_
  obtain ⟨q2, hq2, h⟩ := bind_yes h
  refine zEV.callVv (kX0_copy b1 (40 + 10 * Int32.toNatClampNeg ((wr (wr M 149 1 s0) 149 2 (((wr M 149 1 s0).1 149 2) - 1)).1 149 1)) hb1 (lf_arr40 g1) (wr (wr M 149 1 s0) 149 2 (((wr M 149 1 s0).1 149 2) - 1)) q2 hq2) (lf_lt hb1 0 (by decide)) (lf_shp hb1 0 (by decide)) rfl wm_RX1_25 wc_X0_copy hy_X0_copy rfl ⟨Nat.le_of_ble_eq_true rfl, Nat.le_of_ble_eq_true rfl⟩ rfl (Nat.le_of_ble_eq_true rfl) dX1_takeBack_51 ?_
  refine zEV.iconst (v := 1) dX1_takeBack_54 rfl ?_
  have h := Option.some.inj h
  subst h
  exact zEV.zret rfl (Or.inr rfl) dX1_takeBack_55
def fX1_takeBack (b1 : Nat) (M : zMM) : Option (Int32 × zMM) :=
  if (M.1 149 2) = (0 : Int32) then
    some (0, M)
  else
    if (M.1 149 1) ≤ (0 : Int32) then
      fX1_takeBack_28 b1 (7) M
    else
      fX1_takeBack_28 b1 (((M.1 149 1) - 1)) M
set_option maxRecDepth 100000 in
theorem tX1_takeBack_0 (b1 : Nat) (hb1 : lf b1) (M : zMM) (q : Int32 × zMM) (h : fX1_takeBack b1  M = some q) : zEV iX1_takeBack 0 0 (zZO (some (.inl q.1), q.2)) 0 [(0, .inr (.inr 149)), (1, .inr (.inr b1))] [] M := by
  unfold fX1_takeBack at h
  refine zEV.aload_n dX1_takeBack_0 rfl 0 rfl ?_
  refine zEV.gfi rfl inz1 2 (by decide) wf_RX1_21 (by decide) rfl rfl dX1_takeBack_1 ?_
  refine zEV.if_ne 9 dX1_takeBack_4 (by decide) (fun c1 => ?_) (fun c1 => ?_)
  · rw [if_neg c1] at h
    refine zEV.aload_n dX1_takeBack_9 rfl 0 rfl ?_
    refine zEV.aload_n dX1_takeBack_10 rfl 0 rfl ?_
    refine zEV.gfi rfl inz1 1 (by decide) wf_RX1_17 (by decide) rfl rfl dX1_takeBack_11 ?_
    refine zEV.if_le 26 dX1_takeBack_14 (by decide) (fun c2 => ?_) (fun c2 => ?_)
    · rw [if_pos c2] at h
      refine zEV.bipush (v := 7) dX1_takeBack_26 rfl ?_
      exact zEV.perm [0, 1] rfl (tX1_takeBack_28 b1 hb1 (7) M q h)
    · rw [if_neg c2] at h
      refine zEV.aload_n dX1_takeBack_17 rfl 0 rfl ?_
      refine zEV.gfi rfl inz1 1 (by decide) wf_RX1_17 (by decide) rfl rfl dX1_takeBack_18 ?_
      refine zEV.iconst (v := 1) dX1_takeBack_21 rfl ?_
      refine zEV.isub dX1_takeBack_22 ?_
      refine zEV.goto 28 dX1_takeBack_23 (by decide) ?_
      exact zEV.perm [0, 1] rfl (tX1_takeBack_28 b1 hb1 (((M.1 149 1) - 1)) M q h)
  · rw [if_pos c1] at h
    refine zEV.iconst (v := 0) dX1_takeBack_7 rfl ?_
    have h := Option.some.inj h
    subst h
    exact zEV.zret rfl (Or.inl rfl) dX1_takeBack_8
theorem kX1_takeBack (b1 : Nat) (hb1 : lf b1) (M : zMM) (q : Int32 × zMM) (h : fX1_takeBack b1 M = some q) : zCN yX1_takeBack iX1_takeBack [.inr (.inr 149), .inr (.inr b1)] M (some (.inl q.1), q.2) :=
  zCN.of (by decide) rfl rfl (Nat.le_of_ble_eq_true rfl) (zEV.perm [0, 1] rfl (tX1_takeBack_0 b1 hb1 M q h))
-- RingedPage$Past.forget
def fX1_forget (M : zMM) : Option (zMM) :=
  some (wr M 149 2 0)
set_option maxRecDepth 100000 in
theorem tX1_forget_0 (M : zMM) (q : zMM) (h : fX1_forget  M = some q) : zEV iX1_forget 0 0 (zZO (none, q)) 0 [(0, .inr (.inr 149))] [] M := by
  unfold fX1_forget at h
  refine zEV.aload_n dX1_forget_0 rfl 0 rfl ?_
  refine zEV.iconst (v := 0) dX1_forget_1 rfl ?_
  refine zEV.pfi rfl inz1 tyX1 tyX1_ok nmX1 2 (by decide) wf_RX1_21 rfl (by decide +kernel) (by decide) rfl rfl dX1_forget_2 ?_
  have h := Option.some.inj h
  subst h
  exact zEV.vret rfl dX1_forget_5
theorem kX1_forget (M : zMM) (q : zMM) (h : fX1_forget M = some q) : zCN yX1_forget iX1_forget [.inr (.inr 149)] M (none, q) :=
  zCN.of (by decide) rfl rfl (Nat.le_of_ble_eq_true rfl) (zEV.perm [0] rfl (tX1_forget_0 M q h))
-- RingedPage$Row.clear
def fX2_clear (M : zMM) : Option (zMM) :=
  some (wr M 155 1 0)
set_option maxRecDepth 100000 in
theorem tX2_clear_0 (M : zMM) (q : zMM) (h : fX2_clear  M = some q) : zEV iX2_clear 0 0 (zZO (none, q)) 0 [(0, .inr (.inr 155))] [] M := by
  unfold fX2_clear at h
  refine zEV.aload_n dX2_clear_0 rfl 0 rfl ?_
  refine zEV.iconst (v := 0) dX2_clear_1 rfl ?_
  refine zEV.pfi rfl inz2 tyX2 tyX2_ok nmX2 1 (by decide) wf_RX2_13 rfl (by decide +kernel) (by decide) rfl rfl dX2_clear_2 ?_
  have h := Option.some.inj h
  subst h
  exact zEV.vret rfl dX2_clear_5
theorem kX2_clear (M : zMM) (q : zMM) (h : fX2_clear M = some q) : zCN yX2_clear iX2_clear [.inr (.inr 155)] M (none, q) :=
  zCN.of (by decide) rfl rfl (Nat.le_of_ble_eq_true rfl) (zEV.perm [0] rfl (tX2_clear_0 M q h))
-- RingedPage$Row.tell
def fX2_tell (a1 : Int64) (M : zMM) : Option (zMM) :=
  some (wr (wrL M 156 0 a1) 155 1 1)
set_option maxRecDepth 100000 in
theorem tX2_tell_0 (a1 : Int64) (M : zMM) (q : zMM) (h : fX2_tell a1  M = some q) : zEV iX2_tell 0 0 (zZO (none, q)) 0 [(0, .inr (.inr 155)), (1, .inr (.inl a1))] [] M := by
  unfold fX2_tell at h
  refine zEV.aload_n dX2_tell_0 rfl 0 rfl ?_
  refine zEV.gfr rfl inz2 0 (by decide) wf_RX2_9 (by decide) rfl rfl dX2_tell_1 ?_
  refine zEV.iconst (v := 0) dX2_tell_4 rfl ?_
  refine zEV.lload_n dX2_tell_5 rfl 1 rfl ?_
  refine zEV.lastL (j := 0) (by decide) rfl (by decide) (by decide) dX2_tell_6 ?_
  refine zEV.aload_n dX2_tell_7 rfl 0 rfl ?_
  refine zEV.iconst (v := 1) dX2_tell_8 rfl ?_
  refine zEV.pfi rfl inz2 tyX2 tyX2_ok nmX2 1 (by decide) wf_RX2_13 rfl (by decide +kernel) (by decide) rfl rfl dX2_tell_9 ?_
  have h := Option.some.inj h
  subst h
  exact zEV.vret rfl dX2_tell_12
theorem kX2_tell (a1 : Int64) (M : zMM) (q : zMM) (h : fX2_tell a1 M = some q) : zCN yX2_tell iX2_tell [.inr (.inr 155), .inr (.inl a1)] M (none, q) :=
  zCN.of (by decide) rfl rfl (Nat.le_of_ble_eq_true rfl) (zEV.perm [0, 1] rfl (tX2_tell_0 a1 M q h))
-- RingedPage$Row.tell
def fX2_tell_ (a1 : Int64) (a3 : Int64) (M : zMM) : Option (zMM) :=
  (fX2_tell (a1) M).bind fun q1 =>
  some (wr (wrL q1 156 1 a3) 155 1 2)
set_option maxRecDepth 100000 in
theorem tX2_tell__0 (a1 : Int64) (a3 : Int64) (M : zMM) (q : zMM) (h : fX2_tell_ a1 a3  M = some q) : zEV iX2_tell_ 0 0 (zZO (none, q)) 0 [(0, .inr (.inr 155)), (1, .inr (.inl a1)), (3, .inr (.inl a3))] [] M := by
  unfold fX2_tell_ at h
  refine zEV.aload_n dX2_tell__0 rfl 0 rfl ?_
  refine zEV.lload_n dX2_tell__1 rfl 1 rfl ?_
  obtain ⟨q1, hq1, h⟩ := bind_yes h
  refine zEV.callVv (kX2_tell (a1)  M q1 hq1) (by decide) rfl rfl wm_RX2_17 wc_X2_tell hy_X2_tell rfl ⟨Nat.le_of_ble_eq_true rfl, Nat.le_of_ble_eq_true rfl⟩ rfl (Nat.le_of_ble_eq_true rfl) dX2_tell__2 ?_
  refine zEV.aload_n dX2_tell__5 rfl 0 rfl ?_
  refine zEV.gfr rfl inz2 0 (by decide) wf_RX2_9 (by decide) rfl rfl dX2_tell__6 ?_
  refine zEV.iconst (v := 1) dX2_tell__9 rfl ?_
  refine zEV.lload_n dX2_tell__10 rfl 2 rfl ?_
  refine zEV.lastL (j := 1) (by decide) rfl (by decide) (by decide) dX2_tell__11 ?_
  refine zEV.aload_n dX2_tell__12 rfl 0 rfl ?_
  refine zEV.iconst (v := 2) dX2_tell__13 rfl ?_
  refine zEV.pfi rfl inz2 tyX2 tyX2_ok nmX2 1 (by decide) wf_RX2_13 rfl (by decide +kernel) (by decide) rfl rfl dX2_tell__14 ?_
  have h := Option.some.inj h
  subst h
  exact zEV.vret rfl dX2_tell__17
theorem kX2_tell_ (a1 : Int64) (a3 : Int64) (M : zMM) (q : zMM) (h : fX2_tell_ a1 a3 M = some q) : zCN yX2_tell_ iX2_tell_ [.inr (.inr 155), .inr (.inl a1), .inr (.inl a3)] M (none, q) :=
  zCN.of (by decide) rfl rfl (Nat.le_of_ble_eq_true rfl) (zEV.perm [0, 1, 2] rfl (tX2_tell__0 a1 a3 M q h))
-- RingedPage$Row.tell
def fX2_tell__ (a1 : Int64) (a3 : Int64) (a5 : Int64) (M : zMM) : Option (zMM) :=
  (fX2_tell_ (a1) (a3) M).bind fun q1 =>
  some (wr (wrL q1 156 2 a5) 155 1 3)
set_option maxRecDepth 100000 in
theorem tX2_tell___0 (a1 : Int64) (a3 : Int64) (a5 : Int64) (M : zMM) (q : zMM) (h : fX2_tell__ a1 a3 a5  M = some q) : zEV iX2_tell__ 0 0 (zZO (none, q)) 0 [(0, .inr (.inr 155)), (1, .inr (.inl a1)), (3, .inr (.inl a3)), (5, .inr (.inl a5))] [] M := by
  unfold fX2_tell__ at h
  refine zEV.aload_n dX2_tell___0 rfl 0 rfl ?_
  refine zEV.lload_n dX2_tell___1 rfl 1 rfl ?_
  refine zEV.lload_n dX2_tell___2 rfl 2 rfl ?_
  obtain ⟨q1, hq1, h⟩ := bind_yes h
  refine zEV.callVv (kX2_tell_ (a1) (a3)  M q1 hq1) (by decide) rfl rfl wm_RX2_21 wc_X2_tell_ hy_X2_tell_ rfl ⟨Nat.le_of_ble_eq_true rfl, Nat.le_of_ble_eq_true rfl⟩ rfl (Nat.le_of_ble_eq_true rfl) dX2_tell___3 ?_
  refine zEV.aload_n dX2_tell___6 rfl 0 rfl ?_
  refine zEV.gfr rfl inz2 0 (by decide) wf_RX2_9 (by decide) rfl rfl dX2_tell___7 ?_
  refine zEV.iconst (v := 2) dX2_tell___10 rfl ?_
  refine zEV.lload dX2_tell___11 3 rfl ?_
  refine zEV.lastL (j := 2) (by decide) rfl (by decide) (by decide) dX2_tell___13 ?_
  refine zEV.aload_n dX2_tell___14 rfl 0 rfl ?_
  refine zEV.iconst (v := 3) dX2_tell___15 rfl ?_
  refine zEV.pfi rfl inz2 tyX2 tyX2_ok nmX2 1 (by decide) wf_RX2_13 rfl (by decide +kernel) (by decide) rfl rfl dX2_tell___16 ?_
  have h := Option.some.inj h
  subst h
  exact zEV.vret rfl dX2_tell___19
theorem kX2_tell__ (a1 : Int64) (a3 : Int64) (a5 : Int64) (M : zMM) (q : zMM) (h : fX2_tell__ a1 a3 a5 M = some q) : zCN yX2_tell__ iX2_tell__ [.inr (.inr 155), .inr (.inl a1), .inr (.inl a3), .inr (.inl a5)] M (none, q) :=
  zCN.of (by decide) rfl rfl (Nat.le_of_ble_eq_true rfl) (zEV.perm [0, 1, 2, 3] rfl (tX2_tell___0 a1 a3 a5 M q h))
-- RingedPage$Row.tell
def fX2_tell___ (a1 : Int64) (a3 : Int64) (a5 : Int64) (a7 : Int64) (M : zMM) : Option (zMM) :=
  (fX2_tell__ (a1) (a3) (a5) M).bind fun q1 =>
  some (wr (wrL q1 156 3 a7) 155 1 4)
set_option maxRecDepth 100000 in
theorem tX2_tell____0 (a1 : Int64) (a3 : Int64) (a5 : Int64) (a7 : Int64) (M : zMM) (q : zMM) (h : fX2_tell___ a1 a3 a5 a7  M = some q) : zEV iX2_tell___ 0 0 (zZO (none, q)) 0 [(0, .inr (.inr 155)), (1, .inr (.inl a1)), (3, .inr (.inl a3)), (5, .inr (.inl a5)), (7, .inr (.inl a7))] [] M := by
  unfold fX2_tell___ at h
  refine zEV.aload_n dX2_tell____0 rfl 0 rfl ?_
  refine zEV.lload_n dX2_tell____1 rfl 1 rfl ?_
  refine zEV.lload_n dX2_tell____2 rfl 2 rfl ?_
  refine zEV.lload dX2_tell____3 3 rfl ?_
  obtain ⟨q1, hq1, h⟩ := bind_yes h
  refine zEV.callVv (kX2_tell__ (a1) (a3) (a5)  M q1 hq1) (by decide) rfl rfl wm_RX2_24 wc_X2_tell__ hy_X2_tell__ rfl ⟨Nat.le_of_ble_eq_true rfl, Nat.le_of_ble_eq_true rfl⟩ rfl (Nat.le_of_ble_eq_true rfl) dX2_tell____5 ?_
  refine zEV.aload_n dX2_tell____8 rfl 0 rfl ?_
  refine zEV.gfr rfl inz2 0 (by decide) wf_RX2_9 (by decide) rfl rfl dX2_tell____9 ?_
  refine zEV.iconst (v := 3) dX2_tell____12 rfl ?_
  refine zEV.lload dX2_tell____13 4 rfl ?_
  refine zEV.lastL (j := 3) (by decide) rfl (by decide) (by decide) dX2_tell____15 ?_
  refine zEV.aload_n dX2_tell____16 rfl 0 rfl ?_
  refine zEV.iconst (v := 4) dX2_tell____17 rfl ?_
  refine zEV.pfi rfl inz2 tyX2 tyX2_ok nmX2 1 (by decide) wf_RX2_13 rfl (by decide +kernel) (by decide) rfl rfl dX2_tell____18 ?_
  have h := Option.some.inj h
  subst h
  exact zEV.vret rfl dX2_tell____21
theorem kX2_tell___ (a1 : Int64) (a3 : Int64) (a5 : Int64) (a7 : Int64) (M : zMM) (q : zMM) (h : fX2_tell___ a1 a3 a5 a7 M = some q) : zCN yX2_tell___ iX2_tell___ [.inr (.inr 155), .inr (.inl a1), .inr (.inl a3), .inr (.inl a5), .inr (.inl a7)] M (none, q) :=
  zCN.of (by decide) rfl rfl (Nat.le_of_ble_eq_true rfl) (zEV.perm [0, 1, 2, 3, 4] rfl (tX2_tell____0 a1 a3 a5 a7 M q h))
-- RingedPage$Row.noughts
def fX2_noughts_16 (a1 : Int32) : Nat → Int32 → zMM → Option (zMM)
  | 0, _, _ => none
  | n + 1, l2, M =>
  if (M.1 155 1) ≤ l2 then
    some M
  else
    if oob (l2) 60 then none else
    fX2_noughts_16 a1 n ((l2 + 1)) (wrL M 156 (Int32.toNatClampNeg l2) (0 : Int64))
set_option maxRecDepth 100000 in
theorem tX2_noughts_16 (a1 : Int32) : ∀ (n : Nat) (l2 : Int32) (M : zMM) (q : zMM), fX2_noughts_16 a1 n l2 M = some q → zEV iX2_noughts 0 0 (zZO (none, q)) 16 [(0, .inr (.inr 155)), (2, .inl l2)] [] M := by
  intro n
  induction n with
  | zero =>
    intro l2 M q h
    rw [fX2_noughts_16] at h
    cases h
  | succ n ih =>
    intro l2 M q h
    rw [fX2_noughts_16] at h
    refine zEV.iload_n dX2_noughts_16 rfl 1 rfl ?_
    refine zEV.aload_n dX2_noughts_17 rfl 0 rfl ?_
    refine zEV.gfi rfl inz2 1 (by decide) wf_RX2_13 (by decide) rfl rfl dX2_noughts_18 ?_
    refine zEV.icmp_ge 37 dX2_noughts_21 (by decide) (fun c1 => ?_) (fun c1 => ?_)
    · rw [if_pos c1] at h
      have h := Option.some.inj h
      subst h
      exact zEV.vret rfl dX2_noughts_37
    · rw [if_neg c1] at h
      refine zEV.aload_n dX2_noughts_24 rfl 0 rfl ?_
      refine zEV.gfr rfl inz2 0 (by decide) wf_RX2_9 (by decide) rfl rfl dX2_noughts_25 ?_
      refine zEV.iload_n dX2_noughts_28 rfl 1 rfl ?_
      refine zEV.lconst (v := 0) dX2_noughts_29 rfl ?_
      obtain ⟨g2, h⟩ := ite_no h
      refine zEV.last (by decide) rfl g2 dX2_noughts_30 ?_
      refine zEV.iinc (v := (l2 + 1)) dX2_noughts_31 1 rfl rfl (Nat.le_of_ble_eq_true rfl) rfl ?_
      refine zEV.goto 16 dX2_noughts_34 (by decide) ?_
      exact zEV.perm [1, 0] rfl (ih ((l2 + 1)) (wrL M 156 (Int32.toNatClampNeg l2) (0 : Int64)) q h)
def fX2_noughts (a1 : Int32) (M : zMM) : Option (zMM) :=
  fX2_noughts_16 a1 zFU (0) (wr M 155 1 (if 0 < (if 60 < a1 then 60 else a1) then (if 60 < a1 then 60 else a1) else 0))
set_option maxRecDepth 100000 in
theorem tX2_noughts_0 (a1 : Int32) (M : zMM) (q : zMM) (h : fX2_noughts a1  M = some q) : zEV iX2_noughts 0 0 (zZO (none, q)) 0 [(0, .inr (.inr 155)), (1, .inl a1)] [] M := by
  unfold fX2_noughts at h
  refine zEV.aload_n dX2_noughts_0 rfl 0 rfl ?_
  refine zEV.iconst (v := 0) dX2_noughts_1 rfl ?_
  refine zEV.iload_n dX2_noughts_2 rfl 1 rfl ?_
  refine zEV.bipush (v := 60) dX2_noughts_3 rfl ?_
  refine zEV.mmin wm_RX2_27 wj_min_s wj_math_i wj_min_c ⟨Nat.le_of_ble_eq_true rfl, Nat.le_of_ble_eq_true rfl⟩ dX2_noughts_5 ?_
  refine zEV.mmax wm_RX2_33 wj_max_s wj_math_i wj_max_c ⟨Nat.le_of_ble_eq_true rfl, Nat.le_of_ble_eq_true rfl⟩ dX2_noughts_8 ?_
  refine zEV.pfi rfl inz2 tyX2 tyX2_ok nmX2 1 (by decide) wf_RX2_13 rfl (by decide +kernel) (by decide) rfl rfl dX2_noughts_11 ?_
  refine zEV.iconst (v := 0) dX2_noughts_14 rfl ?_
  refine zEV.istore_n dX2_noughts_15 rfl (Nat.le_of_ble_eq_true rfl) rfl ?_
  exact zEV.perm [1, 0] rfl (tX2_noughts_16 a1 zFU (0) (wr M 155 1 (if 0 < (if 60 < a1 then 60 else a1) then (if 60 < a1 then 60 else a1) else 0)) q h)
theorem kX2_noughts (a1 : Int32) (M : zMM) (q : zMM) (h : fX2_noughts a1 M = some q) : zCN yX2_noughts iX2_noughts [.inr (.inr 155), .inl a1] M (none, q) :=
  zCN.of (by decide) rfl rfl (Nat.le_of_ble_eq_true rfl) (zEV.perm [0, 1] rfl (tX2_noughts_0 a1 M q h))
-- RingedPage$Row.put
def fX2_put_7 (a1 : Int32) (a2 : Int32) (a3 : Int32) : Nat → Int32 → zMM → Option (zMM)
  | 0, _, _ => none
  | n + 1, l4, M =>
  if (a1 + a2) ≤ l4 then
    some M
  else
    if (M.1 155 1) ≤ l4 then
      some M
    else
      if oob (l4) 60 then none else
      fX2_put_7 a1 a2 a3 n ((l4 + 1)) (wrL M 156 (Int32.toNatClampNeg l4) (Int32.toInt64 a3))
set_option maxRecDepth 100000 in
theorem tX2_put_7 (a1 : Int32) (a2 : Int32) (a3 : Int32) : ∀ (n : Nat) (l4 : Int32) (M : zMM) (q : zMM), fX2_put_7 a1 a2 a3 n l4 M = some q → zEV iX2_put 0 0 (zZO (none, q)) 7 [(0, .inr (.inr 155)), (1, .inl a1), (2, .inl a2), (3, .inl a3), (4, .inl l4)] [] M := by
  intro n
  induction n with
  | zero =>
    intro l4 M q h
    rw [fX2_put_7] at h
    cases h
  | succ n ih =>
    intro l4 M q h
    rw [fX2_put_7] at h
    refine zEV.iload dX2_put_7 4 rfl ?_
    refine zEV.iload_n dX2_put_9 rfl 1 rfl ?_
    refine zEV.iload_n dX2_put_10 rfl 2 rfl ?_
    refine zEV.iadd dX2_put_11 ?_
    refine zEV.icmp_ge 39 dX2_put_12 (by decide) (fun c1 => ?_) (fun c1 => ?_)
    · rw [if_pos c1] at h
      have h := Option.some.inj h
      subst h
      exact zEV.vret rfl dX2_put_39
    · rw [if_neg c1] at h
      refine zEV.iload dX2_put_15 4 rfl ?_
      refine zEV.aload_n dX2_put_17 rfl 0 rfl ?_
      refine zEV.gfi rfl inz2 1 (by decide) wf_RX2_13 (by decide) rfl rfl dX2_put_18 ?_
      refine zEV.icmp_ge 39 dX2_put_21 (by decide) (fun c2 => ?_) (fun c2 => ?_)
      · rw [if_pos c2] at h
        have h := Option.some.inj h
        subst h
        exact zEV.vret rfl dX2_put_39
      · rw [if_neg c2] at h
        refine zEV.aload_n dX2_put_24 rfl 0 rfl ?_
        refine zEV.gfr rfl inz2 0 (by decide) wf_RX2_9 (by decide) rfl rfl dX2_put_25 ?_
        refine zEV.iload dX2_put_28 4 rfl ?_
        refine zEV.iload_n dX2_put_30 rfl 3 rfl ?_
        refine zEV.i2l dX2_put_31 ?_
        obtain ⟨g3, h⟩ := ite_no h
        refine zEV.last (by decide) rfl g3 dX2_put_32 ?_
        refine zEV.iinc (v := (l4 + 1)) dX2_put_33 4 rfl rfl (Nat.le_of_ble_eq_true rfl) rfl ?_
        refine zEV.goto 7 dX2_put_36 (by decide) ?_
        exact zEV.perm [1, 2, 3, 4, 0] rfl (ih ((l4 + 1)) (wrL M 156 (Int32.toNatClampNeg l4) (Int32.toInt64 a3)) q h)
def fX2_put (a1 : Int32) (a2 : Int32) (a3 : Int32) (M : zMM) : Option (zMM) :=
  fX2_put_7 a1 a2 a3 zFU ((if 0 < a1 then a1 else 0)) M
set_option maxRecDepth 100000 in
theorem tX2_put_0 (a1 : Int32) (a2 : Int32) (a3 : Int32) (M : zMM) (q : zMM) (h : fX2_put a1 a2 a3  M = some q) : zEV iX2_put 0 0 (zZO (none, q)) 0 [(0, .inr (.inr 155)), (1, .inl a1), (2, .inl a2), (3, .inl a3)] [] M := by
  unfold fX2_put at h
  refine zEV.iconst (v := 0) dX2_put_0 rfl ?_
  refine zEV.iload_n dX2_put_1 rfl 1 rfl ?_
  refine zEV.mmax wm_RX2_33 wj_max_s wj_math_i wj_max_c ⟨Nat.le_of_ble_eq_true rfl, Nat.le_of_ble_eq_true rfl⟩ dX2_put_2 ?_
  refine zEV.istore dX2_put_5 (Nat.le_of_ble_eq_true rfl) rfl ?_
  exact zEV.perm [1, 2, 3, 4, 0] rfl (tX2_put_7 a1 a2 a3 zFU ((if 0 < a1 then a1 else 0)) M q h)
theorem kX2_put (a1 : Int32) (a2 : Int32) (a3 : Int32) (M : zMM) (q : zMM) (h : fX2_put a1 a2 a3 M = some q) : zCN yX2_put iX2_put [.inr (.inr 155), .inl a1, .inl a2, .inl a3] M (none, q) :=
  zCN.of (by decide) rfl rfl (Nat.le_of_ble_eq_true rfl) (zEV.perm [0, 1, 2, 3] rfl (tX2_put_0 a1 a2 a3 M q h))
-- RingedPage$Search.note
def fX3_note (b1 : Nat) (a2 : Int32) (M : zMM) : Option (zMM) :=
  some (wr (wr (wr (wr M 148 0 (M.1 b1 3)) 148 1 ((wr M 148 0 (M.1 b1 3)).1 b1 4)) 148 2 ((wr (wr M 148 0 (M.1 b1 3)) 148 1 ((wr M 148 0 (M.1 b1 3)).1 b1 4)).1 b1 5)) 148 3 a2)
set_option maxRecDepth 100000 in
theorem tX3_note_0 (b1 : Nat) (a2 : Int32) (hb1 : lf b1) (M : zMM) (q : zMM) (h : fX3_note b1 a2  M = some q) : zEV iX3_note 0 0 (zZO (none, q)) 0 [(0, .inr (.inr 148)), (1, .inr (.inr b1)), (2, .inl a2)] [] M := by
  unfold fX3_note at h
  refine zEV.aload_n dX3_note_0 rfl 0 rfl ?_
  refine zEV.aload_n dX3_note_1 rfl 1 rfl ?_
  refine zEV.gfi rfl inz0 3 (by decide) wf_RX3_27 (lf_lt hb1 0 (by decide)) (lf_shp hb1 0 (by decide)) rfl dX3_note_2 ?_
  refine zEV.pfi rfl inz3 tyX3 tyX3_ok nmX3 0 (by decide) wf_RX3_9 rfl (by decide +kernel) (by decide) rfl rfl dX3_note_5 ?_
  refine zEV.aload_n dX3_note_8 rfl 0 rfl ?_
  refine zEV.aload_n dX3_note_9 rfl 1 rfl ?_
  refine zEV.gfi rfl inz0 4 (by decide) wf_RX3_30 (lf_lt hb1 0 (by decide)) (lf_shp hb1 0 (by decide)) rfl dX3_note_10 ?_
  refine zEV.pfi rfl inz3 tyX3 tyX3_ok nmX3 1 (by decide) wf_RX3_15 rfl (by decide +kernel) (by decide) rfl rfl dX3_note_13 ?_
  refine zEV.aload_n dX3_note_16 rfl 0 rfl ?_
  refine zEV.aload_n dX3_note_17 rfl 1 rfl ?_
  refine zEV.gfi rfl inz0 5 (by decide) wf_RX3_31 (lf_lt hb1 0 (by decide)) (lf_shp hb1 0 (by decide)) rfl dX3_note_18 ?_
  refine zEV.pfi rfl inz3 tyX3 tyX3_ok nmX3 2 (by decide) wf_RX3_18 rfl (by decide +kernel) (by decide) rfl rfl dX3_note_21 ?_
  refine zEV.aload_n dX3_note_24 rfl 0 rfl ?_
  refine zEV.iload_n dX3_note_25 rfl 2 rfl ?_
  refine zEV.pfi rfl inz3 tyX3 tyX3_ok nmX3 3 (by decide) wf_RX3_21 rfl (by decide +kernel) (by decide) rfl rfl dX3_note_26 ?_
  have h := Option.some.inj h
  subst h
  exact zEV.vret rfl dX3_note_29
theorem kX3_note (b1 : Nat) (a2 : Int32) (hb1 : lf b1) (M : zMM) (q : zMM) (h : fX3_note b1 a2 M = some q) : zCN yX3_note iX3_note [.inr (.inr 148), .inr (.inr b1), .inl a2] M (none, q) :=
  zCN.of (by decide) rfl rfl (Nat.le_of_ble_eq_true rfl) (zEV.perm [0, 1, 2] rfl (tX3_note_0 b1 a2 hb1 M q h))
-- RingedPage$Setting.isLeft
def fX4_isLeft (b1 : Nat) (a2 : Int32) (M : zMM) : Option (Int32 × zMM) :=
  if oob (a2) 3 then none else
  if (M.1 (b1 + 2) (Int32.toNatClampNeg a2)) ≤ (M.1 121 (Int32.toNatClampNeg a2)) then
    some (0, M)
  else
    some (1, M)
set_option maxRecDepth 100000 in
theorem tX4_isLeft_0 (b1 : Nat) (a2 : Int32) (hb1 : lf b1) (M : zMM) (q : Int32 × zMM) (h : fX4_isLeft b1 a2  M = some q) : zEV iX4_isLeft 0 0 (zZO (some (.inl q.1), q.2)) 0 [(0, .inr (.inr 120)), (1, .inr (.inr b1)), (2, .inl a2)] [] M := by
  unfold fX4_isLeft at h
  refine zEV.aload_n dX4_isLeft_0 rfl 0 rfl ?_
  refine zEV.gfr rfl inz4 1 (by decide) wf_RX4_15 (by decide) rfl rfl dX4_isLeft_1 ?_
  refine zEV.iload_n dX4_isLeft_4 rfl 2 rfl ?_
  obtain ⟨g1, h⟩ := ite_no h
  refine zEV.iald (by decide) rfl g1 dX4_isLeft_5 ?_
  refine zEV.aload_n dX4_isLeft_6 rfl 1 rfl ?_
  refine zEV.gfr rfl inz0 8 (by decide) wf_RX4_61 (lf_lt hb1 0 (by decide)) (lf_shp hb1 0 (by decide)) rfl dX4_isLeft_7 ?_
  refine zEV.iload_n dX4_isLeft_10 rfl 2 rfl ?_
  refine zEV.iald (lf_lt hb1 2 (by decide)) (lf_shp hb1 2 (by decide)) g1 dX4_isLeft_11 ?_
  refine zEV.icmp_ge 19 dX4_isLeft_12 (by decide) (fun c2 => ?_) (fun c2 => ?_)
  · rw [if_pos c2] at h
    refine zEV.iconst (v := 0) dX4_isLeft_19 rfl ?_
    have h := Option.some.inj h
    subst h
    exact zEV.zret rfl (Or.inl rfl) dX4_isLeft_20
  · rw [if_neg c2] at h
    refine zEV.iconst (v := 1) dX4_isLeft_15 rfl ?_
    refine zEV.goto 20 dX4_isLeft_16 (by decide) ?_
    have h := Option.some.inj h
    subst h
    exact zEV.zret rfl (Or.inr rfl) dX4_isLeft_20
theorem kX4_isLeft (b1 : Nat) (a2 : Int32) (hb1 : lf b1) (M : zMM) (q : Int32 × zMM) (h : fX4_isLeft b1 a2 M = some q) : zCN yX4_isLeft iX4_isLeft [.inr (.inr 120), .inr (.inr b1), .inl a2] M (some (.inl q.1), q.2) :=
  zCN.of (by decide) rfl rfl (Nat.le_of_ble_eq_true rfl) (zEV.perm [0, 1, 2] rfl (tX4_isLeft_0 b1 a2 hb1 M q h))
-- RingedPage$Setting.takePart
def fX4_takePart_114 (b1 : Nat) (a2 : Int32) (a3 : Int32) (a4 : Int32) (a5 : Int32) (l9 : Int32) (l11 : Int32) (s0 : Int32) (M : zMM) : Option (zMM) :=
  if oob (a2) 3 then none else
  if oob (a3) 210 then none else
  some (wr (wr (wr (wr (wr (wr (wr (wr M (129 + 1 * Int32.toNatClampNeg a2) (Int32.toNatClampNeg a3) l9) (133 + 1 * Int32.toNatClampNeg a2) (Int32.toNatClampNeg a3) (l11 - l9)) (137 + 1 * Int32.toNatClampNeg a2) (Int32.toNatClampNeg a3) a5) (141 + 1 * Int32.toNatClampNeg a2) (Int32.toNatClampNeg a3) a4) (145 + 1 * Int32.toNatClampNeg a2) (Int32.toNatClampNeg a3) s0) 123 (Int32.toNatClampNeg a2) (((wr (wr (wr (wr (wr M (129 + 1 * Int32.toNatClampNeg a2) (Int32.toNatClampNeg a3) l9) (133 + 1 * Int32.toNatClampNeg a2) (Int32.toNatClampNeg a3) (l11 - l9)) (137 + 1 * Int32.toNatClampNeg a2) (Int32.toNatClampNeg a3) a5) (141 + 1 * Int32.toNatClampNeg a2) (Int32.toNatClampNeg a3) a4) (145 + 1 * Int32.toNatClampNeg a2) (Int32.toNatClampNeg a3) s0).1 123 (Int32.toNatClampNeg a2)) + s0)) 122 (Int32.toNatClampNeg a2) (((wr (wr (wr (wr (wr (wr M (129 + 1 * Int32.toNatClampNeg a2) (Int32.toNatClampNeg a3) l9) (133 + 1 * Int32.toNatClampNeg a2) (Int32.toNatClampNeg a3) (l11 - l9)) (137 + 1 * Int32.toNatClampNeg a2) (Int32.toNatClampNeg a3) a5) (141 + 1 * Int32.toNatClampNeg a2) (Int32.toNatClampNeg a3) a4) (145 + 1 * Int32.toNatClampNeg a2) (Int32.toNatClampNeg a3) s0) 123 (Int32.toNatClampNeg a2) (((wr (wr (wr (wr (wr M (129 + 1 * Int32.toNatClampNeg a2) (Int32.toNatClampNeg a3) l9) (133 + 1 * Int32.toNatClampNeg a2) (Int32.toNatClampNeg a3) (l11 - l9)) (137 + 1 * Int32.toNatClampNeg a2) (Int32.toNatClampNeg a3) a5) (141 + 1 * Int32.toNatClampNeg a2) (Int32.toNatClampNeg a3) a4) (145 + 1 * Int32.toNatClampNeg a2) (Int32.toNatClampNeg a3) s0).1 123 (Int32.toNatClampNeg a2)) + s0)).1 122 (Int32.toNatClampNeg a2)) + 1)) 121 (Int32.toNatClampNeg a2) l11)
set_option maxRecDepth 100000 in
theorem tX4_takePart_114 (b1 : Nat) (a2 : Int32) (a3 : Int32) (a4 : Int32) (a5 : Int32) (hb1 : lf b1) (l9 : Int32) (l11 : Int32) (s0 : Int32) (M : zMM) (q : zMM) (h : fX4_takePart_114 b1 a2 a3 a4 a5 l9 l11 s0 M = some q) : zEV iX4_takePart 0 0 (zZO (none, q)) 114 [(0, .inr (.inr 120)), (2, .inl a2), (3, .inl a3), (4, .inl a4), (5, .inl a5), (9, .inl l9), (11, .inl l11)] [.inl s0] M := by
  unfold fX4_takePart_114 at h
  refine zEV.istore dX4_takePart_114 (Nat.le_of_ble_eq_true rfl) rfl ?_
  refine zEV.aload_n dX4_takePart_116 rfl 1 rfl ?_
  refine zEV.gfr rfl inz4 5 (by decide) wf_RX4_30 (by decide) rfl rfl dX4_takePart_117 ?_
  refine zEV.iload_n dX4_takePart_120 rfl 2 rfl ?_
  obtain ⟨g1, h⟩ := ite_no h
  refine zEV.aald (by decide) (by decide) rfl g1 dX4_takePart_121 ?_
  refine zEV.iload_n dX4_takePart_122 rfl 3 rfl ?_
  refine zEV.iload dX4_takePart_123 6 rfl ?_
  obtain ⟨g2, h⟩ := ite_no h
  refine zEV.iast (st_row129 g1).1 (st_row129 g1).2 g2 dX4_takePart_125 ?_
  refine zEV.aload_n dX4_takePart_126 rfl 1 rfl ?_
  refine zEV.gfr rfl inz4 6 (by decide) wf_RX4_33 (by decide) rfl rfl dX4_takePart_127 ?_
  refine zEV.iload_n dX4_takePart_130 rfl 2 rfl ?_
  refine zEV.aald (by decide) (by decide) rfl g1 dX4_takePart_131 ?_
  refine zEV.iload_n dX4_takePart_132 rfl 3 rfl ?_
  refine zEV.iload dX4_takePart_133 7 rfl ?_
  refine zEV.iload dX4_takePart_135 6 rfl ?_
  refine zEV.isub dX4_takePart_137 ?_
  refine zEV.iast (st_row133 g1).1 (st_row133 g1).2 g2 dX4_takePart_138 ?_
  refine zEV.aload_n dX4_takePart_139 rfl 1 rfl ?_
  refine zEV.gfr rfl inz4 7 (by decide) wf_RX4_36 (by decide) rfl rfl dX4_takePart_140 ?_
  refine zEV.iload_n dX4_takePart_143 rfl 2 rfl ?_
  refine zEV.aald (by decide) (by decide) rfl g1 dX4_takePart_144 ?_
  refine zEV.iload_n dX4_takePart_145 rfl 3 rfl ?_
  refine zEV.iload dX4_takePart_146 5 rfl ?_
  refine zEV.iast (st_row137 g1).1 (st_row137 g1).2 g2 dX4_takePart_148 ?_
  refine zEV.aload_n dX4_takePart_149 rfl 1 rfl ?_
  refine zEV.gfr rfl inz4 8 (by decide) wf_RX4_39 (by decide) rfl rfl dX4_takePart_150 ?_
  refine zEV.iload_n dX4_takePart_153 rfl 2 rfl ?_
  refine zEV.aald (by decide) (by decide) rfl g1 dX4_takePart_154 ?_
  refine zEV.iload_n dX4_takePart_155 rfl 3 rfl ?_
  refine zEV.iload dX4_takePart_156 4 rfl ?_
  refine zEV.iast (st_row141 g1).1 (st_row141 g1).2 g2 dX4_takePart_158 ?_
  refine zEV.aload_n dX4_takePart_159 rfl 1 rfl ?_
  refine zEV.gfr rfl inz4 9 (by decide) wf_RX4_42 (by decide) rfl rfl dX4_takePart_160 ?_
  refine zEV.iload_n dX4_takePart_163 rfl 2 rfl ?_
  refine zEV.aald (by decide) (by decide) rfl g1 dX4_takePart_164 ?_
  refine zEV.iload_n dX4_takePart_165 rfl 3 rfl ?_
  refine zEV.iload dX4_takePart_166 0 rfl ?_
  refine zEV.iast (st_row145 g1).1 (st_row145 g1).2 g2 dX4_takePart_168 ?_
  refine zEV.aload_n dX4_takePart_169 rfl 1 rfl ?_
  refine zEV.gfr rfl inz4 3 (by decide) wf_RX4_22 (by decide) rfl rfl dX4_takePart_170 ?_
  refine zEV.iload_n dX4_takePart_173 rfl 2 rfl ?_
  refine zEV.dup2 dX4_takePart_174 rfl rfl ?_
  refine zEV.iald (by decide) rfl g1 dX4_takePart_175 ?_
  refine zEV.iload dX4_takePart_176 0 rfl ?_
  refine zEV.iadd dX4_takePart_178 ?_
  refine zEV.iast (by decide) rfl g1 dX4_takePart_179 ?_
  refine zEV.aload_n dX4_takePart_180 rfl 1 rfl ?_
  refine zEV.gfr rfl inz4 2 (by decide) wf_RX4_19 (by decide) rfl rfl dX4_takePart_181 ?_
  refine zEV.iload_n dX4_takePart_184 rfl 2 rfl ?_
  refine zEV.dup2 dX4_takePart_185 rfl rfl ?_
  refine zEV.iald (by decide) rfl g1 dX4_takePart_186 ?_
  refine zEV.iconst (v := 1) dX4_takePart_187 rfl ?_
  refine zEV.iadd dX4_takePart_188 ?_
  refine zEV.iast (by decide) rfl g1 dX4_takePart_189 ?_
  refine zEV.aload_n dX4_takePart_190 rfl 1 rfl ?_
  refine zEV.gfr rfl inz4 1 (by decide) wf_RX4_15 (by decide) rfl rfl dX4_takePart_191 ?_
  refine zEV.iload_n dX4_takePart_194 rfl 2 rfl ?_
  refine zEV.iload dX4_takePart_195 7 rfl ?_
  refine zEV.iast (by decide) rfl g1 dX4_takePart_197 ?_
  have h := Option.some.inj h
  subst h
  exact zEV.vret rfl dX4_takePart_198
def fX4_takePart_98 (b1 : Nat) (a2 : Int32) (a3 : Int32) (a4 : Int32) (a5 : Int32) (l8 : Int32) (l9 : Int32) (l10 : Int32) (l11 : Int32) (M : zMM) : Option (zMM) :=
  if l8 ≤ l11 then
    fX4_takePart_114 b1 a2 a3 a4 a5 (l9) (l11) (0) M
  else
    fX4_takePart_114 b1 a2 a3 a4 a5 (l9) (l11) ((l10 * l10)) M
set_option maxRecDepth 100000 in
theorem tX4_takePart_98 (b1 : Nat) (a2 : Int32) (a3 : Int32) (a4 : Int32) (a5 : Int32) (hb1 : lf b1) (l8 : Int32) (l9 : Int32) (l10 : Int32) (l11 : Int32) (M : zMM) (q : zMM) (h : fX4_takePart_98 b1 a2 a3 a4 a5 l8 l9 l10 l11 M = some q) : zEV iX4_takePart 0 0 (zZO (none, q)) 98 [(0, .inr (.inr 120)), (2, .inl a2), (3, .inl a3), (4, .inl a4), (5, .inl a5), (8, .inl l8), (9, .inl l9), (10, .inl l10), (11, .inl l11)] [] M := by
  unfold fX4_takePart_98 at h
  refine zEV.iload dX4_takePart_98 8 rfl ?_
  refine zEV.iload dX4_takePart_100 5 rfl ?_
  refine zEV.icmp_ge 113 dX4_takePart_102 (by decide) (fun c1 => ?_) (fun c1 => ?_)
  · rw [if_pos c1] at h
    refine zEV.iconst (v := 0) dX4_takePart_113 rfl ?_
    exact zEV.perm [0, 1, 2, 3, 4, 6, 8] rfl (tX4_takePart_114 b1 a2 a3 a4 a5 hb1 (l9) (l11) (0) M q h)
  · rw [if_neg c1] at h
    refine zEV.iload dX4_takePart_105 7 rfl ?_
    refine zEV.iload dX4_takePart_107 7 rfl ?_
    refine zEV.imul dX4_takePart_109 ?_
    refine zEV.goto 114 dX4_takePart_110 (by decide) ?_
    exact zEV.perm [0, 1, 2, 3, 4, 6, 8] rfl (tX4_takePart_114 b1 a2 a3 a4 a5 hb1 (l9) (l11) ((l10 * l10)) M q h)
def fX4_takePart_57 (b1 : Nat) (a2 : Int32) (a3 : Int32) (a4 : Int32) (a5 : Int32) : Nat → Int32 → Int32 → Int32 → Int32 → zMM → Option (zMM)
  | 0, _, _, _, _, _ => none
  | n + 1, l8, l9, l10, l11, M =>
  if l8 ≤ l11 then
    fX4_takePart_98 b1 a2 a3 a4 a5 (l8) (l9) (l10) (l11) M
  else
    if oob (a2) 3 then none else
    if oob (l11) 70 then none else
    if l10 ≤ (M.1 (b1 + 4 + 1 * Int32.toNatClampNeg a2) (Int32.toNatClampNeg l11)) then
      fX4_takePart_98 b1 a2 a3 a4 a5 (l8) (l9) (l10) (l11) M
    else
      fX4_takePart_57 b1 a2 a3 a4 a5 n (l8) (l9) ((l10 - ((M.1 (b1 + 4 + 1 * Int32.toNatClampNeg a2) (Int32.toNatClampNeg l11)) + 1))) ((l11 + 1)) (wr M (125 + 1 * Int32.toNatClampNeg a2) (Int32.toNatClampNeg l11) a3)
set_option maxRecDepth 100000 in
theorem tX4_takePart_57 (b1 : Nat) (a2 : Int32) (a3 : Int32) (a4 : Int32) (a5 : Int32) (hb1 : lf b1) : ∀ (n : Nat) (l8 : Int32) (l9 : Int32) (l10 : Int32) (l11 : Int32) (M : zMM) (q : zMM), fX4_takePart_57 b1 a2 a3 a4 a5 n l8 l9 l10 l11 M = some q → zEV iX4_takePart 0 0 (zZO (none, q)) 57 [(0, .inr (.inr 120)), (2, .inl a2), (3, .inl a3), (4, .inl a4), (5, .inl a5), (6, .inr (.inr (b1 + 4 + 1 * Int32.toNatClampNeg a2))), (7, .inr (.inr (125 + 1 * Int32.toNatClampNeg a2))), (8, .inl l8), (9, .inl l9), (10, .inl l10), (11, .inl l11)] [] M := by
  intro n
  induction n with
  | zero =>
    intro l8 l9 l10 l11 M q h
    rw [fX4_takePart_57] at h
    cases h
  | succ n ih =>
    intro l8 l9 l10 l11 M q h
    rw [fX4_takePart_57] at h
    refine zEV.iload dX4_takePart_57 10 rfl ?_
    refine zEV.iload dX4_takePart_59 7 rfl ?_
    refine zEV.icmp_ge 98 dX4_takePart_61 (by decide) (fun c1 => ?_) (fun c1 => ?_)
    · rw [if_pos c1] at h
      exact zEV.perm [0, 1, 2, 3, 4, 7, 8, 9, 10] rfl (tX4_takePart_98 b1 a2 a3 a4 a5 hb1 (l8) (l9) (l10) (l11) M q h)
    · rw [if_neg c1] at h
      refine zEV.aload dX4_takePart_64 5 rfl ?_
      refine zEV.iload dX4_takePart_66 10 rfl ?_
      obtain ⟨g2, h⟩ := ite_no h
      obtain ⟨g3, h⟩ := ite_no h
      refine zEV.iald (lf_row hb1 g2).1 (lf_row hb1 g2).2 g3 dX4_takePart_68 ?_
      refine zEV.iload dX4_takePart_69 9 rfl ?_
      refine zEV.icmp_ge 98 dX4_takePart_71 (by decide) (fun c4 => ?_) (fun c4 => ?_)
      · rw [if_pos c4] at h
        exact zEV.perm [0, 1, 2, 3, 4, 7, 8, 9, 10] rfl (tX4_takePart_98 b1 a2 a3 a4 a5 hb1 (l8) (l9) (l10) (l11) M q h)
      · rw [if_neg c4] at h
        refine zEV.iload dX4_takePart_74 9 rfl ?_
        refine zEV.aload dX4_takePart_76 5 rfl ?_
        refine zEV.iload dX4_takePart_78 10 rfl ?_
        refine zEV.iald (lf_row hb1 g2).1 (lf_row hb1 g2).2 g3 dX4_takePart_80 ?_
        refine zEV.iconst (v := 1) dX4_takePart_81 rfl ?_
        refine zEV.iadd dX4_takePart_82 ?_
        refine zEV.isub dX4_takePart_83 ?_
        refine zEV.istore dX4_takePart_84 (Nat.le_of_ble_eq_true rfl) rfl ?_
        refine zEV.aload dX4_takePart_86 7 rfl ?_
        refine zEV.iload dX4_takePart_88 10 rfl ?_
        refine zEV.iload_n dX4_takePart_90 rfl 3 rfl ?_
        refine zEV.iast (st_row125 g2).1 (st_row125 g2).2 g3 dX4_takePart_91 ?_
        refine zEV.iinc (v := (l11 + 1)) dX4_takePart_92 10 rfl rfl (Nat.le_of_ble_eq_true rfl) rfl ?_
        refine zEV.goto 57 dX4_takePart_95 (by decide) ?_
        exact zEV.perm [2, 3, 4, 5, 6, 7, 8, 9, 10, 1, 0] rfl (ih (l8) (l9) ((l10 - ((M.1 (b1 + 4 + 1 * Int32.toNatClampNeg a2) (Int32.toNatClampNeg l11)) + 1))) ((l11 + 1)) (wr M (125 + 1 * Int32.toNatClampNeg a2) (Int32.toNatClampNeg l11) a3) q h)
def fX4_takePart (b1 : Nat) (a2 : Int32) (a3 : Int32) (a4 : Int32) (a5 : Int32) (M : zMM) : Option (zMM) :=
  if (0 : Int32) < a5 then
    if oob (a2) 3 then none else
    fX4_takePart_57 b1 a2 a3 a4 a5 zFU ((M.1 (b1 + 2) (Int32.toNatClampNeg a2))) ((M.1 121 (Int32.toNatClampNeg a2))) ((a5 + 1)) ((M.1 121 (Int32.toNatClampNeg a2))) M
  else
    if oob (a2) 3 then none else
    if oob (a3) 210 then none else
    some (wr M (133 + 1 * Int32.toNatClampNeg a2) (Int32.toNatClampNeg a3) 0)
set_option maxRecDepth 100000 in
theorem tX4_takePart_0 (b1 : Nat) (a2 : Int32) (a3 : Int32) (a4 : Int32) (a5 : Int32) (hb1 : lf b1) (M : zMM) (q : zMM) (h : fX4_takePart b1 a2 a3 a4 a5  M = some q) : zEV iX4_takePart 0 0 (zZO (none, q)) 0 [(0, .inr (.inr 120)), (1, .inr (.inr b1)), (2, .inl a2), (3, .inl a3), (4, .inl a4), (5, .inl a5)] [] M := by
  unfold fX4_takePart at h
  refine zEV.iload dX4_takePart_0 5 rfl ?_
  refine zEV.if_gt 15 dX4_takePart_2 (by decide) (fun c1 => ?_) (fun c1 => ?_)
  · rw [if_pos c1] at h
    refine zEV.aload_n dX4_takePart_15 rfl 1 rfl ?_
    refine zEV.gfr rfl inz0 9 (by decide) wf_RX4_79 (lf_lt hb1 0 (by decide)) (lf_shp hb1 0 (by decide)) rfl dX4_takePart_16 ?_
    refine zEV.iload_n dX4_takePart_19 rfl 2 rfl ?_
    obtain ⟨g2, h⟩ := ite_no h
    refine zEV.aald (lf_lt hb1 3 (by decide)) (by decide) (lf_shp hb1 3 (by decide)) g2 dX4_takePart_20 ?_
    refine zEV.astore dX4_takePart_21 (Nat.le_of_ble_eq_true rfl) rfl ?_
    refine zEV.aload_n dX4_takePart_23 rfl 1 rfl ?_
    refine zEV.gfr rfl inz4 4 (by decide) wf_RX4_27 (by decide) rfl rfl dX4_takePart_24 ?_
    refine zEV.iload_n dX4_takePart_27 rfl 3 rfl ?_
    refine zEV.aald (by decide) (by decide) rfl g2 dX4_takePart_28 ?_
    refine zEV.astore dX4_takePart_29 (Nat.le_of_ble_eq_true rfl) rfl ?_
    refine zEV.aload_n dX4_takePart_31 rfl 3 rfl ?_
    refine zEV.gfr rfl inz0 8 (by decide) wf_RX4_61 (lf_lt hb1 0 (by decide)) (lf_shp hb1 0 (by decide)) rfl dX4_takePart_32 ?_
    refine zEV.iload_n dX4_takePart_35 rfl 4 rfl ?_
    refine zEV.iald (lf_lt hb1 2 (by decide)) (lf_shp hb1 2 (by decide)) g2 dX4_takePart_36 ?_
    refine zEV.istore dX4_takePart_37 (Nat.le_of_ble_eq_true rfl) rfl ?_
    refine zEV.aload_n dX4_takePart_39 rfl 3 rfl ?_
    refine zEV.gfr rfl inz4 1 (by decide) wf_RX4_15 (by decide) rfl rfl dX4_takePart_40 ?_
    refine zEV.iload_n dX4_takePart_43 rfl 5 rfl ?_
    refine zEV.iald (by decide) rfl g2 dX4_takePart_44 ?_
    refine zEV.istore dX4_takePart_45 (Nat.le_of_ble_eq_true rfl) rfl ?_
    refine zEV.iload dX4_takePart_47 9 rfl ?_
    refine zEV.iconst (v := 1) dX4_takePart_49 rfl ?_
    refine zEV.iadd dX4_takePart_50 ?_
    refine zEV.istore dX4_takePart_51 (Nat.le_of_ble_eq_true rfl) rfl ?_
    refine zEV.iload dX4_takePart_53 1 rfl ?_
    refine zEV.istore dX4_takePart_55 (Nat.le_of_ble_eq_true rfl) rfl ?_
    exact zEV.perm [6, 8, 9, 10, 11, 5, 4, 3, 2, 1, 0] rfl (tX4_takePart_57 b1 a2 a3 a4 a5 hb1 zFU ((M.1 (b1 + 2) (Int32.toNatClampNeg a2))) ((M.1 121 (Int32.toNatClampNeg a2))) ((a5 + 1)) ((M.1 121 (Int32.toNatClampNeg a2))) M q h)
  · rw [if_neg c1] at h
    refine zEV.aload_n dX4_takePart_5 rfl 0 rfl ?_
    refine zEV.gfr rfl inz4 6 (by decide) wf_RX4_33 (by decide) rfl rfl dX4_takePart_6 ?_
    refine zEV.iload_n dX4_takePart_9 rfl 2 rfl ?_
    obtain ⟨g3, h⟩ := ite_no h
    refine zEV.aald (by decide) (by decide) rfl g3 dX4_takePart_10 ?_
    refine zEV.iload_n dX4_takePart_11 rfl 3 rfl ?_
    refine zEV.iconst (v := 0) dX4_takePart_12 rfl ?_
    obtain ⟨g4, h⟩ := ite_no h
    refine zEV.iast (st_row133 g3).1 (st_row133 g3).2 g4 dX4_takePart_13 ?_
    have h := Option.some.inj h
    subst h
    exact zEV.vret rfl dX4_takePart_14
theorem kX4_takePart (b1 : Nat) (a2 : Int32) (a3 : Int32) (a4 : Int32) (a5 : Int32) (hb1 : lf b1) (M : zMM) (q : zMM) (h : fX4_takePart b1 a2 a3 a4 a5 M = some q) : zCN yX4_takePart iX4_takePart [.inr (.inr 120), .inr (.inr b1), .inl a2, .inl a3, .inl a4, .inl a5] M (none, q) :=
  zCN.of (by decide) rfl rfl (Nat.le_of_ble_eq_true rfl) (zEV.perm [0, 1, 2, 3, 4, 5] rfl (tX4_takePart_0 b1 a2 a3 a4 a5 hb1 M q h))
-- RingedPage$Setting.setLine
def fX4_setLine_172 (b1 : Nat) (a2 : Int32) (a3 : Int32) (l7 : Int32) (l8 : Int32) (l9 : Int32) (l10 : Int32) (M : zMM) : Option (zMM) :=
  (fX4_takePart b1 (1) (a2) (0) (l7) M).bind fun q1 =>
  (fX4_takePart b1 (0) (a2) (l8) (l10) q1).bind fun q2 =>
  (fX4_takePart b1 (2) (a2) (((q2.1 b1 0) - l9)) (l9) q2).bind fun q3 =>
  some q3
set_option maxRecDepth 100000 in
theorem tX4_setLine_172 (b1 : Nat) (a2 : Int32) (a3 : Int32) (hb1 : lf b1) (l7 : Int32) (l8 : Int32) (l9 : Int32) (l10 : Int32) (M : zMM) (q : zMM) (h : fX4_setLine_172 b1 a2 a3 l7 l8 l9 l10 M = some q) : zEV iX4_setLine 0 0 (zZO (none, q)) 172 [(0, .inr (.inr 120)), (1, .inr (.inr b1)), (2, .inl a2), (7, .inl l7), (8, .inl l8), (9, .inl l9), (10, .inl l10)] [] M := by
  unfold fX4_setLine_172 at h
  refine zEV.aload_n dX4_setLine_172 rfl 0 rfl ?_
  refine zEV.aload_n dX4_setLine_173 rfl 1 rfl ?_
  refine zEV.iconst (v := 1) dX4_setLine_174 rfl ?_
  refine zEV.iload_n dX4_setLine_175 rfl 2 rfl ?_
  refine zEV.iconst (v := 0) dX4_setLine_176 rfl ?_
  refine zEV.iload dX4_setLine_177 3 rfl ?_
  obtain ⟨q1, hq1, h⟩ := bind_yes h
  refine zEV.callVv (kX4_takePart b1 (1) (a2) (0) (l7) hb1 M q1 hq1) (by decide) rfl rfl wm_RX4_75 wc_X4_takePart hy_X4_takePart rfl ⟨Nat.le_of_ble_eq_true rfl, Nat.le_of_ble_eq_true rfl⟩ rfl (Nat.le_of_ble_eq_true rfl) dX4_setLine_179 ?_
  refine zEV.aload_n dX4_setLine_182 rfl 0 rfl ?_
  refine zEV.aload_n dX4_setLine_183 rfl 1 rfl ?_
  refine zEV.iconst (v := 0) dX4_setLine_184 rfl ?_
  refine zEV.iload_n dX4_setLine_185 rfl 2 rfl ?_
  refine zEV.iload dX4_setLine_186 4 rfl ?_
  refine zEV.iload dX4_setLine_188 6 rfl ?_
  obtain ⟨q2, hq2, h⟩ := bind_yes h
  refine zEV.callVv (kX4_takePart b1 (0) (a2) (l8) (l10) hb1 q1 q2 hq2) (by decide) rfl rfl wm_RX4_75 wc_X4_takePart hy_X4_takePart rfl ⟨Nat.le_of_ble_eq_true rfl, Nat.le_of_ble_eq_true rfl⟩ rfl (Nat.le_of_ble_eq_true rfl) dX4_setLine_190 ?_
  refine zEV.aload_n dX4_setLine_193 rfl 0 rfl ?_
  refine zEV.aload_n dX4_setLine_194 rfl 1 rfl ?_
  refine zEV.iconst (v := 2) dX4_setLine_195 rfl ?_
  refine zEV.iload_n dX4_setLine_196 rfl 2 rfl ?_
  refine zEV.aload_n dX4_setLine_197 rfl 1 rfl ?_
  refine zEV.gfi rfl inz0 0 (by decide) wf_RX4_67 (lf_lt hb1 0 (by decide)) (lf_shp hb1 0 (by decide)) rfl dX4_setLine_198 ?_
  refine zEV.iload dX4_setLine_201 5 rfl ?_
  refine zEV.isub dX4_setLine_203 ?_
  refine zEV.iload dX4_setLine_204 5 rfl ?_
  obtain ⟨q3, hq3, h⟩ := bind_yes h
  refine zEV.callVv (kX4_takePart b1 (2) (a2) (((q2.1 b1 0) - l9)) (l9) hb1 q2 q3 hq3) (by decide) rfl rfl wm_RX4_75 wc_X4_takePart hy_X4_takePart rfl ⟨Nat.le_of_ble_eq_true rfl, Nat.le_of_ble_eq_true rfl⟩ rfl (Nat.le_of_ble_eq_true rfl) dX4_setLine_206 ?_
  have h := Option.some.inj h
  subst h
  exact zEV.vret rfl dX4_setLine_209
def fX4_setLine_169 (b1 : Nat) (a2 : Int32) (a3 : Int32) (l7 : Int32) (l8 : Int32) (l9 : Int32) (s0 : Int32) (s1 : Int32) (M : zMM) : Option (zMM) :=
  fX4_setLine_172 b1 a2 a3 (l7) (l8) (l9) ((s1 - s0)) M
set_option maxRecDepth 100000 in
theorem tX4_setLine_169 (b1 : Nat) (a2 : Int32) (a3 : Int32) (hb1 : lf b1) (l7 : Int32) (l8 : Int32) (l9 : Int32) (s0 : Int32) (s1 : Int32) (M : zMM) (q : zMM) (h : fX4_setLine_169 b1 a2 a3 l7 l8 l9 s0 s1 M = some q) : zEV iX4_setLine 0 0 (zZO (none, q)) 169 [(0, .inr (.inr 120)), (1, .inr (.inr b1)), (2, .inl a2), (7, .inl l7), (8, .inl l8), (9, .inl l9)] [.inl s0, .inl s1] M := by
  unfold fX4_setLine_169 at h
  refine zEV.isub dX4_setLine_169 ?_
  refine zEV.istore dX4_setLine_170 (Nat.le_of_ble_eq_true rfl) rfl ?_
  exact zEV.perm [1, 2, 3, 4, 5, 6, 0] rfl (tX4_setLine_172 b1 a2 a3 hb1 (l7) (l8) (l9) ((s1 - s0)) M q h)
def fX4_setLine_138 (b1 : Nat) (a2 : Int32) (a3 : Int32) (l5 : Int32) (l6 : Int32) (l7 : Int32) (l8 : Int32) (l9 : Int32) (M : zMM) : Option (zMM) :=
  if l6 = (0 : Int32) then
    fX4_setLine_172 b1 a2 a3 (l7) (l8) (l9) (0) M
  else
    if l5 = (0 : Int32) then
      fX4_setLine_169 b1 a2 a3 (l7) (l8) (l9) (0) (((M.1 b1 0) - l8)) M
    else
      fX4_setLine_169 b1 a2 a3 (l7) (l8) (l9) ((l9 + (M.1 b1 2))) (((M.1 b1 0) - l8)) M
set_option maxRecDepth 100000 in
theorem tX4_setLine_138 (b1 : Nat) (a2 : Int32) (a3 : Int32) (hb1 : lf b1) (l5 : Int32) (l6 : Int32) (l7 : Int32) (l8 : Int32) (l9 : Int32) (M : zMM) (q : zMM) (h : fX4_setLine_138 b1 a2 a3 l5 l6 l7 l8 l9 M = some q) : zEV iX4_setLine 0 0 (zZO (none, q)) 138 [(0, .inr (.inr 120)), (1, .inr (.inr b1)), (2, .inl a2), (5, .inl l5), (6, .inl l6), (7, .inl l7), (8, .inl l8), (9, .inl l9)] [] M := by
  unfold fX4_setLine_138 at h
  refine zEV.iconst (v := 0) dX4_setLine_138 rfl ?_
  refine zEV.istore dX4_setLine_139 (Nat.le_of_ble_eq_true rfl) rfl ?_
  refine zEV.iload dX4_setLine_141 5 rfl ?_
  refine zEV.if_eq 172 dX4_setLine_143 (by decide) (fun c1 => ?_) (fun c1 => ?_)
  · rw [if_pos c1] at h
    exact zEV.perm [1, 2, 3, 6, 7, 8, 0] rfl (tX4_setLine_172 b1 a2 a3 hb1 (l7) (l8) (l9) (0) M q h)
  · rw [if_neg c1] at h
    refine zEV.aload_n dX4_setLine_146 rfl 2 rfl ?_
    refine zEV.gfi rfl inz0 0 (by decide) wf_RX4_67 (lf_lt hb1 0 (by decide)) (lf_shp hb1 0 (by decide)) rfl dX4_setLine_147 ?_
    refine zEV.iload dX4_setLine_150 7 rfl ?_
    refine zEV.isub dX4_setLine_152 ?_
    refine zEV.iload dX4_setLine_153 4 rfl ?_
    refine zEV.if_eq 168 dX4_setLine_155 (by decide) (fun c2 => ?_) (fun c2 => ?_)
    · rw [if_pos c2] at h
      refine zEV.iconst (v := 0) dX4_setLine_168 rfl ?_
      exact zEV.perm [1, 2, 3, 6, 7, 8] rfl (tX4_setLine_169 b1 a2 a3 hb1 (l7) (l8) (l9) (0) (((M.1 b1 0) - l8)) M q h)
    · rw [if_neg c2] at h
      refine zEV.iload dX4_setLine_158 8 rfl ?_
      refine zEV.aload_n dX4_setLine_160 rfl 2 rfl ?_
      refine zEV.gfi rfl inz0 2 (by decide) wf_RX4_69 (lf_lt hb1 0 (by decide)) (lf_shp hb1 0 (by decide)) rfl dX4_setLine_161 ?_
      refine zEV.iadd dX4_setLine_164 ?_
      refine zEV.goto 169 dX4_setLine_165 (by decide) ?_
      exact zEV.perm [1, 2, 3, 6, 7, 8] rfl (tX4_setLine_169 b1 a2 a3 hb1 (l7) (l8) (l9) ((l9 + (M.1 b1 2))) (((M.1 b1 0) - l8)) M q h)
def fX4_setLine_136 (b1 : Nat) (a2 : Int32) (a3 : Int32) (l5 : Int32) (l6 : Int32) (l7 : Int32) (l8 : Int32) (s0 : Int32) (M : zMM) : Option (zMM) :=
  fX4_setLine_138 b1 a2 a3 (l5) (l6) (l7) (l8) (s0) M
set_option maxRecDepth 100000 in
theorem tX4_setLine_136 (b1 : Nat) (a2 : Int32) (a3 : Int32) (hb1 : lf b1) (l5 : Int32) (l6 : Int32) (l7 : Int32) (l8 : Int32) (s0 : Int32) (M : zMM) (q : zMM) (h : fX4_setLine_136 b1 a2 a3 l5 l6 l7 l8 s0 M = some q) : zEV iX4_setLine 0 0 (zZO (none, q)) 136 [(0, .inr (.inr 120)), (1, .inr (.inr b1)), (2, .inl a2), (5, .inl l5), (6, .inl l6), (7, .inl l7), (8, .inl l8)] [.inl s0] M := by
  unfold fX4_setLine_136 at h
  refine zEV.istore dX4_setLine_136 (Nat.le_of_ble_eq_true rfl) rfl ?_
  exact zEV.perm [1, 2, 3, 4, 5, 6, 7, 0] rfl (tX4_setLine_138 b1 a2 a3 hb1 (l5) (l6) (l7) (l8) (s0) M q h)
def fX4_setLine_107 (b1 : Nat) (a2 : Int32) (a3 : Int32) (l5 : Int32) (l6 : Int32) (l7 : Int32) (s0 : Int32) (M : zMM) : Option (zMM) :=
  if l5 = (0 : Int32) then
    fX4_setLine_138 b1 a2 a3 (l5) (l6) (l7) (s0) (0) M
  else
    if l6 = (0 : Int32) then
      fX4_setLine_136 b1 a2 a3 (l5) (l6) (l7) (s0) (((M.1 b1 0) - s0)) M
    else
      fX4_setLine_136 b1 a2 a3 (l5) (l6) (l7) (s0) ((M.1 b1 5)) M
set_option maxRecDepth 100000 in
theorem tX4_setLine_107 (b1 : Nat) (a2 : Int32) (a3 : Int32) (hb1 : lf b1) (l5 : Int32) (l6 : Int32) (l7 : Int32) (s0 : Int32) (M : zMM) (q : zMM) (h : fX4_setLine_107 b1 a2 a3 l5 l6 l7 s0 M = some q) : zEV iX4_setLine 0 0 (zZO (none, q)) 107 [(0, .inr (.inr 120)), (1, .inr (.inr b1)), (2, .inl a2), (5, .inl l5), (6, .inl l6), (7, .inl l7)] [.inl s0] M := by
  unfold fX4_setLine_107 at h
  refine zEV.istore dX4_setLine_107 (Nat.le_of_ble_eq_true rfl) rfl ?_
  refine zEV.iconst (v := 0) dX4_setLine_109 rfl ?_
  refine zEV.istore dX4_setLine_110 (Nat.le_of_ble_eq_true rfl) rfl ?_
  refine zEV.iload dX4_setLine_112 5 rfl ?_
  refine zEV.if_eq 138 dX4_setLine_114 (by decide) (fun c1 => ?_) (fun c1 => ?_)
  · rw [if_pos c1] at h
    exact zEV.perm [2, 3, 4, 5, 6, 7, 1, 0] rfl (tX4_setLine_138 b1 a2 a3 hb1 (l5) (l6) (l7) (s0) (0) M q h)
  · rw [if_neg c1] at h
    refine zEV.iload dX4_setLine_117 6 rfl ?_
    refine zEV.if_eq 129 dX4_setLine_119 (by decide) (fun c2 => ?_) (fun c2 => ?_)
    · rw [if_pos c2] at h
      refine zEV.aload_n dX4_setLine_129 rfl 3 rfl ?_
      refine zEV.gfi rfl inz0 0 (by decide) wf_RX4_67 (lf_lt hb1 0 (by decide)) (lf_shp hb1 0 (by decide)) rfl dX4_setLine_130 ?_
      refine zEV.iload dX4_setLine_133 1 rfl ?_
      refine zEV.isub dX4_setLine_135 ?_
      exact zEV.perm [2, 3, 4, 5, 6, 7, 1] rfl (tX4_setLine_136 b1 a2 a3 hb1 (l5) (l6) (l7) (s0) (((M.1 b1 0) - s0)) M q h)
    · rw [if_neg c2] at h
      refine zEV.aload_n dX4_setLine_122 rfl 3 rfl ?_
      refine zEV.gfi rfl inz0 5 (by decide) wf_RX4_72 (lf_lt hb1 0 (by decide)) (lf_shp hb1 0 (by decide)) rfl dX4_setLine_123 ?_
      refine zEV.goto 136 dX4_setLine_126 (by decide) ?_
      exact zEV.perm [2, 3, 4, 5, 6, 7, 1] rfl (tX4_setLine_136 b1 a2 a3 hb1 (l5) (l6) (l7) (s0) ((M.1 b1 5)) M q h)
def fX4_setLine_91 (b1 : Nat) (a2 : Int32) (a3 : Int32) (l4 : Int32) (l5 : Int32) (l6 : Int32) (l7 : Int32) (M : zMM) : Option (zMM) :=
  if l4 = (0 : Int32) then
    fX4_setLine_107 b1 a2 a3 (l5) (l6) (l7) (0) M
  else
    fX4_setLine_107 b1 a2 a3 (l5) (l6) (l7) ((l7 + (M.1 b1 2))) M
set_option maxRecDepth 100000 in
theorem tX4_setLine_91 (b1 : Nat) (a2 : Int32) (a3 : Int32) (hb1 : lf b1) (l4 : Int32) (l5 : Int32) (l6 : Int32) (l7 : Int32) (M : zMM) (q : zMM) (h : fX4_setLine_91 b1 a2 a3 l4 l5 l6 l7 M = some q) : zEV iX4_setLine 0 0 (zZO (none, q)) 91 [(0, .inr (.inr 120)), (1, .inr (.inr b1)), (2, .inl a2), (4, .inl l4), (5, .inl l5), (6, .inl l6), (7, .inl l7)] [] M := by
  unfold fX4_setLine_91 at h
  refine zEV.iload dX4_setLine_91 3 rfl ?_
  refine zEV.if_eq 106 dX4_setLine_93 (by decide) (fun c1 => ?_) (fun c1 => ?_)
  · rw [if_pos c1] at h
    refine zEV.iconst (v := 0) dX4_setLine_106 rfl ?_
    exact zEV.perm [0, 1, 2, 4, 5, 6] rfl (tX4_setLine_107 b1 a2 a3 hb1 (l5) (l6) (l7) (0) M q h)
  · rw [if_neg c1] at h
    refine zEV.iload dX4_setLine_96 6 rfl ?_
    refine zEV.aload_n dX4_setLine_98 rfl 1 rfl ?_
    refine zEV.gfi rfl inz0 2 (by decide) wf_RX4_69 (lf_lt hb1 0 (by decide)) (lf_shp hb1 0 (by decide)) rfl dX4_setLine_99 ?_
    refine zEV.iadd dX4_setLine_102 ?_
    refine zEV.goto 107 dX4_setLine_103 (by decide) ?_
    exact zEV.perm [0, 1, 2, 4, 5, 6] rfl (tX4_setLine_107 b1 a2 a3 hb1 (l5) (l6) (l7) ((l7 + (M.1 b1 2))) M q h)
def fX4_setLine_89 (b1 : Nat) (a2 : Int32) (a3 : Int32) (l4 : Int32) (l5 : Int32) (l6 : Int32) (s0 : Int32) (M : zMM) : Option (zMM) :=
  fX4_setLine_91 b1 a2 a3 (l4) (l5) (l6) (s0) M
set_option maxRecDepth 100000 in
theorem tX4_setLine_89 (b1 : Nat) (a2 : Int32) (a3 : Int32) (hb1 : lf b1) (l4 : Int32) (l5 : Int32) (l6 : Int32) (s0 : Int32) (M : zMM) (q : zMM) (h : fX4_setLine_89 b1 a2 a3 l4 l5 l6 s0 M = some q) : zEV iX4_setLine 0 0 (zZO (none, q)) 89 [(0, .inr (.inr 120)), (1, .inr (.inr b1)), (2, .inl a2), (4, .inl l4), (5, .inl l5), (6, .inl l6)] [.inl s0] M := by
  unfold fX4_setLine_89 at h
  refine zEV.istore dX4_setLine_89 (Nat.le_of_ble_eq_true rfl) rfl ?_
  exact zEV.perm [1, 2, 3, 4, 5, 6, 0] rfl (tX4_setLine_91 b1 a2 a3 hb1 (l4) (l5) (l6) (s0) M q h)
def fX4_setLine_44 (b1 : Nat) (a2 : Int32) (a3 : Int32) (l4 : Int32) (l5 : Int32) (s0 : Int32) (M : zMM) : Option (zMM) :=
  if l4 = (0 : Int32) then
    fX4_setLine_91 b1 a2 a3 (l4) (l5) (s0) (0) M
  else
    if s0 = (0 : Int32) then
      if l5 = (0 : Int32) then
        fX4_setLine_89 b1 a2 a3 (l4) (l5) (s0) ((M.1 b1 0)) M
      else
        fX4_setLine_89 b1 a2 a3 (l4) (l5) (s0) ((((M.1 b1 0) - (M.1 b1 2)) / 2)) M
    else
      fX4_setLine_89 b1 a2 a3 (l4) (l5) (s0) ((M.1 b1 4)) M
set_option maxRecDepth 100000 in
theorem tX4_setLine_44 (b1 : Nat) (a2 : Int32) (a3 : Int32) (hb1 : lf b1) (l4 : Int32) (l5 : Int32) (s0 : Int32) (M : zMM) (q : zMM) (h : fX4_setLine_44 b1 a2 a3 l4 l5 s0 M = some q) : zEV iX4_setLine 0 0 (zZO (none, q)) 44 [(0, .inr (.inr 120)), (1, .inr (.inr b1)), (2, .inl a2), (4, .inl l4), (5, .inl l5)] [.inl s0] M := by
  unfold fX4_setLine_44 at h
  refine zEV.istore dX4_setLine_44 (Nat.le_of_ble_eq_true rfl) rfl ?_
  refine zEV.iconst (v := 0) dX4_setLine_46 rfl ?_
  refine zEV.istore dX4_setLine_47 (Nat.le_of_ble_eq_true rfl) rfl ?_
  refine zEV.iload dX4_setLine_49 5 rfl ?_
  refine zEV.if_eq 91 dX4_setLine_51 (by decide) (fun c1 => ?_) (fun c1 => ?_)
  · rw [if_pos c1] at h
    exact zEV.perm [2, 3, 4, 5, 6, 1, 0] rfl (tX4_setLine_91 b1 a2 a3 hb1 (l4) (l5) (s0) (0) M q h)
  · rw [if_neg c1] at h
    refine zEV.iload dX4_setLine_54 1 rfl ?_
    refine zEV.if_eq 66 dX4_setLine_56 (by decide) (fun c2 => ?_) (fun c2 => ?_)
    · rw [if_pos c2] at h
      refine zEV.iload dX4_setLine_66 6 rfl ?_
      refine zEV.if_eq 85 dX4_setLine_68 (by decide) (fun c3 => ?_) (fun c3 => ?_)
      · rw [if_pos c3] at h
        refine zEV.aload_n dX4_setLine_85 rfl 3 rfl ?_
        refine zEV.gfi rfl inz0 0 (by decide) wf_RX4_67 (lf_lt hb1 0 (by decide)) (lf_shp hb1 0 (by decide)) rfl dX4_setLine_86 ?_
        exact zEV.perm [2, 3, 4, 5, 6, 1] rfl (tX4_setLine_89 b1 a2 a3 hb1 (l4) (l5) (s0) ((M.1 b1 0)) M q h)
      · rw [if_neg c3] at h
        refine zEV.aload_n dX4_setLine_71 rfl 3 rfl ?_
        refine zEV.gfi rfl inz0 0 (by decide) wf_RX4_67 (lf_lt hb1 0 (by decide)) (lf_shp hb1 0 (by decide)) rfl dX4_setLine_72 ?_
        refine zEV.aload_n dX4_setLine_75 rfl 3 rfl ?_
        refine zEV.gfi rfl inz0 2 (by decide) wf_RX4_69 (lf_lt hb1 0 (by decide)) (lf_shp hb1 0 (by decide)) rfl dX4_setLine_76 ?_
        refine zEV.isub dX4_setLine_79 ?_
        refine zEV.iconst (v := 2) dX4_setLine_80 rfl ?_
        refine zEV.idiv dX4_setLine_81 (by decide) ?_
        refine zEV.goto 89 dX4_setLine_82 (by decide) ?_
        exact zEV.perm [2, 3, 4, 5, 6, 1] rfl (tX4_setLine_89 b1 a2 a3 hb1 (l4) (l5) (s0) ((((M.1 b1 0) - (M.1 b1 2)) / 2)) M q h)
    · rw [if_neg c2] at h
      refine zEV.aload_n dX4_setLine_59 rfl 3 rfl ?_
      refine zEV.gfi rfl inz0 4 (by decide) wf_RX4_64 (lf_lt hb1 0 (by decide)) (lf_shp hb1 0 (by decide)) rfl dX4_setLine_60 ?_
      refine zEV.goto 89 dX4_setLine_63 (by decide) ?_
      exact zEV.perm [2, 3, 4, 5, 6, 1] rfl (tX4_setLine_89 b1 a2 a3 hb1 (l4) (l5) (s0) ((M.1 b1 4)) M q h)
def fX4_setLine_43 (b1 : Nat) (a2 : Int32) (a3 : Int32) (l4 : Int32) (l5 : Int32) (M : zMM) : Option (zMM) :=
  fX4_setLine_44 b1 a2 a3 (l4) (l5) (0) M
set_option maxRecDepth 100000 in
theorem tX4_setLine_43 (b1 : Nat) (a2 : Int32) (a3 : Int32) (hb1 : lf b1) (l4 : Int32) (l5 : Int32) (M : zMM) (q : zMM) (h : fX4_setLine_43 b1 a2 a3 l4 l5 M = some q) : zEV iX4_setLine 0 0 (zZO (none, q)) 43 [(0, .inr (.inr 120)), (1, .inr (.inr b1)), (2, .inl a2), (4, .inl l4), (5, .inl l5)] [] M := by
  unfold fX4_setLine_43 at h
  refine zEV.iconst (v := 0) dX4_setLine_43 rfl ?_
  exact zEV.perm [0, 1, 2, 3, 4] rfl (tX4_setLine_44 b1 a2 a3 hb1 (l4) (l5) (0) M q h)
def fX4_setLine_39 (b1 : Nat) (a2 : Int32) (a3 : Int32) (l4 : Int32) (l5 : Int32) (M : zMM) : Option (zMM) :=
  fX4_setLine_44 b1 a2 a3 (l4) (l5) (1) M
set_option maxRecDepth 100000 in
theorem tX4_setLine_39 (b1 : Nat) (a2 : Int32) (a3 : Int32) (hb1 : lf b1) (l4 : Int32) (l5 : Int32) (M : zMM) (q : zMM) (h : fX4_setLine_39 b1 a2 a3 l4 l5 M = some q) : zEV iX4_setLine 0 0 (zZO (none, q)) 39 [(0, .inr (.inr 120)), (1, .inr (.inr b1)), (2, .inl a2), (4, .inl l4), (5, .inl l5)] [] M := by
  unfold fX4_setLine_39 at h
  refine zEV.iconst (v := 1) dX4_setLine_39 rfl ?_
  refine zEV.goto 44 dX4_setLine_40 (by decide) ?_
  exact zEV.perm [0, 1, 2, 3, 4] rfl (tX4_setLine_44 b1 a2 a3 hb1 (l4) (l5) (1) M q h)
def fX4_setLine (b1 : Nat) (a2 : Int32) (a3 : Int32) (M : zMM) : Option (zMM) :=
  (fX4_isLeft b1 (1) M).bind fun q1 =>
  (fX4_isLeft b1 (2) q1.2).bind fun q2 =>
  (fX4_isLeft b1 (0) q2.2).bind fun q3 =>
  if q3.1 = (0 : Int32) then
    fX4_setLine_43 b1 a2 a3 (q1.1) (q2.1) q3.2
  else
    if a3 = (0 : Int32) then
      fX4_setLine_39 b1 a2 a3 (q1.1) (q2.1) q3.2
    else
      if q1.1 = (0 : Int32) then
        if q2.1 = (0 : Int32) then
          fX4_setLine_39 b1 a2 a3 (q1.1) (q2.1) q3.2
        else
          fX4_setLine_43 b1 a2 a3 (q1.1) (q2.1) q3.2
      else
        fX4_setLine_43 b1 a2 a3 (q1.1) (q2.1) q3.2
set_option maxRecDepth 100000 in
theorem tX4_setLine_0 (b1 : Nat) (a2 : Int32) (a3 : Int32) (hb1 : lf b1) (M : zMM) (q : zMM) (h : fX4_setLine b1 a2 a3  M = some q) : zEV iX4_setLine 0 0 (zZO (none, q)) 0 [(0, .inr (.inr 120)), (1, .inr (.inr b1)), (2, .inl a2), (3, .inl a3)] [] M := by
  unfold fX4_setLine at h
  refine zEV.aload_n dX4_setLine_0 rfl 0 rfl ?_
  refine zEV.aload_n dX4_setLine_1 rfl 1 rfl ?_
  refine zEV.iconst (v := 1) dX4_setLine_2 rfl ?_
  obtain ⟨q1, hq1, h⟩ := bind_yes h
  refine zEV.callVi (kX4_isLeft b1 (1) hb1 M q1 hq1) (by decide) rfl rfl wm_RX4_45 wc_X4_isLeft hy_X4_isLeft rfl ⟨Nat.le_of_ble_eq_true rfl, Nat.le_of_ble_eq_true rfl⟩ rfl (Nat.le_of_ble_eq_true rfl) dX4_setLine_3 ?_
  refine zEV.istore dX4_setLine_6 (Nat.le_of_ble_eq_true rfl) rfl ?_
  refine zEV.aload_n dX4_setLine_8 rfl 1 rfl ?_
  refine zEV.aload_n dX4_setLine_9 rfl 2 rfl ?_
  refine zEV.iconst (v := 2) dX4_setLine_10 rfl ?_
  obtain ⟨q2, hq2, h⟩ := bind_yes h
  refine zEV.callVi (kX4_isLeft b1 (2) hb1 q1.2 q2 hq2) (by decide) rfl rfl wm_RX4_45 wc_X4_isLeft hy_X4_isLeft rfl ⟨Nat.le_of_ble_eq_true rfl, Nat.le_of_ble_eq_true rfl⟩ rfl (Nat.le_of_ble_eq_true rfl) dX4_setLine_11 ?_
  refine zEV.istore dX4_setLine_14 (Nat.le_of_ble_eq_true rfl) rfl ?_
  refine zEV.aload_n dX4_setLine_16 rfl 2 rfl ?_
  refine zEV.aload_n dX4_setLine_17 rfl 3 rfl ?_
  refine zEV.iconst (v := 0) dX4_setLine_18 rfl ?_
  obtain ⟨q3, hq3, h⟩ := bind_yes h
  refine zEV.callVi (kX4_isLeft b1 (0) hb1 q2.2 q3 hq3) (by decide) rfl rfl wm_RX4_45 wc_X4_isLeft hy_X4_isLeft rfl ⟨Nat.le_of_ble_eq_true rfl, Nat.le_of_ble_eq_true rfl⟩ rfl (Nat.le_of_ble_eq_true rfl) dX4_setLine_19 ?_
  refine zEV.if_eq 43 dX4_setLine_22 (by decide) (fun c4 => ?_) (fun c4 => ?_)
  · rw [if_pos c4] at h
    exact zEV.perm [2, 3, 4, 1, 0] rfl (tX4_setLine_43 b1 a2 a3 hb1 (q1.1) (q2.1) q3.2 q h)
  · rw [if_neg c4] at h
    refine zEV.iload_n dX4_setLine_25 rfl 5 rfl ?_
    refine zEV.if_eq 39 dX4_setLine_26 (by decide) (fun c5 => ?_) (fun c5 => ?_)
    · rw [if_pos c5] at h
      exact zEV.perm [2, 3, 4, 1, 0] rfl (tX4_setLine_39 b1 a2 a3 hb1 (q1.1) (q2.1) q3.2 q h)
    · rw [if_neg c5] at h
      refine zEV.iload dX4_setLine_29 1 rfl ?_
      refine zEV.if_ne 43 dX4_setLine_31 (by decide) (fun c6 => ?_) (fun c6 => ?_)
      · rw [if_neg c6] at h
        exact zEV.perm [2, 3, 4, 1, 0] rfl (tX4_setLine_43 b1 a2 a3 hb1 (q1.1) (q2.1) q3.2 q h)
      · rw [if_pos c6] at h
        refine zEV.iload dX4_setLine_34 0 rfl ?_
        refine zEV.if_ne 43 dX4_setLine_36 (by decide) (fun c7 => ?_) (fun c7 => ?_)
        · rw [if_neg c7] at h
          exact zEV.perm [2, 3, 4, 1, 0] rfl (tX4_setLine_43 b1 a2 a3 hb1 (q1.1) (q2.1) q3.2 q h)
        · rw [if_pos c7] at h
          exact zEV.perm [2, 3, 4, 1, 0] rfl (tX4_setLine_39 b1 a2 a3 hb1 (q1.1) (q2.1) q3.2 q h)
theorem kX4_setLine (b1 : Nat) (a2 : Int32) (a3 : Int32) (hb1 : lf b1) (M : zMM) (q : zMM) (h : fX4_setLine b1 a2 a3 M = some q) : zCN yX4_setLine iX4_setLine [.inr (.inr 120), .inr (.inr b1), .inl a2, .inl a3] M (none, q) :=
  zCN.of (by decide) rfl rfl (Nat.le_of_ble_eq_true rfl) (zEV.perm [0, 1, 2, 3] rfl (tX4_setLine_0 b1 a2 a3 hb1 M q h))
-- RingedPage$Setting.set
def fX4_set_108 (K38 : Int32 → Int32 → zMM → Option (zMM)) (b1 : Nat) (l3 : Int32) (s0 : Int32) (M : zMM) : Option (zMM) :=
  K38 (s0) ((l3 + 1)) M
set_option maxRecDepth 100000 in
theorem tX4_set_108 (K38 : Int32 → Int32 → zMM → Option (zMM)) (b1 : Nat) (hb1 : lf b1) (hK38 : ∀ (l2 : Int32) (l3 : Int32) (M : zMM) (q : zMM), K38 l2 l3 M = some q → zEV iX4_set 0 0 (zZO (none, q)) 38 [(0, .inr (.inr 120)), (1, .inr (.inr b1)), (2, .inl l2), (3, .inl l3)] [] M) (l3 : Int32) (s0 : Int32) (M : zMM) (q : zMM) (h : fX4_set_108 K38 b1 l3 s0 M = some q) : zEV iX4_set 0 0 (zZO (none, q)) 108 [(0, .inr (.inr 120)), (1, .inr (.inr b1)), (3, .inl l3)] [.inl s0] M := by
  unfold fX4_set_108 at h
  refine zEV.istore_n dX4_set_108 rfl (Nat.le_of_ble_eq_true rfl) rfl ?_
  refine zEV.iinc (v := (l3 + 1)) dX4_set_109 3 rfl rfl (Nat.le_of_ble_eq_true rfl) rfl ?_
  refine zEV.goto 38 dX4_set_112 (by decide) ?_
  exact zEV.perm [2, 3, 1, 0] rfl (hK38 (s0) ((l3 + 1)) M q h)
def fX4_set_88 (K38 : Int32 → Int32 → zMM → Option (zMM)) (b1 : Nat) (l2 : Int32) (l3 : Int32) (s0 : Int32) (s1 : Int32) (M : zMM) : Option (zMM) :=
  (fX4_setLine b1 (s1) (s0) M).bind fun q1 =>
  if (q1.1 b1 1) ≤ (l2 + 1) then
    fX4_set_108 K38 b1 (l3) (0) q1
  else
    fX4_set_108 K38 b1 (l3) ((l2 + 1)) q1
set_option maxRecDepth 100000 in
theorem tX4_set_88 (K38 : Int32 → Int32 → zMM → Option (zMM)) (b1 : Nat) (hb1 : lf b1) (hK38 : ∀ (l2 : Int32) (l3 : Int32) (M : zMM) (q : zMM), K38 l2 l3 M = some q → zEV iX4_set 0 0 (zZO (none, q)) 38 [(0, .inr (.inr 120)), (1, .inr (.inr b1)), (2, .inl l2), (3, .inl l3)] [] M) (l2 : Int32) (l3 : Int32) (s0 : Int32) (s1 : Int32) (M : zMM) (q : zMM) (h : fX4_set_88 K38 b1 l2 l3 s0 s1 M = some q) : zEV iX4_set 0 0 (zZO (none, q)) 88 [(0, .inr (.inr 120)), (1, .inr (.inr b1)), (2, .inl l2), (3, .inl l3)] [.inl s0, .inl s1, .inr (.inr b1), .inr (.inr 120)] M := by
  unfold fX4_set_88 at h
  obtain ⟨q1, hq1, h⟩ := bind_yes h
  refine zEV.callVv (kX4_setLine b1 (s1) (s0) hb1 M q1 hq1) (by decide) rfl rfl wm_RX4_54 wc_X4_setLine hy_X4_setLine rfl ⟨Nat.le_of_ble_eq_true rfl, Nat.le_of_ble_eq_true rfl⟩ rfl (Nat.le_of_ble_eq_true rfl) dX4_set_88 ?_
  refine zEV.iload_n dX4_set_91 rfl 2 rfl ?_
  refine zEV.iconst (v := 1) dX4_set_92 rfl ?_
  refine zEV.iadd dX4_set_93 ?_
  refine zEV.aload_n dX4_set_94 rfl 1 rfl ?_
  refine zEV.gfi rfl inz0 1 (by decide) wf_RX4_58 (lf_lt hb1 0 (by decide)) (lf_shp hb1 0 (by decide)) rfl dX4_set_95 ?_
  refine zEV.icmp_ge 107 dX4_set_98 (by decide) (fun c2 => ?_) (fun c2 => ?_)
  · rw [if_pos c2] at h
    refine zEV.iconst (v := 0) dX4_set_107 rfl ?_
    exact zEV.perm [0, 1, 3] rfl (tX4_set_108 K38 b1 hb1 hK38 (l3) (0) q1 q h)
  · rw [if_neg c2] at h
    refine zEV.iload_n dX4_set_101 rfl 2 rfl ?_
    refine zEV.iconst (v := 1) dX4_set_102 rfl ?_
    refine zEV.iadd dX4_set_103 ?_
    refine zEV.goto 108 dX4_set_104 (by decide) ?_
    exact zEV.perm [0, 1, 3] rfl (tX4_set_108 K38 b1 hb1 hK38 (l3) ((l2 + 1)) q1 q h)
def fX4_set_72 (K38 : Int32 → Int32 → zMM → Option (zMM)) (b1 : Nat) (l2 : Int32) (l3 : Int32) (M : zMM) : Option (zMM) :=
  if (M.1 b1 3) ≤ l2 then
    fX4_set_88 K38 b1 (l2) (l3) (0) (l3) M
  else
    fX4_set_88 K38 b1 (l2) (l3) (1) (l3) M
set_option maxRecDepth 100000 in
theorem tX4_set_72 (K38 : Int32 → Int32 → zMM → Option (zMM)) (b1 : Nat) (hb1 : lf b1) (hK38 : ∀ (l2 : Int32) (l3 : Int32) (M : zMM) (q : zMM), K38 l2 l3 M = some q → zEV iX4_set 0 0 (zZO (none, q)) 38 [(0, .inr (.inr 120)), (1, .inr (.inr b1)), (2, .inl l2), (3, .inl l3)] [] M) (l2 : Int32) (l3 : Int32) (M : zMM) (q : zMM) (h : fX4_set_72 K38 b1 l2 l3 M = some q) : zEV iX4_set 0 0 (zZO (none, q)) 72 [(0, .inr (.inr 120)), (1, .inr (.inr b1)), (2, .inl l2), (3, .inl l3)] [] M := by
  unfold fX4_set_72 at h
  refine zEV.aload_n dX4_set_72 rfl 0 rfl ?_
  refine zEV.aload_n dX4_set_73 rfl 1 rfl ?_
  refine zEV.iload_n dX4_set_74 rfl 3 rfl ?_
  refine zEV.iload_n dX4_set_75 rfl 2 rfl ?_
  refine zEV.aload_n dX4_set_76 rfl 1 rfl ?_
  refine zEV.gfi rfl inz0 3 (by decide) wf_RX4_49 (lf_lt hb1 0 (by decide)) (lf_shp hb1 0 (by decide)) rfl dX4_set_77 ?_
  refine zEV.icmp_ge 87 dX4_set_80 (by decide) (fun c1 => ?_) (fun c1 => ?_)
  · rw [if_pos c1] at h
    refine zEV.iconst (v := 0) dX4_set_87 rfl ?_
    exact zEV.perm [0, 1, 2, 3] rfl (tX4_set_88 K38 b1 hb1 hK38 (l2) (l3) (0) (l3) M q h)
  · rw [if_neg c1] at h
    refine zEV.iconst (v := 1) dX4_set_83 rfl ?_
    refine zEV.goto 88 dX4_set_84 (by decide) ?_
    exact zEV.perm [0, 1, 2, 3] rfl (tX4_set_88 K38 b1 hb1 hK38 (l2) (l3) (1) (l3) M q h)
def fX4_set_38 (b1 : Nat) : Nat → Int32 → Int32 → zMM → Option (zMM)
  | 0, _, _, _ => none
  | n + 1, l2, l3, M =>
  if (210 : Int32) ≤ l3 then
    some (wr M 120 0 l3)
  else
    (fX4_isLeft b1 (0) M).bind fun q2 =>
    if q2.1 = (0 : Int32) then
      (fX4_isLeft b1 (1) q2.2).bind fun q4 =>
      if q4.1 = (0 : Int32) then
        (fX4_isLeft b1 (2) q4.2).bind fun q6 =>
        if q6.1 = (0 : Int32) then
          some (wr q6.2 120 0 l3)
        else
          fX4_set_72 (fX4_set_38 b1 n) b1 (l2) (l3) q6.2
      else
        fX4_set_72 (fX4_set_38 b1 n) b1 (l2) (l3) q4.2
    else
      fX4_set_72 (fX4_set_38 b1 n) b1 (l2) (l3) q2.2
set_option maxRecDepth 100000 in
theorem tX4_set_38 (b1 : Nat) (hb1 : lf b1) : ∀ (n : Nat) (l2 : Int32) (l3 : Int32) (M : zMM) (q : zMM), fX4_set_38 b1 n l2 l3 M = some q → zEV iX4_set 0 0 (zZO (none, q)) 38 [(0, .inr (.inr 120)), (1, .inr (.inr b1)), (2, .inl l2), (3, .inl l3)] [] M := by
  intro n
  induction n with
  | zero =>
    intro l2 l3 M q h
    rw [fX4_set_38] at h
    cases h
  | succ n ih =>
    intro l2 l3 M q h
    rw [fX4_set_38] at h
    refine zEV.iload_n dX4_set_38 rfl 3 rfl ?_
    refine zEV.sipush (v := 210) dX4_set_39 rfl ?_
    refine zEV.icmp_ge 115 dX4_set_42 (by decide) (fun c1 => ?_) (fun c1 => ?_)
    · rw [if_pos c1] at h
      refine zEV.aload_n dX4_set_115 rfl 0 rfl ?_
      refine zEV.iload_n dX4_set_116 rfl 3 rfl ?_
      refine zEV.pfi rfl inz4 tyX4 tyX4_ok nmX4 0 (by decide) wf_RX4_9 rfl (by decide +kernel) (by decide) rfl rfl dX4_set_117 ?_
      have h := Option.some.inj h
      subst h
      exact zEV.vret rfl dX4_set_120
    · rw [if_neg c1] at h
      refine zEV.aload_n dX4_set_45 rfl 0 rfl ?_
      refine zEV.aload_n dX4_set_46 rfl 1 rfl ?_
      refine zEV.iconst (v := 0) dX4_set_47 rfl ?_
      obtain ⟨q2, hq2, h⟩ := bind_yes h
      refine zEV.callVi (kX4_isLeft b1 (0) hb1 M q2 hq2) (by decide) rfl rfl wm_RX4_45 wc_X4_isLeft hy_X4_isLeft rfl ⟨Nat.le_of_ble_eq_true rfl, Nat.le_of_ble_eq_true rfl⟩ rfl (Nat.le_of_ble_eq_true rfl) dX4_set_48 ?_
      refine zEV.if_ne 72 dX4_set_51 (by decide) (fun c3 => ?_) (fun c3 => ?_)
      · rw [if_neg c3] at h
        exact zEV.perm [0, 1, 2, 3] rfl (tX4_set_72 (fX4_set_38 b1 n) b1 hb1 (fun l2 l3 M9 q9 h9 => ih l2 l3 M9 q9 h9) (l2) (l3) q2.2 q h)
      · rw [if_pos c3] at h
        refine zEV.aload_n dX4_set_54 rfl 0 rfl ?_
        refine zEV.aload_n dX4_set_55 rfl 1 rfl ?_
        refine zEV.iconst (v := 1) dX4_set_56 rfl ?_
        obtain ⟨q4, hq4, h⟩ := bind_yes h
        refine zEV.callVi (kX4_isLeft b1 (1) hb1 q2.2 q4 hq4) (by decide) rfl rfl wm_RX4_45 wc_X4_isLeft hy_X4_isLeft rfl ⟨Nat.le_of_ble_eq_true rfl, Nat.le_of_ble_eq_true rfl⟩ rfl (Nat.le_of_ble_eq_true rfl) dX4_set_57 ?_
        refine zEV.if_ne 72 dX4_set_60 (by decide) (fun c5 => ?_) (fun c5 => ?_)
        · rw [if_neg c5] at h
          exact zEV.perm [0, 1, 2, 3] rfl (tX4_set_72 (fX4_set_38 b1 n) b1 hb1 (fun l2 l3 M9 q9 h9 => ih l2 l3 M9 q9 h9) (l2) (l3) q4.2 q h)
        · rw [if_pos c5] at h
          refine zEV.aload_n dX4_set_63 rfl 0 rfl ?_
          refine zEV.aload_n dX4_set_64 rfl 1 rfl ?_
          refine zEV.iconst (v := 2) dX4_set_65 rfl ?_
          obtain ⟨q6, hq6, h⟩ := bind_yes h
          refine zEV.callVi (kX4_isLeft b1 (2) hb1 q4.2 q6 hq6) (by decide) rfl rfl wm_RX4_45 wc_X4_isLeft hy_X4_isLeft rfl ⟨Nat.le_of_ble_eq_true rfl, Nat.le_of_ble_eq_true rfl⟩ rfl (Nat.le_of_ble_eq_true rfl) dX4_set_66 ?_
          refine zEV.if_eq 115 dX4_set_69 (by decide) (fun c7 => ?_) (fun c7 => ?_)
          · rw [if_pos c7] at h
            refine zEV.aload_n dX4_set_115 rfl 0 rfl ?_
            refine zEV.iload_n dX4_set_116 rfl 3 rfl ?_
            refine zEV.pfi rfl inz4 tyX4 tyX4_ok nmX4 0 (by decide) wf_RX4_9 rfl (by decide +kernel) (by decide) rfl rfl dX4_set_117 ?_
            have h := Option.some.inj h
            subst h
            exact zEV.vret rfl dX4_set_120
          · rw [if_neg c7] at h
            exact zEV.perm [0, 1, 2, 3] rfl (tX4_set_72 (fX4_set_38 b1 n) b1 hb1 (fun l2 l3 M9 q9 h9 => ih l2 l3 M9 q9 h9) (l2) (l3) q6.2 q h)
def fX4_set_2 (b1 : Nat) : Nat → Int32 → zMM → Option (zMM)
  | 0, _, _ => none
  | n + 1, l2, M =>
  if (3 : Int32) ≤ l2 then
    fX4_set_38 b1 zFU (0) (0) M
  else
    if oob (l2) 3 then none else
    fX4_set_2 b1 n ((l2 + 1)) (wr (wr (wr M 121 (Int32.toNatClampNeg l2) 0) 122 (Int32.toNatClampNeg l2) 0) 123 (Int32.toNatClampNeg l2) 0)
set_option maxRecDepth 100000 in
theorem tX4_set_2 (b1 : Nat) (hb1 : lf b1) : ∀ (n : Nat) (l2 : Int32) (M : zMM) (q : zMM), fX4_set_2 b1 n l2 M = some q → zEV iX4_set 0 0 (zZO (none, q)) 2 [(0, .inr (.inr 120)), (1, .inr (.inr b1)), (2, .inl l2)] [] M := by
  intro n
  induction n with
  | zero =>
    intro l2 M q h
    rw [fX4_set_2] at h
    cases h
  | succ n ih =>
    intro l2 M q h
    rw [fX4_set_2] at h
    refine zEV.iload_n dX4_set_2 rfl 2 rfl ?_
    refine zEV.iconst (v := 3) dX4_set_3 rfl ?_
    refine zEV.icmp_ge 34 dX4_set_4 (by decide) (fun c1 => ?_) (fun c1 => ?_)
    · rw [if_pos c1] at h
      refine zEV.iconst (v := 0) dX4_set_34 rfl ?_
      refine zEV.istore_n dX4_set_35 rfl (Nat.le_of_ble_eq_true rfl) rfl ?_
      refine zEV.iconst (v := 0) dX4_set_36 rfl ?_
      refine zEV.istore_n dX4_set_37 rfl (Nat.le_of_ble_eq_true rfl) rfl ?_
      exact zEV.perm [2, 3, 1, 0] rfl (tX4_set_38 b1 hb1 zFU (0) (0) M q h)
    · rw [if_neg c1] at h
      refine zEV.aload_n dX4_set_7 rfl 0 rfl ?_
      refine zEV.gfr rfl inz4 1 (by decide) wf_RX4_15 (by decide) rfl rfl dX4_set_8 ?_
      refine zEV.iload_n dX4_set_11 rfl 2 rfl ?_
      refine zEV.iconst (v := 0) dX4_set_12 rfl ?_
      obtain ⟨g2, h⟩ := ite_no h
      refine zEV.iast (by decide) rfl g2 dX4_set_13 ?_
      refine zEV.aload_n dX4_set_14 rfl 0 rfl ?_
      refine zEV.gfr rfl inz4 2 (by decide) wf_RX4_19 (by decide) rfl rfl dX4_set_15 ?_
      refine zEV.iload_n dX4_set_18 rfl 2 rfl ?_
      refine zEV.iconst (v := 0) dX4_set_19 rfl ?_
      refine zEV.iast (by decide) rfl g2 dX4_set_20 ?_
      refine zEV.aload_n dX4_set_21 rfl 0 rfl ?_
      refine zEV.gfr rfl inz4 3 (by decide) wf_RX4_22 (by decide) rfl rfl dX4_set_22 ?_
      refine zEV.iload_n dX4_set_25 rfl 2 rfl ?_
      refine zEV.iconst (v := 0) dX4_set_26 rfl ?_
      refine zEV.iast (by decide) rfl g2 dX4_set_27 ?_
      refine zEV.iinc (v := (l2 + 1)) dX4_set_28 2 rfl rfl (Nat.le_of_ble_eq_true rfl) rfl ?_
      refine zEV.goto 2 dX4_set_31 (by decide) ?_
      exact zEV.perm [1, 2, 0] rfl (ih ((l2 + 1)) (wr (wr (wr M 121 (Int32.toNatClampNeg l2) 0) 122 (Int32.toNatClampNeg l2) 0) 123 (Int32.toNatClampNeg l2) 0) q h)
def fX4_set (b1 : Nat) (M : zMM) : Option (zMM) :=
  fX4_set_2 b1 zFU (0) M
set_option maxRecDepth 100000 in
theorem tX4_set_0 (b1 : Nat) (hb1 : lf b1) (M : zMM) (q : zMM) (h : fX4_set b1  M = some q) : zEV iX4_set 0 0 (zZO (none, q)) 0 [(0, .inr (.inr 120)), (1, .inr (.inr b1))] [] M := by
  unfold fX4_set at h
  refine zEV.iconst (v := 0) dX4_set_0 rfl ?_
  refine zEV.istore_n dX4_set_1 rfl (Nat.le_of_ble_eq_true rfl) rfl ?_
  exact zEV.perm [1, 2, 0] rfl (tX4_set_2 b1 hb1 zFU (0) M q h)
theorem kX4_set (b1 : Nat) (hb1 : lf b1) (M : zMM) (q : zMM) (h : fX4_set b1 M = some q) : zCN yX4_set iX4_set [.inr (.inr 120), .inr (.inr b1)] M (none, q) :=
  zCN.of (by decide) rfl rfl (Nat.le_of_ble_eq_true rfl) (zEV.perm [0, 1] rfl (tX4_set_0 b1 hb1 M q h))
-- RingedPage$Setting.endOf
def fX4_endOf (b1 : Nat) (a2 : Int32) (M : zMM) : Option (Int32 × zMM) :=
  if oob (a2) 3 then none else
  if (M.1 (b1 + 2) (Int32.toNatClampNeg a2)) ≤ (0 : Int32) then
    some ((-1), M)
  else
    if oob (((M.1 (b1 + 2) (Int32.toNatClampNeg a2)) - 1)) 70 then none else
    some ((M.1 (125 + 1 * Int32.toNatClampNeg a2) (Int32.toNatClampNeg ((M.1 (b1 + 2) (Int32.toNatClampNeg a2)) - 1))), M)
set_option maxRecDepth 100000 in
theorem tX4_endOf_0 (b1 : Nat) (a2 : Int32) (hb1 : lf b1) (M : zMM) (q : Int32 × zMM) (h : fX4_endOf b1 a2  M = some q) : zEV iX4_endOf 0 0 (zZO (some (.inl q.1), q.2)) 0 [(0, .inr (.inr 120)), (1, .inr (.inr b1)), (2, .inl a2)] [] M := by
  unfold fX4_endOf at h
  refine zEV.aload_n dX4_endOf_0 rfl 1 rfl ?_
  refine zEV.gfr rfl inz0 8 (by decide) wf_RX4_61 (lf_lt hb1 0 (by decide)) (lf_shp hb1 0 (by decide)) rfl dX4_endOf_1 ?_
  refine zEV.iload_n dX4_endOf_4 rfl 2 rfl ?_
  obtain ⟨g1, h⟩ := ite_no h
  refine zEV.iald (lf_lt hb1 2 (by decide)) (lf_shp hb1 2 (by decide)) g1 dX4_endOf_5 ?_
  refine zEV.istore_n dX4_endOf_6 rfl (Nat.le_of_ble_eq_true rfl) rfl ?_
  refine zEV.iload_n dX4_endOf_7 rfl 0 rfl ?_
  refine zEV.if_le 24 dX4_endOf_8 (by decide) (fun c2 => ?_) (fun c2 => ?_)
  · rw [if_pos c2] at h
    refine zEV.iconst (v := (-1)) dX4_endOf_24 rfl ?_
    have h := Option.some.inj h
    subst h
    exact zEV.iret rfl dX4_endOf_25
  · rw [if_neg c2] at h
    refine zEV.aload_n dX4_endOf_11 rfl 1 rfl ?_
    refine zEV.gfr rfl inz4 4 (by decide) wf_RX4_27 (by decide) rfl rfl dX4_endOf_12 ?_
    refine zEV.iload_n dX4_endOf_15 rfl 3 rfl ?_
    refine zEV.aald (by decide) (by decide) rfl g1 dX4_endOf_16 ?_
    refine zEV.iload_n dX4_endOf_17 rfl 0 rfl ?_
    refine zEV.iconst (v := 1) dX4_endOf_18 rfl ?_
    refine zEV.isub dX4_endOf_19 ?_
    obtain ⟨g3, h⟩ := ite_no h
    refine zEV.iald (st_row125 g1).1 (st_row125 g1).2 g3 dX4_endOf_20 ?_
    refine zEV.goto 25 dX4_endOf_21 (by decide) ?_
    have h := Option.some.inj h
    subst h
    exact zEV.iret rfl dX4_endOf_25
theorem kX4_endOf (b1 : Nat) (a2 : Int32) (hb1 : lf b1) (M : zMM) (q : Int32 × zMM) (h : fX4_endOf b1 a2 M = some q) : zCN yX4_endOf iX4_endOf [.inr (.inr 120), .inr (.inr b1), .inl a2] M (some (.inl q.1), q.2) :=
  zCN.of (by decide) rfl rfl (Nat.le_of_ble_eq_true rfl) (zEV.perm [0, 1, 2] rfl (tX4_endOf_0 b1 a2 hb1 M q h))
-- RingedPage$Setting.endsApart
def fX4_endsApart_43 (K9 : Int32 → Int32 → Int32 → zMM → Option (Int32 × zMM)) (b1 : Nat) (l2 : Int32) (l3 : Int32) (l4 : Int32) (M : zMM) : Option (Int32 × zMM) :=
  K9 (l2) (l3) ((l4 + 1)) M
set_option maxRecDepth 100000 in
theorem tX4_endsApart_43 (K9 : Int32 → Int32 → Int32 → zMM → Option (Int32 × zMM)) (b1 : Nat) (hb1 : lf b1) (hK9 : ∀ (l2 : Int32) (l3 : Int32) (l4 : Int32) (M : zMM) (q : Int32 × zMM), K9 l2 l3 l4 M = some q → zEV iX4_endsApart 0 0 (zZO (some (.inl q.1), q.2)) 9 [(0, .inr (.inr 120)), (1, .inr (.inr b1)), (2, .inl l2), (3, .inl l3), (4, .inl l4)] [] M) (l2 : Int32) (l3 : Int32) (l4 : Int32) (M : zMM) (q : Int32 × zMM) (h : fX4_endsApart_43 K9 b1 l2 l3 l4 M = some q) : zEV iX4_endsApart 0 0 (zZO (some (.inl q.1), q.2)) 43 [(0, .inr (.inr 120)), (1, .inr (.inr b1)), (2, .inl l2), (3, .inl l3), (4, .inl l4)] [] M := by
  unfold fX4_endsApart_43 at h
  refine zEV.iinc (v := (l4 + 1)) dX4_endsApart_43 4 rfl rfl (Nat.le_of_ble_eq_true rfl) rfl ?_
  refine zEV.goto 9 dX4_endsApart_46 (by decide) ?_
  exact zEV.perm [1, 2, 3, 4, 0] rfl (hK9 (l2) (l3) ((l4 + 1)) M q h)
def fX4_endsApart_9 (b1 : Nat) : Nat → Int32 → Int32 → Int32 → zMM → Option (Int32 × zMM)
  | 0, _, _, _, _ => none
  | n + 1, l2, l3, l4, M =>
  if (3 : Int32) ≤ l4 then
    if (0 : Int32) ≤ l3 then
      some ((l3 - l2), M)
    else
      some (0, M)
  else
    (fX4_endOf b1 (l4) M).bind fun q3 =>
    if q3.1 < (0 : Int32) then
      fX4_endsApart_43 (fX4_endsApart_9 b1 n) b1 (l2) (l3) (l4) q3.2
    else
      fX4_endsApart_43 (fX4_endsApart_9 b1 n) b1 ((if q3.1 < l2 then q3.1 else l2)) ((if l3 < q3.1 then q3.1 else l3)) (l4) q3.2
set_option maxRecDepth 100000 in
theorem tX4_endsApart_9 (b1 : Nat) (hb1 : lf b1) : ∀ (n : Nat) (l2 : Int32) (l3 : Int32) (l4 : Int32) (M : zMM) (q : Int32 × zMM), fX4_endsApart_9 b1 n l2 l3 l4 M = some q → zEV iX4_endsApart 0 0 (zZO (some (.inl q.1), q.2)) 9 [(0, .inr (.inr 120)), (1, .inr (.inr b1)), (2, .inl l2), (3, .inl l3), (4, .inl l4)] [] M := by
  intro n
  induction n with
  | zero =>
    intro l2 l3 l4 M q h
    rw [fX4_endsApart_9] at h
    cases h
  | succ n ih =>
    intro l2 l3 l4 M q h
    rw [fX4_endsApart_9] at h
    refine zEV.iload dX4_endsApart_9 4 rfl ?_
    refine zEV.iconst (v := 3) dX4_endsApart_11 rfl ?_
    refine zEV.icmp_ge 49 dX4_endsApart_12 (by decide) (fun c1 => ?_) (fun c1 => ?_)
    · rw [if_pos c1] at h
      refine zEV.iload_n dX4_endsApart_49 rfl 3 rfl ?_
      refine zEV.if_ge 57 dX4_endsApart_50 (by decide) (fun c2 => ?_) (fun c2 => ?_)
      · rw [if_pos c2] at h
        refine zEV.iload_n dX4_endsApart_57 rfl 3 rfl ?_
        refine zEV.iload_n dX4_endsApart_58 rfl 2 rfl ?_
        refine zEV.isub dX4_endsApart_59 ?_
        have h := Option.some.inj h
        subst h
        exact zEV.iret rfl dX4_endsApart_60
      · rw [if_neg c2] at h
        refine zEV.iconst (v := 0) dX4_endsApart_53 rfl ?_
        refine zEV.goto 60 dX4_endsApart_54 (by decide) ?_
        have h := Option.some.inj h
        subst h
        exact zEV.iret rfl dX4_endsApart_60
    · rw [if_neg c1] at h
      refine zEV.aload_n dX4_endsApart_15 rfl 0 rfl ?_
      refine zEV.aload_n dX4_endsApart_16 rfl 1 rfl ?_
      refine zEV.iload dX4_endsApart_17 4 rfl ?_
      obtain ⟨q3, hq3, h⟩ := bind_yes h
      refine zEV.callVi (kX4_endOf b1 (l4) hb1 M q3 hq3) (by decide) rfl rfl wm_RX4_92 wc_X4_endOf hy_X4_endOf rfl ⟨Nat.le_of_ble_eq_true rfl, Nat.le_of_ble_eq_true rfl⟩ rfl (Nat.le_of_ble_eq_true rfl) dX4_endsApart_19 ?_
      refine zEV.istore dX4_endsApart_22 (Nat.le_of_ble_eq_true rfl) rfl ?_
      refine zEV.iload dX4_endsApart_24 0 rfl ?_
      refine zEV.if_lt 43 dX4_endsApart_26 (by decide) (fun c4 => ?_) (fun c4 => ?_)
      · rw [if_pos c4] at h
        exact zEV.perm [1, 2, 3, 4, 5] rfl (tX4_endsApart_43 (fX4_endsApart_9 b1 n) b1 hb1 (fun l2 l3 l4 M9 q9 h9 => ih l2 l3 l4 M9 q9 h9) (l2) (l3) (l4) q3.2 q h)
      · rw [if_neg c4] at h
        refine zEV.iload_n dX4_endsApart_29 rfl 3 rfl ?_
        refine zEV.iload dX4_endsApart_30 0 rfl ?_
        refine zEV.mmin wm_RX4_86 wj_min_s wj_math_i wj_min_c ⟨Nat.le_of_ble_eq_true rfl, Nat.le_of_ble_eq_true rfl⟩ dX4_endsApart_32 ?_
        refine zEV.istore_n dX4_endsApart_35 rfl (Nat.le_of_ble_eq_true rfl) rfl ?_
        refine zEV.iload_n dX4_endsApart_36 rfl 4 rfl ?_
        refine zEV.iload dX4_endsApart_37 1 rfl ?_
        refine zEV.mmax wm_RX4_96 wj_max_s wj_math_i wj_max_c ⟨Nat.le_of_ble_eq_true rfl, Nat.le_of_ble_eq_true rfl⟩ dX4_endsApart_39 ?_
        refine zEV.istore_n dX4_endsApart_42 rfl (Nat.le_of_ble_eq_true rfl) rfl ?_
        exact zEV.perm [3, 4, 1, 0, 5] rfl (tX4_endsApart_43 (fX4_endsApart_9 b1 n) b1 hb1 (fun l2 l3 l4 M9 q9 h9 => ih l2 l3 l4 M9 q9 h9) ((if q3.1 < l2 then q3.1 else l2)) ((if l3 < q3.1 then q3.1 else l3)) (l4) q3.2 q h)
def fX4_endsApart (b1 : Nat) (M : zMM) : Option (Int32 × zMM) :=
  fX4_endsApart_9 b1 zFU (210) ((-1)) (0) M
set_option maxRecDepth 100000 in
theorem tX4_endsApart_0 (b1 : Nat) (hb1 : lf b1) (M : zMM) (q : Int32 × zMM) (h : fX4_endsApart b1  M = some q) : zEV iX4_endsApart 0 0 (zZO (some (.inl q.1), q.2)) 0 [(0, .inr (.inr 120)), (1, .inr (.inr b1))] [] M := by
  unfold fX4_endsApart at h
  refine zEV.sipush (v := 210) dX4_endsApart_0 rfl ?_
  refine zEV.istore_n dX4_endsApart_3 rfl (Nat.le_of_ble_eq_true rfl) rfl ?_
  refine zEV.iconst (v := (-1)) dX4_endsApart_4 rfl ?_
  refine zEV.istore_n dX4_endsApart_5 rfl (Nat.le_of_ble_eq_true rfl) rfl ?_
  refine zEV.iconst (v := 0) dX4_endsApart_6 rfl ?_
  refine zEV.istore dX4_endsApart_7 (Nat.le_of_ble_eq_true rfl) rfl ?_
  exact zEV.perm [3, 4, 2, 1, 0] rfl (tX4_endsApart_9 b1 hb1 zFU (210) ((-1)) (0) M q h)
theorem kX4_endsApart (b1 : Nat) (hb1 : lf b1) (M : zMM) (q : Int32 × zMM) (h : fX4_endsApart b1 M = some q) : zCN yX4_endsApart iX4_endsApart [.inr (.inr 120), .inr (.inr b1)] M (some (.inl q.1), q.2) :=
  zCN.of (by decide) rfl rfl (Nat.le_of_ble_eq_true rfl) (zEV.perm [0, 1] rfl (tX4_endsApart_0 b1 hb1 M q h))
-- RingedPage$Setting.deepOf
def fX4_deepOf (b1 : Nat) (a2 : Int32) (M : zMM) : Option (Int32 × zMM) :=
  if oob (a2) 12 then none else
  if oob ((M.1 (b1 + 7) (Int32.toNatClampNeg a2))) 3 then none else
  if oob ((M.1 (b1 + 8) (Int32.toNatClampNeg a2))) 70 then none else
  if oob ((M.1 (b1 + 9) (Int32.toNatClampNeg a2))) 70 then none else
  some (((M.1 (125 + 1 * Int32.toNatClampNeg (M.1 (b1 + 7) (Int32.toNatClampNeg a2))) (Int32.toNatClampNeg (M.1 (b1 + 8) (Int32.toNatClampNeg a2)))) - (M.1 125 (Int32.toNatClampNeg (M.1 (b1 + 9) (Int32.toNatClampNeg a2))))), M)
set_option maxRecDepth 100000 in
theorem tX4_deepOf_0 (b1 : Nat) (a2 : Int32) (hb1 : lf b1) (M : zMM) (q : Int32 × zMM) (h : fX4_deepOf b1 a2  M = some q) : zEV iX4_deepOf 0 0 (zZO (some (.inl q.1), q.2)) 0 [(0, .inr (.inr 120)), (1, .inr (.inr b1)), (2, .inl a2)] [] M := by
  unfold fX4_deepOf at h
  refine zEV.aload_n dX4_deepOf_0 rfl 0 rfl ?_
  refine zEV.gfr rfl inz4 4 (by decide) wf_RX4_27 (by decide) rfl rfl dX4_deepOf_1 ?_
  refine zEV.aload_n dX4_deepOf_4 rfl 1 rfl ?_
  refine zEV.gfr rfl inz0 10 (by decide) wf_RX4_99 (lf_lt hb1 0 (by decide)) (lf_shp hb1 0 (by decide)) rfl dX4_deepOf_5 ?_
  refine zEV.iload_n dX4_deepOf_8 rfl 2 rfl ?_
  obtain ⟨g1, h⟩ := ite_no h
  refine zEV.iald (lf_lt hb1 7 (by decide)) (lf_shp hb1 7 (by decide)) g1 dX4_deepOf_9 ?_
  obtain ⟨g2, h⟩ := ite_no h
  refine zEV.aald (by decide) (by decide) rfl g2 dX4_deepOf_10 ?_
  refine zEV.aload_n dX4_deepOf_11 rfl 1 rfl ?_
  refine zEV.gfr rfl inz0 11 (by decide) wf_RX4_102 (lf_lt hb1 0 (by decide)) (lf_shp hb1 0 (by decide)) rfl dX4_deepOf_12 ?_
  refine zEV.iload_n dX4_deepOf_15 rfl 2 rfl ?_
  refine zEV.iald (lf_lt hb1 8 (by decide)) (lf_shp hb1 8 (by decide)) g1 dX4_deepOf_16 ?_
  obtain ⟨g3, h⟩ := ite_no h
  refine zEV.iald (st_row125 g2).1 (st_row125 g2).2 g3 dX4_deepOf_17 ?_
  refine zEV.aload_n dX4_deepOf_18 rfl 0 rfl ?_
  refine zEV.gfr rfl inz4 4 (by decide) wf_RX4_27 (by decide) rfl rfl dX4_deepOf_19 ?_
  refine zEV.iconst (v := 0) dX4_deepOf_22 rfl ?_
  refine zEV.aaldL (r := 125) (by decide) (by decide) rfl (by decide) rfl dX4_deepOf_23 ?_
  refine zEV.aload_n dX4_deepOf_24 rfl 1 rfl ?_
  refine zEV.gfr rfl inz0 12 (by decide) wf_RX4_105 (lf_lt hb1 0 (by decide)) (lf_shp hb1 0 (by decide)) rfl dX4_deepOf_25 ?_
  refine zEV.iload_n dX4_deepOf_28 rfl 2 rfl ?_
  refine zEV.iald (lf_lt hb1 9 (by decide)) (lf_shp hb1 9 (by decide)) g1 dX4_deepOf_29 ?_
  obtain ⟨g4, h⟩ := ite_no h
  refine zEV.iald (by decide) rfl g4 dX4_deepOf_30 ?_
  refine zEV.isub dX4_deepOf_31 ?_
  have h := Option.some.inj h
  subst h
  exact zEV.iret rfl dX4_deepOf_32
theorem kX4_deepOf (b1 : Nat) (a2 : Int32) (hb1 : lf b1) (M : zMM) (q : Int32 × zMM) (h : fX4_deepOf b1 a2 M = some q) : zCN yX4_deepOf iX4_deepOf [.inr (.inr 120), .inr (.inr b1), .inl a2] M (some (.inl q.1), q.2) :=
  zCN.of (by decide) rfl rfl (Nat.le_of_ble_eq_true rfl) (zEV.perm [0, 1, 2] rfl (tX4_deepOf_0 b1 a2 hb1 M q h))
-- RingedPage.isBroken
def fX6_isBroken (a0 : Int32) (M : zMM) : Option (Int32 × zMM) :=
  if a0 < (0 : Int32) then
    some (1, M)
  else
    if a0 ≤ 6 then
      some (0, M)
    else
      some (1, M)
set_option maxRecDepth 100000 in
theorem tX6_isBroken_0 (a0 : Int32) (M : zMM) (q : Int32 × zMM) (h : fX6_isBroken a0  M = some q) : zEV iX6_isBroken 0 0 (zZO (some (.inl q.1), q.2)) 0 [(0, .inl a0)] [] M := by
  unfold fX6_isBroken at h
  refine zEV.iload_n dX6_isBroken_0 rfl 0 rfl ?_
  refine zEV.if_lt 10 dX6_isBroken_1 (by decide) (fun c1 => ?_) (fun c1 => ?_)
  · rw [if_pos c1] at h
    refine zEV.iconst (v := 1) dX6_isBroken_10 rfl ?_
    refine zEV.goto 15 dX6_isBroken_11 (by decide) ?_
    have h := Option.some.inj h
    subst h
    exact zEV.zret rfl (Or.inr rfl) dX6_isBroken_15
  · rw [if_neg c1] at h
    refine zEV.iload_n dX6_isBroken_4 rfl 0 rfl ?_
    refine zEV.bipush (v := 6) dX6_isBroken_5 rfl ?_
    refine zEV.icmp_le 14 dX6_isBroken_7 (by decide) (fun c2 => ?_) (fun c2 => ?_)
    · rw [if_pos c2] at h
      refine zEV.iconst (v := 0) dX6_isBroken_14 rfl ?_
      have h := Option.some.inj h
      subst h
      exact zEV.zret rfl (Or.inl rfl) dX6_isBroken_15
    · rw [if_neg c2] at h
      refine zEV.iconst (v := 1) dX6_isBroken_10 rfl ?_
      refine zEV.goto 15 dX6_isBroken_11 (by decide) ?_
      have h := Option.some.inj h
      subst h
      exact zEV.zret rfl (Or.inr rfl) dX6_isBroken_15
theorem kX6_isBroken (a0 : Int32) (M : zMM) (q : Int32 × zMM) (h : fX6_isBroken a0 M = some q) : zCN yX6_isBroken iX6_isBroken [.inl a0] M (some (.inl q.1), q.2) :=
  zCN.of (by decide) rfl rfl (Nat.le_of_ble_eq_true rfl) (zEV.perm [0] rfl (tX6_isBroken_0 a0 M q h))
-- RingedPage$Setting.brokenTies
def fX4_brokenTies_27 (K4 : Int32 → Int32 → zMM → Option (Int32 × zMM)) (b1 : Nat) (l2 : Int32) (l3 : Int32) (M : zMM) : Option (Int32 × zMM) :=
  K4 (l2) ((l3 + 1)) M
set_option maxRecDepth 100000 in
theorem tX4_brokenTies_27 (K4 : Int32 → Int32 → zMM → Option (Int32 × zMM)) (b1 : Nat) (hb1 : lf b1) (hK4 : ∀ (l2 : Int32) (l3 : Int32) (M : zMM) (q : Int32 × zMM), K4 l2 l3 M = some q → zEV iX4_brokenTies 0 0 (zZO (some (.inl q.1), q.2)) 4 [(0, .inr (.inr 120)), (1, .inr (.inr b1)), (2, .inl l2), (3, .inl l3)] [] M) (l2 : Int32) (l3 : Int32) (M : zMM) (q : Int32 × zMM) (h : fX4_brokenTies_27 K4 b1 l2 l3 M = some q) : zEV iX4_brokenTies 0 0 (zZO (some (.inl q.1), q.2)) 27 [(0, .inr (.inr 120)), (1, .inr (.inr b1)), (2, .inl l2), (3, .inl l3)] [] M := by
  unfold fX4_brokenTies_27 at h
  refine zEV.iinc (v := (l3 + 1)) dX4_brokenTies_27 3 rfl rfl (Nat.le_of_ble_eq_true rfl) rfl ?_
  refine zEV.goto 4 dX4_brokenTies_30 (by decide) ?_
  exact zEV.perm [1, 2, 3, 0] rfl (hK4 (l2) ((l3 + 1)) M q h)
def fX4_brokenTies_4 (b1 : Nat) : Nat → Int32 → Int32 → zMM → Option (Int32 × zMM)
  | 0, _, _, _ => none
  | n + 1, l2, l3, M =>
  if (M.1 b1 6) ≤ l3 then
    some (l2, M)
  else
    (fX4_deepOf b1 (l3) M).bind fun q2 =>
    (fX6_isBroken (q2.1) q2.2).bind fun q3 =>
    if q3.1 = (0 : Int32) then
      fX4_brokenTies_27 (fX4_brokenTies_4 b1 n) b1 (l2) (l3) q3.2
    else
      fX4_brokenTies_27 (fX4_brokenTies_4 b1 n) b1 ((l2 + 1)) (l3) q3.2
set_option maxRecDepth 100000 in
theorem tX4_brokenTies_4 (b1 : Nat) (hb1 : lf b1) : ∀ (n : Nat) (l2 : Int32) (l3 : Int32) (M : zMM) (q : Int32 × zMM), fX4_brokenTies_4 b1 n l2 l3 M = some q → zEV iX4_brokenTies 0 0 (zZO (some (.inl q.1), q.2)) 4 [(0, .inr (.inr 120)), (1, .inr (.inr b1)), (2, .inl l2), (3, .inl l3)] [] M := by
  intro n
  induction n with
  | zero =>
    intro l2 l3 M q h
    rw [fX4_brokenTies_4] at h
    cases h
  | succ n ih =>
    intro l2 l3 M q h
    rw [fX4_brokenTies_4] at h
    refine zEV.iload_n dX4_brokenTies_4 rfl 3 rfl ?_
    refine zEV.aload_n dX4_brokenTies_5 rfl 1 rfl ?_
    refine zEV.gfi rfl inz0 6 (by decide) wf_RX4_108 (lf_lt hb1 0 (by decide)) (lf_shp hb1 0 (by decide)) rfl dX4_brokenTies_6 ?_
    refine zEV.icmp_ge 33 dX4_brokenTies_9 (by decide) (fun c1 => ?_) (fun c1 => ?_)
    · rw [if_pos c1] at h
      refine zEV.iload_n dX4_brokenTies_33 rfl 2 rfl ?_
      have h := Option.some.inj h
      subst h
      exact zEV.iret rfl dX4_brokenTies_34
    · rw [if_neg c1] at h
      refine zEV.aload_n dX4_brokenTies_12 rfl 0 rfl ?_
      refine zEV.aload_n dX4_brokenTies_13 rfl 1 rfl ?_
      refine zEV.iload_n dX4_brokenTies_14 rfl 3 rfl ?_
      obtain ⟨q2, hq2, h⟩ := bind_yes h
      refine zEV.callVi (kX4_deepOf b1 (l3) hb1 M q2 hq2) (by decide) rfl rfl wm_RX4_111 wc_X4_deepOf hy_X4_deepOf rfl ⟨Nat.le_of_ble_eq_true rfl, Nat.le_of_ble_eq_true rfl⟩ rfl (Nat.le_of_ble_eq_true rfl) dX4_brokenTies_15 ?_
      obtain ⟨q3, hq3, h⟩ := bind_yes h
      refine zEV.callSNi (kX6_isBroken (q2.1)  q2.2 q3 hq3) (by decide) wc_X6_isBroken hy_X6_isBroken rfl ⟨Nat.le_of_ble_eq_true rfl, Nat.le_of_ble_eq_true rfl⟩ rfl (Nat.le_of_ble_eq_true rfl) dX4_brokenTies_18 ?_
      refine zEV.if_eq 27 dX4_brokenTies_21 (by decide) (fun c4 => ?_) (fun c4 => ?_)
      · rw [if_pos c4] at h
        exact zEV.perm [0, 1, 2, 3] rfl (tX4_brokenTies_27 (fX4_brokenTies_4 b1 n) b1 hb1 (fun l2 l3 M9 q9 h9 => ih l2 l3 M9 q9 h9) (l2) (l3) q3.2 q h)
      · rw [if_neg c4] at h
        refine zEV.iinc (v := (l2 + 1)) dX4_brokenTies_24 2 rfl rfl (Nat.le_of_ble_eq_true rfl) rfl ?_
        exact zEV.perm [1, 2, 0, 3] rfl (tX4_brokenTies_27 (fX4_brokenTies_4 b1 n) b1 hb1 (fun l2 l3 M9 q9 h9 => ih l2 l3 M9 q9 h9) ((l2 + 1)) (l3) q3.2 q h)
def fX4_brokenTies (b1 : Nat) (M : zMM) : Option (Int32 × zMM) :=
  fX4_brokenTies_4 b1 zFU (0) (0) M
set_option maxRecDepth 100000 in
theorem tX4_brokenTies_0 (b1 : Nat) (hb1 : lf b1) (M : zMM) (q : Int32 × zMM) (h : fX4_brokenTies b1  M = some q) : zEV iX4_brokenTies 0 0 (zZO (some (.inl q.1), q.2)) 0 [(0, .inr (.inr 120)), (1, .inr (.inr b1))] [] M := by
  unfold fX4_brokenTies at h
  refine zEV.iconst (v := 0) dX4_brokenTies_0 rfl ?_
  refine zEV.istore_n dX4_brokenTies_1 rfl (Nat.le_of_ble_eq_true rfl) rfl ?_
  refine zEV.iconst (v := 0) dX4_brokenTies_2 rfl ?_
  refine zEV.istore_n dX4_brokenTies_3 rfl (Nat.le_of_ble_eq_true rfl) rfl ?_
  exact zEV.perm [2, 3, 1, 0] rfl (tX4_brokenTies_4 b1 hb1 zFU (0) (0) M q h)
theorem kX4_brokenTies (b1 : Nat) (hb1 : lf b1) (M : zMM) (q : Int32 × zMM) (h : fX4_brokenTies b1 M = some q) : zCN yX4_brokenTies iX4_brokenTies [.inr (.inr 120), .inr (.inr b1)] M (some (.inl q.1), q.2) :=
  zCN.of (by decide) rfl rfl (Nat.le_of_ble_eq_true rfl) (zEV.perm [0, 1] rfl (tX4_brokenTies_0 b1 hb1 M q h))
-- RingedPage$Setting.raggedInAll
def fX4_raggedInAll (M : zMM) : Option (Int32 × zMM) :=
  some ((((M.1 123 0) + (M.1 123 1)) + (M.1 123 2)), M)
set_option maxRecDepth 100000 in
theorem tX4_raggedInAll_0 (M : zMM) (q : Int32 × zMM) (h : fX4_raggedInAll  M = some q) : zEV iX4_raggedInAll 0 0 (zZO (some (.inl q.1), q.2)) 0 [(0, .inr (.inr 120))] [] M := by
  unfold fX4_raggedInAll at h
  refine zEV.aload_n dX4_raggedInAll_0 rfl 0 rfl ?_
  refine zEV.gfr rfl inz4 3 (by decide) wf_RX4_22 (by decide) rfl rfl dX4_raggedInAll_1 ?_
  refine zEV.iconst (v := 0) dX4_raggedInAll_4 rfl ?_
  refine zEV.ialdL (j := 0) (by decide) rfl (by decide) (by decide) dX4_raggedInAll_5 ?_
  refine zEV.aload_n dX4_raggedInAll_6 rfl 0 rfl ?_
  refine zEV.gfr rfl inz4 3 (by decide) wf_RX4_22 (by decide) rfl rfl dX4_raggedInAll_7 ?_
  refine zEV.iconst (v := 1) dX4_raggedInAll_10 rfl ?_
  refine zEV.ialdL (j := 1) (by decide) rfl (by decide) (by decide) dX4_raggedInAll_11 ?_
  refine zEV.iadd dX4_raggedInAll_12 ?_
  refine zEV.aload_n dX4_raggedInAll_13 rfl 0 rfl ?_
  refine zEV.gfr rfl inz4 3 (by decide) wf_RX4_22 (by decide) rfl rfl dX4_raggedInAll_14 ?_
  refine zEV.iconst (v := 2) dX4_raggedInAll_17 rfl ?_
  refine zEV.ialdL (j := 2) (by decide) rfl (by decide) (by decide) dX4_raggedInAll_18 ?_
  refine zEV.iadd dX4_raggedInAll_19 ?_
  have h := Option.some.inj h
  subst h
  exact zEV.iret rfl dX4_raggedInAll_20
theorem kX4_raggedInAll (M : zMM) (q : Int32 × zMM) (h : fX4_raggedInAll M = some q) : zCN yX4_raggedInAll iX4_raggedInAll [.inr (.inr 120)] M (some (.inl q.1), q.2) :=
  zCN.of (by decide) rfl rfl (Nat.le_of_ble_eq_true rfl) (zEV.perm [0] rfl (tX4_raggedInAll_0 M q h))
