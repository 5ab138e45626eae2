/-! the acts of a day -/
def AF (c j : Nat) : Prop := GH c j ∨ c = 166
def AB (f g : zMM → Option (Int32 × zMM)) (Q : Nat → Nat) : Prop :=
  (∃ Q' r, Good Q' ∧ (0 : Int32) ≤ r ∧ LD f Q r Q' ∧ ∀ M, MNow M Q → ∃ M', g M = some (zN 1, M') ∧ MNow M' Q' ∧ fr AF M M') ∨
  (∃ r : Int32, ¬ (0 : Int32) ≤ r ∧ LD f Q r Q ∧ ∀ M, MNow M Q → ∃ M', g M = some (zN 0, M') ∧ MNow M' Q ∧ fr AF M M')
theorem AF_159 {M M' : zMM} (h : fr (fun c _ => c = 159) M M') : fr AF M M' := fr_mono h (fun c j a => by unfold AF GH; omega)
theorem zge {v : Nat} (h : v < 2147483648) : (0 : Int32) ≤ zN v := by show zN 0 ≤ zN v; rw [zN_leT (by omega)]; trivial
theorem zlt_ge {r : Int32} (h : r < 0) : ¬ (0 : Int32) ≤ r := zneg_le h
theorem ab_set {Q : Nat → Nat} (hQ : Good Q) (a y : Int32) {w : Nat} (hw : w ≤ 2) : AB (fX6_setMeasure (zN w) y) (fX7_act_167 a y (zN w)) Q := by
  rcases setM_both hQ (zN w) y with ⟨r, hr, l, m⟩ | ⟨w', v, hwl, ew, rfl, hg, l, m⟩
  · refine Or.inr ⟨r, zlt_ge hr, l, fun M hM => ⟨M, ?_, hM, fr_refl _ _⟩⟩
    unfold fX7_act_167
    rw [m M hM, Option.bind_some, if_neg (zlt_ge hr)]; rfl
  · have : w = w' := zN_inj (by omega) (by omega) ew
    subst this
    have hb : Q (seti w) < 1000 := by
      have hp := hQ.1
      have e : w = 0 ∨ w = 1 ∨ w = 2 := by omega
      unfold seti
      rcases e with rfl | rfl | rfl <;> simp only [Nat.reduceEqDiff, if_true, if_false] <;> omega
    have hs : seti w < 259 := by unfold seti; split <;> omega
    refine Or.inl ⟨up Q (seti w) v, zN (Q (seti w)), hg, zge (by omega), l, fun M hM => ⟨wr M 159 (seti w) (zN v), ?_, MNow_up hM, AF_159 (fr_wr (fr_refl _ _) (by omega))⟩⟩
    have s := settingAt7 hwl M
    unfold fX7_act_167
    rw [m M hM, Option.bind_some, if_pos (ge0 (by omega)), s, Option.bind_some]
    simp (disch := omega) only [wr_cj, wr_nj, rng_in, rng_out, zN_lit, zN_add, zN_mul, zN_sub, zN_ltT, zN_ltF, zN_leT, zN_leF, zN_eqT, zN_eqF, zN_lt, zN_le, zN_eq, zN_nat, zN_oobF, Option.bind_some, ↓reduceIte, Nat.one_mul, Nat.zero_add, Nat.add_zero, Nat.reduceAdd, Nat.reduceMul, Nat.reduceSub, Nat.reduceLT, Nat.reduceLeDiff, Nat.reduceEqDiff, reduceCtorEq, true_or, or_true, false_or, or_false, true_and, and_true, false_and, and_false, not_true_eq_false, not_false_eq_true, wr_2, wrL_1, zm_eqF, zm_eqF', zm_lt, zm_lt', zm_le, zm_le', zm_sub1, zN_01, Nat.mul_zero, Nat.zero_mul, Nat.mul_one, Nat.sub_zero, Nat.sub_self, Nat.add_sub_cancel]
theorem ab_plan {Q : Nat → Nat} (hQ : Good Q) (x y z : Int32) : AB (fX6_setPlan x y z) (fun M => (fX7_refusesPlan x y z M).bind fun q12 => if (0 : Int32) ≤ q12.1 then (fX7_putPlan x y z q12.2).bind fun q14 => some (1, q14) else some (0, q12.2)) Q := by
  rcases plan_both hQ x y z with ⟨r, hr, l, m⟩ | ⟨c, i, o, k, rfl, rfl, rfl, l, m⟩
  · refine Or.inr ⟨r, zlt_ge hr, l, fun M hM => ⟨M, ?_, hM, fr_refl _ _⟩⟩
    dsimp only
    rw [m M hM, Option.bind_some, if_neg (zlt_ge hr)]; rfl
  · have hp := hQ.1
    refine Or.inl ⟨plP Q c i o, _, Good_pl hQ k, zge (by omega), l, fun M hM => ⟨_, ?_, MNow_pl hM, AF_159 (fr_pl7 M (zN c) (zN i) (zN o))⟩⟩
    dsimp only
    rw [m M hM, Option.bind_some, if_pos (ge0 (by omega))]; rfl
theorem ab_best {Q : Nat → Nat} (hQ : Good Q) (a x y : Int32) : AB (fX6_setBest x y) (fX7_act_264 a x y) Q := by
  rcases best_both hQ x y with ⟨r, hr, l, m⟩ | ⟨c, i, o, v, k, hv, l, m⟩
  · refine Or.inr ⟨r, zlt_ge hr, l, fun M hM => ?_⟩
    obtain ⟨M1, e1, n1, f1⟩ := m M hM
    refine ⟨M1, ?_, n1, f1⟩
    unfold fX7_act_264
    rw [e1, Option.bind_some, if_neg (zlt_ge hr)]; rfl
  · refine Or.inl ⟨plP Q c i o, zN v, Good_pl hQ k, zge (by omega), l, fun M hM => ?_⟩
    obtain ⟨M1, e1, n1, b0, b1, b2, b18, f1⟩ := m M hM
    refine ⟨wr (wr (wr M1 159 2 (zN c)) 159 3 (zN i)) 159 4 (zN o), ?_, MNow_pl n1, fr_trans f1 (AF_159 (fr_pl7 M1 (zN c) (zN i) (zN o)))⟩
    unfold fX7_act_264 fX7_putPlan
    rw [e1, Option.bind_some, if_pos (ge0 (by omega)), Option.bind_some]
    dsimp only
    rw [b0, b1, b2]; rfl
theorem LD_leaf {f : zMM → Option (Int32 × zMM)} {Q Q' : Nat → Nat} {r : Int32} (h : ∀ M, Leaf M 0 Q → ∃ M', f M = some (r, M') ∧ Leaf M' 0 Q' ∧ fr (fun c _ => 0 ≤ c ∧ c < 0 + 10) M M') : LD f Q r Q' := fun M hL => by
  obtain ⟨M', a, b, c⟩ := h M hL
  exact ⟨M', a, b, fr_mono c (fun c j a => by unfold CW; omega)⟩
theorem ab_put {Q : Nat → Nat} (hQ : Good Q) (x y z : Int32) : AB (fX6_putWord 0 x y z) (fun M => (fX7_refusesWord x y z M).bind fun q6 => if (0 : Int32) ≤ q6.1 then (fX7_put x y z q6.2).bind fun q8 => some (1, q8) else some (0, q6.2)) Q := by
  rcases put_both hQ x y z with ⟨r, hr, l, m⟩ | ⟨t, k, v, ht, hk, hc, hv, rfl, rfl, rfl, l, m⟩
  · refine Or.inr ⟨r, zlt_ge hr, fun M hL => ⟨M, l 0 M hL, hL, fr_refl _ _⟩, fun M hM => ⟨M, ?_, hM, fr_refl _ _⟩⟩
    dsimp only
    rw [m M hM, Option.bind_some, if_neg (zlt_ge hr)]; rfl
  · refine Or.inl ⟨putP Q t k v, _, Good_put hQ ht hk hc hv, zge (by omega), LD_leaf (l 0), fun M hM => ?_⟩
    obtain ⟨M1, e1, n1, f1⟩ := put7 hQ (v := v) ht hk hc hM
    refine ⟨M1, ?_, n1, AF_159 f1⟩
    dsimp only
    rw [m M hM, Option.bind_some, if_pos (ge0 (by omega)), e1]; rfl
theorem ab_drop {Q : Nat → Nat} (hQ : Good Q) (x y : Int32) : AB (fX6_dropWord 0 x y) (fun M => (fX7_isWord x y M).bind fun q9 => if q9.1 = (0 : Int32) then some (0, q9.2) else (fX7_drop x y q9.2).bind fun q11 => some (1, q11)) Q := by
  rcases drop_both hQ x y with ⟨l, m⟩ | ⟨t, k, ht, hk, rfl, rfl, l, m⟩
  · refine Or.inr ⟨-zN 1, by decide, fun M hL => ⟨M, l 0 M hL, hL, fr_refl _ _⟩, fun M hM => ⟨M, ?_, hM, fr_refl _ _⟩⟩
    dsimp only
    rw [m M hM, Option.bind_some, if_pos z00]; rfl
  · have hc := (hQ.2.1 t ht).1
    refine Or.inl ⟨dropP Q t k, _, Good_drop hQ ht hk, zge (by omega), LD_leaf (l 0), fun M hM => ?_⟩
    obtain ⟨M1, e1, n1, f1⟩ := drop7 hQ ht hk hM
    refine ⟨M1, ?_, n1, AF_159 f1⟩
    dsimp only
    rw [m M hM, Option.bind_some, if_neg nz10', e1]; rfl
theorem ab_swap {Q : Nat → Nat} (hQ : Good Q) : AB fX6_swapComments (fun M => (fX7_goSwap M).bind fun q15 => if q15.1 = 0 ∨ q15.1 = 1 then some (q15.1, q15.2) else none) Q := by
  rcases swap_both hQ with ⟨l, m⟩ | ⟨l, m⟩
  · refine Or.inr ⟨-zN 2, by decide, l, fun M hM => ⟨M, ?_, hM, fr_refl _ _⟩⟩
    dsimp only
    rw [m M hM, Option.bind_some]; exact if_pos (Or.inl rfl)
  · have hc := (hQ.2.1 2 (by omega)).1
    refine Or.inl ⟨swP Q, zN (Q 7), Good_sw hQ, zge (by simp only [Nat.reduceAdd] at hc; omega), l, fun M hM => ?_⟩
    obtain ⟨M1, e1, n1, f1⟩ := m M hM
    refine ⟨M1, ?_, n1, AF_159 f1⟩
    dsimp only
    rw [e1, Option.bind_some]; exact if_pos (Or.inr rfl)
def isL (c : Nat) : Prop := c = 98 ∨ c = 99 ∨ c = 103 ∨ c = 104 ∨ c = 112 ∨ c = 117 ∨ c = 119 ∨ c = 120
def dg (c : Nat) : Nat := if c = 98 then 2 else if c = 99 then 4 else if c = 103 then 3 else if c = 104 then 2 else if c = 112 then 5 else if c = 117 then 1 else if c = 119 then 2 else 0
theorem digitsOfT {c : Nat} (h : isL c) (M : zMM) : fX6_digitsOf (zN c) M = some (zN (dg c), M) := by
  unfold isL at h
  rcases h with rfl | rfl | rfl | rfl | rfl | rfl | rfl | rfl <;> rfl
theorem digitsOfF {c : Nat} (h : ¬ isL c) (hc : c < 256) (M : zMM) : fX6_digitsOf (zN c) M = some (-zN 1, M) := by
  unfold isL at h
  unfold fX6_digitsOf
  simp (disch := omega) only [wr_cj, wr_nj, rng_in, rng_out, zN_lit, zN_add, zN_mul, zN_sub, zN_ltT, zN_ltF, zN_leT, zN_leF, zN_eqT, zN_eqF, zN_lt, zN_le, zN_eq, zN_nat, zN_oobF, Option.bind_some, ↓reduceIte, Nat.one_mul, Nat.zero_add, Nat.add_zero, Nat.reduceAdd, Nat.reduceMul, Nat.reduceSub, Nat.reduceLT, Nat.reduceLeDiff, Nat.reduceEqDiff, reduceCtorEq, true_or, or_true, false_or, or_false, true_and, and_true, false_and, and_false, not_true_eq_false, not_false_eq_true, wr_2, wrL_1, zm_eqF, zm_eqF', zm_lt, zm_lt', zm_le, zm_le', zm_sub1, zN_01, Nat.mul_zero, Nat.zero_mul, Nat.mul_one, Nat.sub_zero, Nat.sub_self, Nat.add_sub_cancel, ite_self]
theorem dg_le (c : Nat) : dg c ≤ 5 := by
  unfold dg
  repeat' split
  all_goals omega
