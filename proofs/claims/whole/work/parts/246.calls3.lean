/-! questions: frames of a question -/
def mq (M M' : zMM) : Prop := (∀ c j, ¬ (MSc c j ∨ c = 159 ∨ (c = 158 ∧ j = 4)) → M'.1 c j = M.1 c j) ∧ (∀ c j, c ≠ 161 → M'.2 c j = M.2 c j)
def cq (M M' : zMM) : Prop := (∀ c j, ¬ (CW c ∨ c = 155) → M'.1 c j = M.1 c j) ∧ (∀ c j, c ≠ 156 → M'.2 c j = M.2 c j)
theorem mq_trans {M M' M'' : zMM} (h : mq M M') (h' : mq M' M'') : mq M M'' := ⟨fun c j hc => (h'.1 c j hc).trans (h.1 c j hc), fun c j hc => (h'.2 c j hc).trans (h.2 c j hc)⟩
theorem cq_trans {M M' M'' : zMM} (h : cq M M') (h' : cq M' M'') : cq M M'' := ⟨fun c j hc => (h'.1 c j hc).trans (h.1 c j hc), fun c j hc => (h'.2 c j hc).trans (h.2 c j hc)⟩
theorem mq_refl (M : zMM) : mq M M := ⟨fun _ _ _ => rfl, fun _ _ _ => rfl⟩
theorem cq_refl (M : zMM) : cq M M := ⟨fun _ _ _ => rfl, fun _ _ _ => rfl⟩
theorem mq_fr {S : Nat → Nat → Prop} {M M' : zMM} (h : fr S M M') (hs : ∀ c j, S c j → MSc c j ∨ c = 159 ∨ (c = 158 ∧ j = 4)) : mq M M' := ⟨fun c j hc => h.1 c j (fun a => hc (hs c j a)), fun c j hc => by rw [h.2]⟩
theorem cq_fr {S : Nat → Nat → Prop} {M M' : zMM} (h : fr S M M') (hs : ∀ c j, S c j → CW c ∨ c = 155) : cq M M' := ⟨fun c j hc => h.1 c j (fun a => hc (hs c j a)), fun c j hc => by rw [h.2]⟩
theorem mq_X {M M' : zMM} (h : frX M M') : mq M M' := ⟨fun c j hc => h.1 c j (fun a => hc (by omega)), fun c j hc => h.2 c j hc⟩
theorem cq_Y {M M' : zMM} (h : frY M M') : cq M M' := ⟨fun c j hc => h.1 c j (fun a => hc (by omega)), fun c j hc => h.2 c j hc⟩
theorem mq_MS {M M' : zMM} (h : fr MS M M') : mq M M' := mq_fr h (fun c j a => by unfold MS at a; unfold MSc; omega)
theorem mq_w {M : zMM} {j : Nat} {v : Int32} (h : j ≠ 2 ∧ j ≠ 24) : mq M (wr M 158 j v) := mq_fr (fr_wr (S := fun c j' => c = 158 ∧ j' = j) (fr_refl _ _) ⟨rfl, rfl⟩) (fun c j' a => by unfold MSc; omega)
theorem cq_set {M M' : zMM} (h : fr (fun c _ => 120 ≤ c ∧ c ≤ 147) M M') : cq M M' := cq_fr h (fun c j a => by unfold CW; omega)
theorem cq_leaf {b : Nat} {M M' : zMM} (hb : b ≤ 10) (h : fr (fun c _ => b ≤ c ∧ c < b + 10) M M') : cq M M' := cq_fr h (fun c j a => by unfold CW; omega)
theorem mq_M {M M' : zMM} (h : mq M M') : frM M M' := fun c hc => ⟨fun j => h.1 c j (by unfold MSc; omega), fun j => h.2 c j (by omega)⟩
theorem cq_C {M M' : zMM} (h : cq M M') : frC M M' := fun c hc => ⟨fun j => h.1 c j (by unfold CW; omega), fun j => h.2 c j (by omega)⟩
theorem CI_q {P P' : Nat → Nat} {T : List Nat} {R R' : List Int64} {U : List (Nat → Nat)} {K : Nat → Option (Nat → Nat)} {M M' : zMM} (h : CI P T R U K M) (hU : U.length ≤ 7) (f : cq M M') (hL : Leaf M' 0 P') (hr : CR R' M') : CI P' T R' U K M' ∧ frC M M' := by
  obtain ⟨h1, h2, h3, ⟨q, h4⟩, h5⟩ := h
  have e := f.1
  unfold CW at e
  exact ⟨⟨hL, CT_fr h2 (fun c j a => e c j (by omega)), hr, ⟨q, CU_fr h4 (fun c j a => e c j (by omega)) hU⟩, CKp_fr h5 (fun c j a => e c j (by omega))⟩, cq_C f⟩
theorem MI_q {P P' : Nat → Nat} {T : List Nat} {R R' : List Int64} {U : List (Nat → Nat)} {K : Nat → Option (Nat → Nat)} {M M' : zMM} (h : MI P T R U K M) (f : mq M M') (hn : MNow M' P') (hr : MR R' M') : MI P' T R' U K M' ∧ frM M M' := by
  obtain ⟨h1, h2, h3, h4, h5⟩ := h
  have e := f.1
  unfold MSc at e
  exact ⟨⟨hn, MT_fr h2 (e _ _ (by omega)) (fun j => e _ _ (by omega)), hr, MU_fr h4 (e _ _ (by omega)) (fun j => e _ _ (by omega)), MKp_fr h5 (fun c j a => e c j (by omega))⟩, mq_M f⟩
theorem CR_q {R : List Int64} {M M' : zMM} (h : CR R M) {S : Nat → Nat → Prop} (f : fr S M M') (hs : ∀ j, ¬ S 155 j) : CR R M' := CR_fr h (fun j => f.1 _ _ (hs j)) (fun j => by rw [f.2])
theorem MR2 {a b : Int64} {M : zMM} (h : MR ([] ++ [a] ++ [b]) M) : MR [a, b] M := h
theorem MR3 {a b c : Int64} {M : zMM} (h : MR ([] ++ [a] ++ [b] ++ [c]) M) : MR [a, b, c] M := h
theorem MR4 {a b c d : Int64} {M : zMM} (h : MR ([] ++ [a] ++ [b] ++ [c] ++ [d]) M) : MR [a, b, c, d] M := h
theorem MR_q {R : List Int64} {M M' : zMM} (h : MR R M) {S : Nat → Nat → Prop} (f : fr S M M') (hs : ¬ S 158 4) : MR R M' := MR_fr h (f.1 _ _ hs) (fun j => by rw [f.2])
theorem WF_R {P : Nat → Nat} {T : List Nat} {R R' : List Int64} {U : List (Nat → Nat)} {K : Nat → Option (Nat → Nat)} (h : WF P T R U K) (hl : R'.length ≤ 60) : WF P T R' U K := ⟨h.1, h.2.1, hl, h.2.2.2⟩
theorem MNow_w {M : zMM} {P : Nat → Nat} {j : Nat} {v : Int32} (h : MNow M P) : MNow (wr M 158 j v) P := fun i hi => by rw [wr_nj (by omega)]; exact h i hi
theorem MSet_4 {M : zMM} {P : Nat → Nat} {v : Int32} (h : MSet P M) : MSet P (wr M 158 4 v) := MSet_fr h (fun c j a => by unfold MS at a; rw [wr_nj (by omega)])
/-! both set what stands now: a start for every question -/
theorem cset0 {P : Nat → Nat} (hP : Good P) {b : Nat} (hb : b ≤ 110) {M : zMM} (hL : Leaf M b P) : ∃ M', fX4_set b M = some M' ∧ CSet P M' ∧ Leaf M' b P ∧ fr (fun c _ => 120 ≤ c ∧ c ≤ 147) M M' := by
  obtain ⟨M', e, s, f⟩ := fX4_set_ok hP hb hL
  exact ⟨M', e, s, Leaf_eq hL (fun c j a b => f.1 c j (by omega)), f⟩
theorem mset0 {P : Nat → Nat} (hP : Good P) {M : zMM} (hM : MNow M P) : ∃ M', fX7_set M = some M' ∧ MSet P M' ∧ MNow M' P ∧ fr MS M M' := by
  obtain ⟨M', e, s, f⟩ := fX7_set_ok hP hM
  exact ⟨M', e, s, MNow_fr hM f, f⟩
/-! pages -/
theorem pl_last {P : Nat → Nat} (hP : Good P) {n : Nat} (h : lfp P n) : ∃ t, (pl P (n + 1))[(pl P (n + 1)).length - 1]? = some (n, t) ∧ 0 < (pl P (n + 1)).length := by
  have hne : lnl P n ≠ [] := by
    unfold lnl
    rcases wid_some hP h with w | w | w <;> simp [w]
  have hall : ∀ x ∈ lnl P n, x.1 = n := by
    intro x hx
    unfold lnl at hx
    rcases List.mem_append.mp hx with a | a
    · split at a
      · exact absurd a (by simp)
      · rw [List.mem_singleton] at a; rw [a]
    · rcases List.mem_append.mp a with a | a
      · split at a
        · exact absurd a (by simp)
        · rw [List.mem_singleton] at a; rw [a]
      · split at a
        · exact absurd a (by simp)
        · rw [List.mem_singleton] at a; rw [a]
  have hl : 0 < (lnl P n).length := List.length_pos_iff.mpr hne
  rw [pl]
  have hlt : (lnl P n).length - 1 < (lnl P n).length := by omega
  refine ⟨((lnl P n)[(lnl P n).length - 1]).2, ?_, by rw [List.length_append]; omega⟩
  rw [List.length_append, List.getElem?_append_right (by omega), show (pl P n).length + (lnl P n).length - 1 - (pl P n).length = (lnl P n).length - 1 by omega, List.getElem?_eq_getElem hlt]
  have := hall _ (List.getElem_mem hlt)
  rw [Option.some.injEq]; exact Prod.ext this rfl
theorem pgs_0 {P : Nat → Nat} (hP : Good P) (h : NL P = 0) : pgs P = 0 := by
  have := hP.1
  unfold pgs; rw [h, Nat.div_eq_of_lt (by omega)]
theorem pgs_pos {P : Nat → Nat} (hP : Good P) (h : NL P ≠ 0) : pgs P = (NL P - 1) / P 1 + 1 := pgs_end (by have := hP.1; omega) (by omega)
theorem call_pages : Cll fX6_pages fX7_pages := by
  refine Cll_of (fun P T R U K hw => ?_)
  have hP := hw.1
  have hp := hP.1
  have hU := hw.2.2.2.1.1
  have hN := NL_le P
  by_cases c : NL P = 0
  · have e0 := pgs_0 hP c
    refine ⟨zN 0, P, T, [0], U, K, WF_R hw (by simp), fun M hM => ?_, fun M hM => ?_⟩
    · obtain ⟨M1, e1, s1, l1, f1⟩ := cset0 hP (b := 0) (by omega) hM.1
      have pc := pageCount4 hP l1 s1
      rw [e0] at pc
      obtain ⟨M2, e2, r2, y2⟩ := tell1 0 M1
      refine ⟨M2, ?_, CI_q hM hU (cq_trans (cq_set f1) (cq_Y y2)) (Leaf_Y l1 (by omega) y2) r2⟩
      unfold fX6_pages fX6_pages_55; simp (disch := omega) only [wr_cj, wr_nj, rng_in, rng_out, zN_lit, zN_add, zN_mul, zN_sub, zN_ltT, zN_ltF, zN_leT, zN_leF, zN_eqT, zN_eqF, zN_lt, zN_le, zN_eq, zN_nat, zN_oobF, Option.bind_some, ↓reduceIte, Nat.one_mul, Nat.zero_add, Nat.add_zero, Nat.reduceAdd, Nat.reduceMul, Nat.reduceSub, Nat.reduceLT, Nat.reduceLeDiff, Nat.reduceEqDiff, reduceCtorEq, true_or, or_true, false_or, or_false, true_and, and_true, false_and, and_false, not_true_eq_false, not_false_eq_true, wr_2, wrL_1, zm_eqF, zm_eqF', zm_lt, zm_lt', zm_le, zm_le', zm_sub1, zN_01, Nat.mul_zero, Nat.zero_mul, Nat.mul_one, Nat.sub_zero, Nat.sub_self, Nat.add_sub_cancel, e1, pc, e2]
    · have h0 := MNow_w (j := 5) (v := zN 0) hM.1
      obtain ⟨M1, e1, s1, n1, f1⟩ := mset0 hP h0
      have k0 := s1.1.1
      have k1 := s1.2
      have el : (pl P (NL P)).length = 0 := by rw [c]; rfl
      rw [el] at k0
      rw [e0] at k1
      obtain ⟨M2, e2, r2, x2⟩ := tell7 (MR_nil M1) (by simp) 0
      have k2 : M2.1 158 14 = zN 0 := by rw [x2.1 _ _ (by omega), wr_nj (by omega)]; exact k1
      refine ⟨M2, ?_, MI_q hM (mq_trans (mq_w (by omega)) (mq_trans (mq_MS f1) (mq_trans (mq_w (by omega)) (mq_X x2)))) (MNow_X (MNow_w n1) x2) r2⟩
      unfold fX7_pages fX7_pages_40; simp (disch := omega) only [wr_cj, wr_nj, rng_in, rng_out, zN_lit, zN_add, zN_mul, zN_sub, zN_ltT, zN_ltF, zN_leT, zN_leF, zN_eqT, zN_eqF, zN_lt, zN_le, zN_eq, zN_nat, zN_oobF, Option.bind_some, ↓reduceIte, Nat.one_mul, Nat.zero_add, Nat.add_zero, Nat.reduceAdd, Nat.reduceMul, Nat.reduceSub, Nat.reduceLT, Nat.reduceLeDiff, Nat.reduceEqDiff, reduceCtorEq, true_or, or_true, false_or, or_false, true_and, and_true, false_and, and_false, not_true_eq_false, not_false_eq_true, wr_2, wrL_1, zm_eqF, zm_eqF', zm_lt, zm_lt', zm_le, zm_le', zm_sub1, zN_01, Nat.mul_zero, Nat.zero_mul, Nat.mul_one, Nat.sub_zero, Nat.sub_self, Nat.add_sub_cancel, e1, k0, e2, k2]
  · have e0 := pgs_pos hP c
    have hdm := Nat.div_add_mod (NL P - 1) (P 1)
    have hml := Nat.mod_lt (NL P - 1) (show 0 < P 1 by omega)
    have hv : NL P - (pgs P - 1) * P 1 = (NL P - 1) % P 1 + 1 := by
      rw [e0, Nat.add_sub_cancel, Nat.mul_comm]; omega
    have hle : (pgs P - 1) * P 1 ≤ NL P := by rw [e0, Nat.add_sub_cancel, Nat.mul_comm]; omega
    have hpl := pgs_le hP
    have hpn : pgs P ≠ 0 := by rw [e0]; exact Nat.succ_ne_zero _
    refine ⟨zN (pgs P), P, T, [(zN ((NL P - 1) % P 1 + 1)).toInt64], U, K, WF_R hw (by simp), fun M hM => ?_, fun M hM => ?_⟩
    · obtain ⟨M1, e1, s1, l1, f1⟩ := cset0 hP (b := 0) (by omega) hM.1
      have pc := pageCount4 hP l1 s1
      have k1 := s1.2
      have k2 := l1.1.2.1
      obtain ⟨M2, e2, r2, y2⟩ := tell1 (zN ((NL P - 1) % P 1 + 1)).toInt64 M1
      refine ⟨M2, ?_, CI_q hM hU (cq_trans (cq_set f1) (cq_Y y2)) (Leaf_Y l1 (by omega) y2) r2⟩
      unfold fX6_pages fX6_pages_55; simp (disch := omega) only [wr_cj, wr_nj, rng_in, rng_out, zN_lit, zN_add, zN_mul, zN_sub, zN_ltT, zN_ltF, zN_leT, zN_leF, zN_eqT, zN_eqF, zN_lt, zN_le, zN_eq, zN_nat, zN_oobF, Option.bind_some, ↓reduceIte, Nat.one_mul, Nat.zero_add, Nat.add_zero, Nat.reduceAdd, Nat.reduceMul, Nat.reduceSub, Nat.reduceLT, Nat.reduceLeDiff, Nat.reduceEqDiff, reduceCtorEq, true_or, or_true, false_or, or_false, true_and, and_true, false_and, and_false, not_true_eq_false, not_false_eq_true, wr_2, wrL_1, zm_eqF, zm_eqF', zm_lt, zm_lt', zm_le, zm_le', zm_sub1, zN_01, Nat.mul_zero, Nat.zero_mul, Nat.mul_one, Nat.sub_zero, Nat.sub_self, Nat.add_sub_cancel, e1, pc, k1, k2, hv, e2, hpn]
    · have h0 := MNow_w (j := 5) (v := zN 0) hM.1
      obtain ⟨M1, e1, s1, n1, f1⟩ := mset0 hP h0
      have k0 := s1.1.1
      have k1 := s1.2
      obtain ⟨t, hlast, hpos⟩ := pl_last hP (NL_lf (show NL P - 1 < NL P by omega))
      rw [show NL P - 1 + 1 = NL P by omega] at hlast hpos
      have en := (s1.1.2.2.2.1 _ _ _ hlast).2.2.1
      have hlen := MSet_len hP s1
      have td := told7 (p := (pl P (NL P)).length - 1) (j := 2) (M := wr M1 158 4 (zN 0)) (by omega)
      rw [wr_nj (by omega), en] at td
      obtain ⟨M2, e2, r2, x2⟩ := tell7 (MR_nil M1) (by simp) (zN ((NL P - 1) % P 1 + 1)).toInt64
      have k2 : M2.1 158 14 = zN (pgs P) := by rw [x2.1 _ _ (by omega), wr_nj (by omega)]; exact k1
      refine ⟨M2, ?_, MI_q hM (mq_trans (mq_w (by omega)) (mq_trans (mq_MS f1) (mq_trans (mq_w (by omega)) (mq_X x2)))) (MNow_X (MNow_w n1) x2) r2⟩
      unfold fX7_pages fX7_pages_40; simp (disch := omega) only [wr_cj, wr_nj, rng_in, rng_out, zN_lit, zN_add, zN_mul, zN_sub, zN_ltT, zN_ltF, zN_leT, zN_leF, zN_eqT, zN_eqF, zN_lt, zN_le, zN_eq, zN_nat, zN_oobF, Option.bind_some, ↓reduceIte, Nat.one_mul, Nat.zero_add, Nat.add_zero, Nat.reduceAdd, Nat.reduceMul, Nat.reduceSub, Nat.reduceLT, Nat.reduceLeDiff, Nat.reduceEqDiff, reduceCtorEq, true_or, or_true, false_or, or_false, true_and, and_true, false_and, and_false, not_true_eq_false, not_false_eq_true, wr_2, wrL_1, zm_eqF, zm_eqF', zm_lt, zm_lt', zm_le, zm_le', zm_sub1, zN_01, Nat.mul_zero, Nat.zero_mul, Nat.mul_one, Nat.sub_zero, Nat.sub_self, Nat.add_sub_cancel, e1, k0, td, e2, k2]
/-! ends, apart, cost -/
def cntT (t : Nat) (L : List (Nat × Nat)) : Nat := (L.map (fun q => if q.2 = t then 1 else 0)).sum
def sumT (P : Nat → Nat) (t : Nat) (L : List (Nat × Nat)) : Nat := (L.map (fun q => if q.2 = t then rg P q.1 q.2 else 0)).sum
theorem cntT_pl (P : Nat → Nat) {t : Nat} (ht : t < 3) (n : Nat) : cntT t (pl P n) = npt P t n ∧ sumT P t (pl P n) = rgs P t n := by
  induction n with
  | zero => exact ⟨rfl, rfl⟩
  | succ n ih =>
    have ap : ∀ L L', cntT t (L ++ L') = cntT t L + cntT t L' := by intro L L'; unfold cntT; rw [List.map_append, List.sum_append]
    have as : ∀ L L', sumT P t (L ++ L') = sumT P t L + sumT P t L' := by intro L L'; unfold sumT; rw [List.map_append, List.sum_append]
    have one : ∀ u, cntT t (if wid P n u = 0 then [] else [(n, u)]) = if u = t then (if wid P n t = 0 then 0 else 1) else 0 := by
      intro u
      by_cases e : u = t
      · subst e; by_cases h : wid P n u = 0 <;> simp [cntT, h]
      · by_cases h : wid P n u = 0 <;> simp [cntT, h, e]
    have ones : ∀ u, sumT P t (if wid P n u = 0 then [] else [(n, u)]) = if u = t then rg P n t else 0 := by
      intro u
      by_cases e : u = t
      · subst e
        by_cases h : wid P n u = 0
        · simp [sumT, h, rg_0 P n u h]
        · simp [sumT, h]
      · by_cases h : wid P n u = 0 <;> simp [sumT, h, e]
    rw [pl, lnl, ap, ap, ap, as, as, as, one, one, one, ones, ones, ones, ih.1, ih.2, npt, rgs]
    have : t = 0 ∨ t = 1 ∨ t = 2 := by omega
    rcases this with rfl | rfl | rfl <;> simp
theorem ends7L {P : Nat → Nat} {M : zMM} {L : List (Nat × Nat)} {t : Nat} (ht : t < 3) (hl : L.length ≤ 210) (hL3 : ∀ q ∈ L, q.2 < 3) (h1 : M.1 158 11 = zN L.length) (h4 : ∀ p m t, L[p]? = some (m, t) → Ent P M p m t) (G : Nat → Nat → Option (Int32 × zMM)) (hG : ∀ n a s, fX7_ends_25 (zN t) (n + 1) (zN a) (zN s) (zN L.length) M = G a s) :
    ∀ f p fuel a s, L.length - p = f → p ≤ L.length → f < fuel → fX7_ends_25 (zN t) fuel (zN a) (zN s) (zN p) M = G (a + cntT t (L.drop p)) (s + sumT P t (L.drop p)) := by
  intro f
  induction f with
  | zero =>
    intro p fuel a s hf hp hfu
    obtain ⟨fu, rfl⟩ : ∃ q, fuel = q + 1 := ⟨fuel - 1, by omega⟩
    have e : p = L.length := by omega
    subst e
    rw [hG, List.drop_eq_nil_of_le (Nat.le_refl _)]; rfl
  | succ f ih =>
    intro p fuel a s hf hp hfu
    obtain ⟨fu, rfl⟩ : ∃ q, fuel = q + 1 := ⟨fuel - 1, by omega⟩
    have hp' : p < L.length := by omega
    have eg : L[p]? = some (L[p].1, L[p].2) := List.getElem?_eq_getElem hp'
    have h3 := hL3 _ (List.getElem_mem hp')
    have en := h4 p _ _ eg
    have t0 := told7 (p := p) (j := 0) (M := M) (by omega)
    rw [Nat.add_zero, en.1] at t0
    have t7 := told7 (p := p) (j := 7) (M := M) (by omega)
    rw [en.2.2.2.2.2.2.2] at t7
    rw [List.drop_eq_getElem_cons hp']
    have ec : cntT t (L[p] :: L.drop (p + 1)) = (if L[p].2 = t then 1 else 0) + cntT t (L.drop (p + 1)) := by unfold cntT; rw [List.map_cons, List.sum_cons]
    have es : sumT P t (L[p] :: L.drop (p + 1)) = (if L[p].2 = t then rg P L[p].1 L[p].2 else 0) + sumT P t (L.drop (p + 1)) := by unfold sumT; rw [List.map_cons, List.sum_cons]
    rw [ec, es, ← Nat.add_assoc, ← Nat.add_assoc, ← ih (p + 1) fu _ _ (by omega) (by omega) (by omega), fX7_ends_25]
    by_cases c : L[p].2 = t
    · rw [if_pos c, if_pos c]
      rw [c] at t0
      rw [c]; rw [c] at t7
      simp (disch := omega) only [wr_cj, wr_nj, rng_in, rng_out, zN_lit, zN_add, zN_mul, zN_sub, zN_ltT, zN_ltF, zN_leT, zN_leF, zN_eqT, zN_eqF, zN_lt, zN_le, zN_eq, zN_nat, zN_oobF, Option.bind_some, ↓reduceIte, Nat.one_mul, Nat.zero_add, Nat.add_zero, Nat.reduceAdd, Nat.reduceMul, Nat.reduceSub, Nat.reduceLT, Nat.reduceLeDiff, Nat.reduceEqDiff, reduceCtorEq, true_or, or_true, false_or, or_false, true_and, and_true, false_and, and_false, not_true_eq_false, not_false_eq_true, wr_2, wrL_1, zm_eqF, zm_eqF', zm_lt, zm_lt', zm_le, zm_le', zm_sub1, zN_01, Nat.mul_zero, Nat.zero_mul, Nat.mul_one, Nat.sub_zero, Nat.sub_self, Nat.add_sub_cancel, h1, t0, t7, fX7_ends_51, fX7_ends_77]
    · rw [if_neg c, if_neg c]
      simp (disch := omega) only [wr_cj, wr_nj, rng_in, rng_out, zN_lit, zN_add, zN_mul, zN_sub, zN_ltT, zN_ltF, zN_leT, zN_leF, zN_eqT, zN_eqF, zN_lt, zN_le, zN_eq, zN_nat, zN_oobF, Option.bind_some, ↓reduceIte, Nat.one_mul, Nat.zero_add, Nat.add_zero, Nat.reduceAdd, Nat.reduceMul, Nat.reduceSub, Nat.reduceLT, Nat.reduceLeDiff, Nat.reduceEqDiff, reduceCtorEq, true_or, or_true, false_or, or_false, true_and, and_true, false_and, and_false, not_true_eq_false, not_false_eq_true, wr_2, wrL_1, zm_eqF, zm_eqF', zm_lt, zm_lt', zm_le, zm_le', zm_sub1, zN_01, Nat.mul_zero, Nat.zero_mul, Nat.mul_one, Nat.sub_zero, Nat.sub_self, Nat.add_sub_cancel, h1, t0, t7, fX7_ends_51, fX7_ends_77]
theorem pl_3 (P : Nat → Nat) (n : Nat) : ∀ q ∈ pl P n, q.2 < 3 ∧ q.1 < n := by
  induction n with
  | zero => intro q hq; exact absurd hq (by simp [pl])
  | succ n ih =>
    intro q hq
    rw [pl] at hq
    rcases List.mem_append.mp hq with a | a
    · have := ih q a; omega
    · unfold lnl at a
      rcases List.mem_append.mp a with a | a
      · split at a
        · exact absurd a (by simp)
        · rw [List.mem_singleton] at a; rw [a]; simp
      · rcases List.mem_append.mp a with a | a
        · split at a
          · exact absurd a (by simp)
          · rw [List.mem_singleton] at a; rw [a]; simp
        · split at a
          · exact absurd a (by simp)
          · rw [List.mem_singleton] at a; rw [a]; simp
theorem call_ends (x : Int32) : Cll (fX6_ends x) (fX7_ends x) := by
  refine Cll_of (fun P T R U K hw => ?_)
  have hP := hw.1
  have hU := hw.2.2.2.1.1
  rcases text_case x with ⟨t, ht, rfl⟩ | h
  · refine ⟨if P (5 + t) = 0 then -zN 1 else zN (en P t), P, T, [(zN (npt P t (NL P))).toInt64, (zN (rgs P t (NL P))).toInt64], U, K, WF_R hw (by simp), fun M hM => ?_, fun M hM => ?_⟩
    · obtain ⟨M1, e1, s1, l1, f1⟩ := cset0 hP (b := 0) (by omega) hM.1
      have it := isText6T ht M
      have k5 := (s1.1 t ht).2.2.2.2.1
      have k6 := (s1.1 t ht).2.2.2.2.2
      obtain ⟨M2, e2, r2, y2⟩ := tell2 (zN (npt P t (NL P))).toInt64 (zN (rgs P t (NL P))).toInt64 M1
      have eo := endOf4 hP (Leaf_Y l1 (by omega) y2) (CSet_Y s1 y2) ht
      refine ⟨M2, ?_, CI_q hM hU (cq_trans (cq_set f1) (cq_Y y2)) (Leaf_Y l1 (by omega) y2) r2⟩
      unfold fX6_ends; simp (disch := omega) only [wr_cj, wr_nj, rng_in, rng_out, zN_lit, zN_add, zN_mul, zN_sub, zN_ltT, zN_ltF, zN_leT, zN_leF, zN_eqT, zN_eqF, zN_lt, zN_le, zN_eq, zN_nat, zN_oobF, Option.bind_some, ↓reduceIte, Nat.one_mul, Nat.zero_add, Nat.add_zero, Nat.reduceAdd, Nat.reduceMul, Nat.reduceSub, Nat.reduceLT, Nat.reduceLeDiff, Nat.reduceEqDiff, reduceCtorEq, true_or, or_true, false_or, or_false, true_and, and_true, false_and, and_false, not_true_eq_false, not_false_eq_true, wr_2, wrL_1, zm_eqF, zm_eqF', zm_lt, zm_lt', zm_le, zm_le', zm_sub1, zN_01, Nat.mul_zero, Nat.zero_mul, Nat.mul_one, Nat.sub_zero, Nat.sub_self, Nat.add_sub_cancel, it, e1, k5, k6, e2, eo]
    · have h0 := MNow_w (j := 5) (v := zN 0) hM.1
      have it := isText7T ht (wr M 158 5 (zN 0))
      obtain ⟨M1, e1, s1, n1, f1⟩ := mset0 hP h0
      have k0 := s1.1.1
      have hlen := MSet_len hP s1
      obtain ⟨M2, e2, r2, x2⟩ := tell7 (MR_nil M1) (by simp) (zN (npt P t (NL P))).toInt64
      obtain ⟨M3, e3, r3, x3⟩ := tell7 r2 (by simp) (zN (rgs P t (NL P))).toInt64
      have n3 := MNow_X (MNow_X (MNow_w n1) x2) x3
      have s3 := MSet_X (MSet_X (MSet_4 s1) x2) x3
      have eo := endOf7 hP n3 s3 ht
      refine ⟨M3, ?_, MI_q hM (mq_trans (mq_w (by omega)) (mq_trans (mq_MS f1) (mq_trans (mq_w (by omega)) (mq_trans (mq_X x2) (mq_X x3))))) n3 r3⟩
      have ct := cntT_pl P ht (NL P)
      have key := ends7L (P := P) (L := pl P (NL P)) ht hlen (fun q hq => (pl_3 P _ q hq).1) k0 s1.1.2.2.2.1 (fun a s => (fX7_tell (zN a).toInt64 (wr M1 158 4 (zN 0))).bind fun q2 => (fX7_tell (zN s).toInt64 q2).bind fun q3 => (fX7_endOf (zN t) q3).bind fun q4 => some (q4.1, q4.2)) (fun n a s => by
        rw [fX7_ends_25]; simp (disch := omega) only [wr_cj, wr_nj, rng_in, rng_out, zN_lit, zN_add, zN_mul, zN_sub, zN_ltT, zN_ltF, zN_leT, zN_leF, zN_eqT, zN_eqF, zN_lt, zN_le, zN_eq, zN_nat, zN_oobF, Option.bind_some, ↓reduceIte, Nat.one_mul, Nat.zero_add, Nat.add_zero, Nat.reduceAdd, Nat.reduceMul, Nat.reduceSub, Nat.reduceLT, Nat.reduceLeDiff, Nat.reduceEqDiff, reduceCtorEq, true_or, or_true, false_or, or_false, true_and, and_true, false_and, and_false, not_true_eq_false, not_false_eq_true, wr_2, wrL_1, zm_eqF, zm_eqF', zm_lt, zm_lt', zm_le, zm_le', zm_sub1, zN_01, Nat.mul_zero, Nat.zero_mul, Nat.mul_one, Nat.sub_zero, Nat.sub_self, Nat.add_sub_cancel, k0]) _ 0 zFU 0 0 rfl (Nat.zero_le _) (by rw [zFU_eq]; omega)
      rw [List.drop_zero, ct.1, ct.2, Nat.zero_add, Nat.zero_add] at key
      unfold fX7_ends; simp (disch := omega) only [wr_cj, wr_nj, rng_in, rng_out, zN_lit, zN_add, zN_mul, zN_sub, zN_ltT, zN_ltF, zN_leT, zN_leF, zN_eqT, zN_eqF, zN_lt, zN_le, zN_eq, zN_nat, zN_oobF, Option.bind_some, ↓reduceIte, Nat.one_mul, Nat.zero_add, Nat.add_zero, Nat.reduceAdd, Nat.reduceMul, Nat.reduceSub, Nat.reduceLT, Nat.reduceLeDiff, Nat.reduceEqDiff, reduceCtorEq, true_or, or_true, false_or, or_false, true_and, and_true, false_and, and_false, not_true_eq_false, not_false_eq_true, wr_2, wrL_1, zm_eqF, zm_eqF', zm_lt, zm_lt', zm_le, zm_le', zm_sub1, zN_01, Nat.mul_zero, Nat.zero_mul, Nat.mul_one, Nat.sub_zero, Nat.sub_self, Nat.add_sub_cancel, it, e1]
      rw [key]; simp (disch := omega) only [wr_cj, wr_nj, rng_in, rng_out, zN_lit, zN_add, zN_mul, zN_sub, zN_ltT, zN_ltF, zN_leT, zN_leF, zN_eqT, zN_eqF, zN_lt, zN_le, zN_eq, zN_nat, zN_oobF, Option.bind_some, ↓reduceIte, Nat.one_mul, Nat.zero_add, Nat.add_zero, Nat.reduceAdd, Nat.reduceMul, Nat.reduceSub, Nat.reduceLT, Nat.reduceLeDiff, Nat.reduceEqDiff, reduceCtorEq, true_or, or_true, false_or, or_false, true_and, and_true, false_and, and_false, not_true_eq_false, not_false_eq_true, wr_2, wrL_1, zm_eqF, zm_eqF', zm_lt, zm_lt', zm_le, zm_le', zm_sub1, zN_01, Nat.mul_zero, Nat.zero_mul, Nat.mul_one, Nat.sub_zero, Nat.sub_self, Nat.add_sub_cancel, e2, e3, eo]
  · refine ⟨-zN 1, P, T, R, U, K, hw, CD_no (fun M hM => ?_), MD_no (fun M hM => ?_)⟩
    · have := (h M).1
      unfold fX6_ends; simp (disch := omega) only [wr_cj, wr_nj, rng_in, rng_out, zN_lit, zN_add, zN_mul, zN_sub, zN_ltT, zN_ltF, zN_leT, zN_leF, zN_eqT, zN_eqF, zN_lt, zN_le, zN_eq, zN_nat, zN_oobF, Option.bind_some, ↓reduceIte, Nat.one_mul, Nat.zero_add, Nat.add_zero, Nat.reduceAdd, Nat.reduceMul, Nat.reduceSub, Nat.reduceLT, Nat.reduceLeDiff, Nat.reduceEqDiff, reduceCtorEq, true_or, or_true, false_or, or_false, true_and, and_true, false_and, and_false, not_true_eq_false, not_false_eq_true, wr_2, wrL_1, zm_eqF, zm_eqF', zm_lt, zm_lt', zm_le, zm_le', zm_sub1, zN_01, Nat.mul_zero, Nat.zero_mul, Nat.mul_one, Nat.sub_zero, Nat.sub_self, Nat.add_sub_cancel, this]
    · have := (h (wr M 158 5 (zN 0))).2
      unfold fX7_ends; simp (disch := omega) only [wr_cj, wr_nj, rng_in, rng_out, zN_lit, zN_add, zN_mul, zN_sub, zN_ltT, zN_ltF, zN_leT, zN_leF, zN_eqT, zN_eqF, zN_lt, zN_le, zN_eq, zN_nat, zN_oobF, Option.bind_some, ↓reduceIte, Nat.one_mul, Nat.zero_add, Nat.add_zero, Nat.reduceAdd, Nat.reduceMul, Nat.reduceSub, Nat.reduceLT, Nat.reduceLeDiff, Nat.reduceEqDiff, reduceCtorEq, true_or, or_true, false_or, or_false, true_and, and_true, false_and, and_false, not_true_eq_false, not_false_eq_true, wr_2, wrL_1, zm_eqF, zm_eqF', zm_lt, zm_lt', zm_le, zm_le', zm_sub1, zN_01, Nat.mul_zero, Nat.zero_mul, Nat.mul_one, Nat.sub_zero, Nat.sub_self, Nat.add_sub_cancel, this]
theorem call_apart : Cll fX6_apart fX7_apart := by
  refine Cll_of (fun P T R U K hw => ?_)
  have hP := hw.1
  have hU := hw.2.2.2.1.1
  refine ⟨zN (apt P), P, T, [(oI (ed P false)).toInt64, (oI (ed P true)).toInt64], U, K, WF_R hw (by simp), fun M hM => ?_, fun M hM => ?_⟩
  · obtain ⟨M1, e1, s1, l1, f1⟩ := cset0 hP (b := 0) (by omega) hM.1
    have fl := firstLast4 hP l1 s1
    obtain ⟨M2, e2, r2, y2⟩ := tell2 (oI (ed P false)).toInt64 (oI (ed P true)).toInt64 M1
    have ea := endsApart4 hP (Leaf_Y l1 (by omega) y2) (CSet_Y s1 y2)
    refine ⟨M2, ?_, CI_q hM hU (cq_trans (cq_set f1) (cq_Y y2)) (Leaf_Y l1 (by omega) y2) r2⟩
    unfold fX6_apart
    simp only [e1, fl.1, fl.2, e2, ea, Option.bind_some]
  · have h0 := MNow_w (j := 5) (v := zN 0) hM.1
    obtain ⟨M1, e1, s1, n1, f1⟩ := mset0 hP h0
    have a1 := ender7 hP (MNow_w (j := 4) (v := zN 0) n1) (MSet_4 s1) false
    obtain ⟨M2, e2, r2, x2⟩ := tell7 (MR_nil M1) (by simp) (oI (ed P false)).toInt64
    have n2 := MNow_X (MNow_w n1) x2
    have s2 := MSet_X (MSet_4 s1) x2
    have a2 := ender7 hP n2 s2 true
    obtain ⟨M3, e3, r3, x3⟩ := tell7 r2 (by simp) (oI (ed P true)).toInt64
    have n3 := MNow_X n2 x3
    have s3 := MSet_X s2 x3
    have a3 := apartOf7 hP n3 s3
    simp only [if_true, if_false, Bool.false_eq_true] at a1 a2
    refine ⟨M3, ?_, MI_q hM (mq_trans (mq_w (by omega)) (mq_trans (mq_MS f1) (mq_trans (mq_w (by omega)) (mq_trans (mq_X x2) (mq_X x3))))) n3 r3⟩
    unfold fX7_apart
    simp only [zN_lit, e1, a1, e2, a2, e3, a3, Option.bind_some]
theorem cost_c {P : Nat → Nat} {T : List Nat} {R : List Int64} {U : List (Nat → Nat)} {K : Nat → Option (Nat → Nat)} (hw : WF P T R U K) : CD fX6_cost P T R U K (zN (cst P)) P T [(zN (apt P)).toInt64, (zN (nbr P (P 218))).toInt64, (zN (rga P)).toInt64] U K := by
  have hP := hw.1
  have hU := hw.2.2.2.1.1
  intro M hM
  obtain ⟨M1, e1, s1, l1, f1⟩ := cset0 hP (b := 0) (by omega) hM.1
  have a1 := endsApart4 hP l1 s1
  have a2 := brokenTies4 hP l1 s1
  have a3 := raggedInAll4 s1
  obtain ⟨M2, e2, r2, y2⟩ := tell3 (zN (apt P)).toInt64 (zN (nbr P (P 218))).toInt64 (zN (rga P)).toInt64 M1
  have ea := costOf4 hP (Leaf_Y l1 (by omega) y2) (CSet_Y s1 y2)
  refine ⟨M2, ?_, CI_q hM hU (cq_trans (cq_set f1) (cq_Y y2)) (Leaf_Y l1 (by omega) y2) r2⟩
  unfold fX6_cost
  rw [e1, Option.bind_some, a1, Option.bind_some, a2, Option.bind_some, a3, Option.bind_some, e2, Option.bind_some, ea]
  rfl
theorem cost_m {P : Nat → Nat} {T : List Nat} {R : List Int64} {U : List (Nat → Nat)} {K : Nat → Option (Nat → Nat)} (hw : WF P T R U K) : MD fX7_cost P T R U K (zN (cst P)) P T [(zN (apt P)).toInt64, (zN (nbr P (P 218))).toInt64, (zN (rga P)).toInt64] U K := by
  have hP := hw.1
  have hU := hw.2.2.2.1.1
  intro M hM
  have h0 := MNow_w (j := 5) (v := zN 0) hM.1
  obtain ⟨M1, e1, s1, f1⟩ := costNow7 hP h0
  have n1 := MNow_fr h0 f1
  have a1 := apartOf7 hP (MNow_w (j := 4) (v := zN 0) n1) (MSet_4 s1)
  obtain ⟨M2, e2, r2, x2⟩ := tell7 (MR_nil M1) (by simp) (zN (apt P)).toInt64
  have n2 := MNow_X (MNow_w n1) x2
  have s2 := MSet_X (MSet_4 s1) x2
  have a2 := brokenMany7 hP n2 s2
  obtain ⟨M3, e3, r3, x3⟩ := tell7 r2 (by simp) (zN (nbr P (P 218))).toInt64
  have n3 := MNow_X n2 x3
  have s3 := MSet_X s2 x3
  have a3 := raggedAll7 hP s3
  obtain ⟨M4, e4, r4, x4⟩ := tell7 r3 (by simp) (zN (rga P)).toInt64
  have n4 := MNow_X n3 x4
  refine ⟨M4, ?_, MI_q hM (mq_trans (mq_w (by omega)) (mq_trans (mq_MS f1) (mq_trans (mq_w (by omega)) (mq_trans (mq_X x2) (mq_trans (mq_X x3) (mq_X x4)))))) n4 (MR3 r4)⟩
  unfold fX7_cost
  simp only [zN_lit, e1, a1, e2, a2, e3, a3, e4, Option.bind_some]

theorem call_cost : Cll fX6_cost fX7_cost := Cll_of (fun P T R U K hw => ⟨_, _, _, _, _, _, WF_R hw (by simp), cost_c hw, cost_m hw⟩)
