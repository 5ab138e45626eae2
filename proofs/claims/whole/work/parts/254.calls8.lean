/-! the model goes through the grid -/
def GS (P : Nat → Nat) (b : Nat × Nat × Nat × Nat × Nat) (a : Nat × Nat × Nat × Nat) (M : zMM) : Prop := (∃ c i o, MNow M (plP P c i o)) ∧ AS P M ∧ GB b M ∧ GN a M
def GH (c j : Nat) : Prop := GF c j ∨ c = 159
theorem vN_le (P : Nat → Nat) (n : Nat) (p : Nat × Nat × Nat) (a : Nat × Nat × Nat × Nat) : (vN P n p a).1 ≤ a.1 + 1 := by
  unfold vN; split
  · split
    · next h => show 1 ≤ a.1 + 1; omega
    · exact Nat.le_refl _
  · omega
theorem fB_1 (P : Nat → Nat) : ∀ L b, (fB P L b).1 = b.1 + L.length := by
  intro L
  induction L with
  | nil => intro b; rfl
  | cons p L ih => intro b; rw [fB, ih, vB_1, List.length_cons]; omega
theorem fN_le (P : Nat → Nat) (n : Nat) : ∀ L a, (fN P n L a).1 ≤ a.1 + L.length := by
  intro L
  induction L with
  | nil => intro b; exact Nat.le_refl _
  | cons p L ih => intro b; rw [fN, List.length_cons]; have := ih (vN P n p b); have := vN_le P n p b; omega
theorem oL_ok (P : Nat → Nat) (s c i o : Nat) : ∀ p ∈ oL P s c i o, pOK P p.1 p.2.1 p.2.2 := by
  have : ∀ f o, ∀ p ∈ oLf P s c i f o, pOK P p.1 p.2.1 p.2.2 := by
    intro f
    induction f with
    | zero => intro o p hp; exact absurd hp (by simp [oLf])
    | succ f ih =>
      intro o p hp
      rw [oLf] at hp
      by_cases h : pB P c i o = true
      · rw [if_pos h] at hp
        rcases List.mem_cons.mp hp with e | e
        · rw [e]; unfold pB at h; rw [decide_eq_true_eq] at h; exact h
        · exact ih _ p e
      · rw [if_neg h] at hp; exact absurd hp (by simp)
  exact this 41 o
theorem iL_ok (P : Nat → Nat) (s c i : Nat) : ∀ p ∈ iL P s c i, pOK P p.1 p.2.1 p.2.2 := by
  have : ∀ f i, ∀ p ∈ iLf P s c f i, pOK P p.1 p.2.1 p.2.2 := by
    intro f
    induction f with
    | zero => intro o p hp; exact absurd hp (by simp [iLf])
    | succ f ih =>
      intro i p hp
      rw [iLf] at hp
      by_cases h : 40 < i
      · rw [if_pos h] at hp; exact absurd hp (by simp)
      · rw [if_neg h] at hp
        rcases List.mem_append.mp hp with e | e
        · exact oL_ok P s c i 9 p e
        · exact ih _ p e
  exact this 41 i
theorem fB_ok {P : Nat → Nat} (hP : Good P) : ∀ L b, (∀ p ∈ L, pOK P p.1 p.2.1 p.2.2) → okB P b → okB P (fB P L b) := by
  intro L
  induction L with
  | nil => intro b _ h; exact h
  | cons p L ih =>
    intro b hp h
    exact ih _ (fun q hq => hp q (List.mem_cons_of_mem _ hq)) (vB_ok hP (c := p.1) (i := p.2.1) (o := p.2.2) (hp p (by simp)) h)
theorem gg38 {P : Nat → Nat} (hP : Good P) {s n m : Nat} (hs : s ≤ 8) (hn : n ≤ 99) (K17 : Int32 → zMM → Option zMM) (K27 : Int32 → Int32 → zMM → Option zMM) {c i : Nat} (hc : c ≤ 9) (hi : i ≤ 100) : ∀ f o b a M fuel, 41 - o = f → 9 ≤ o → o ≤ 100 → f < fuel → GS P b a M → okB P b → b.1 + f < 90000 → a.1 + f < 90000 →
    ∃ M', fX7_goGrid_38 K17 K27 (zN m) (zN (s + 1)) (zN n) fuel (zN c) (zN i) (zN o) M = K27 (zN c) (zN (i + (s + 1))) M' ∧ GS P (fB P (oL P s c i o) b) (fN P n (oL P s c i o) a) M' ∧ fr GH M M' := by
  intro f
  have hp := hP.1
  induction f using Nat.strongRecOn with
  | ind f ih =>
    intro o b a M fuel hf ho ho2 hfu hS ok hb ha
    obtain ⟨fu, rfl⟩ : ∃ q, fuel = q + 1 := ⟨fuel - 1, by omega⟩
    obtain ⟨⟨c0, i0, o0, hM⟩, hA, hB, hN⟩ := hS
    have cb := canBe7 (pl_b hP c0 i0 o0) hM (c := c) (i := i) (o := o) (by omega) (by omega) (by omega)
    rw [pOK_pl] at cb
    have is1 : zN i + zN (s + 1) = zN (i + (s + 1)) := zN_add _ _
    have os1 : zN o + zN (s + 1) = zN (o + (s + 1)) := zN_add _ _
    by_cases k : pOK P c i o
    · have e1 := cb.1 k
      have k' := k
      unfold pOK at k'
      have n1 := MNow_pl (c := c) (i := i) (o := o) hM
      rw [plP_plP] at n1
      have f0 := fr_pl7 M (zN c) (zN i) (zN o)
      obtain ⟨M2, e2, gb2, gn2, f2⟩ := try7 (n := n) hP hn k n1 (GB_fr hB (fun c j a => f0.1 c j (by omega))) (GN_fr hN (fun c j a => f0.1 c j (by omega))) ok (by omega) (by omega)
      have hS2 : GS P (vB P (c, i, o) b) (vN P n (c, i, o) a) M2 := by
        refine ⟨⟨c, i, o, fun j hj => by rw [f2.1 _ _ (by unfold GF MS; omega)]; exact n1 j hj⟩, ?_, gb2, gn2⟩
        exact AS_fr (AS_fr hA f0 (fun j a => by omega)) f2 (fun j a => by unfold GF MS at a; omega)
      have hv := vN_le P n (c, i, o) a
      obtain ⟨M3, e3, g3, f3⟩ := ih (41 - (o + (s + 1))) (by omega) (o + (s + 1)) (vB P (c, i, o) b) (vN P n (c, i, o) a) M2 fu rfl (by omega) (by omega) (by omega) hS2 (vB_ok hP k ok) (by rw [vB_1]; omega) (by omega)
      refine ⟨M3, ?_, ?_, fr_trans (fr_mono f0 (fun c j a => Or.inr a)) (fr_trans (fr_mono f2 (fun c j a => Or.inl a)) f3)⟩
      · rw [fX7_goGrid_38, e1, Option.bind_some, if_neg nz10']
        unfold fX7_putPlan
        rw [Option.bind_some, e2, Option.bind_some, os1]; exact e3
      · rw [oL_t k]; exact g3
    · have e1 := cb.2 k
      refine ⟨M, ?_, ?_, fr_refl _ _⟩
      · rw [fX7_goGrid_38, e1, Option.bind_some, is1]
        exact if_pos rfl
      · rw [oL_f k]; exact ⟨⟨c0, i0, o0, hM⟩, hA, hB, hN⟩
theorem gg27 {P : Nat → Nat} (hP : Good P) {s n m : Nat} (hs : s ≤ 8) (hn : n ≤ 99) (K17 : Int32 → zMM → Option zMM) {c : Nat} (hc : c ≤ 9) : ∀ f i b a M fuel, 41 - i = f → 9 ≤ i → i ≤ 100 → f < fuel → GS P b a M → okB P b → b.1 + 32 * f < 80000 → a.1 + 32 * f < 80000 →
    ∃ M', fX7_goGrid_27 K17 (zN m) (zN (s + 1)) (zN n) fuel (zN c) (zN i) M = K17 (zN (c + 1)) M' ∧ GS P (fB P (iL P s c i) b) (fN P n (iL P s c i) a) M' ∧ fr GH M M' := by
  intro f
  induction f using Nat.strongRecOn with
  | ind f ih =>
    intro i b a M fuel hf hi hi2 hfu hS ok hb ha
    obtain ⟨fu, rfl⟩ : ∃ q, fuel = q + 1 := ⟨fuel - 1, by omega⟩
    have c1 : zN c + 1 = zN (c + 1) := zN_add c 1
    by_cases k : 40 < i
    · refine ⟨M, ?_, by rw [iL_f k]; exact hS, fr_refl _ _⟩
      rw [fX7_goGrid_27, if_pos (show (40 : Int32) < zN i by show zN 40 < zN i; rw [zN_ltT (by omega)]; trivial), c1]
    · obtain ⟨M1, e1, g1, f1⟩ := gg38 hP (m := m) hs hn K17 (fX7_goGrid_27 K17 (zN m) (zN (s + 1)) (zN n) fu) hc (i := i) (by omega) 32 9 b a M zFU rfl (by omega) (by omega) (by rw [zFU_eq]; omega) hS ok (by omega) (by omega)
      have l1 := oL_len P s c i 9
      have b1 := fB_1 P (oL P s c i 9) b
      have a1 := fN_le P n (oL P s c i 9) a
      obtain ⟨M2, e2, g2, f2⟩ := ih (41 - (i + (s + 1))) (by omega) (i + (s + 1)) _ _ M1 fu rfl (by omega) (by omega) (by omega) g1 (fB_ok hP _ _ (oL_ok P s c i 9) ok) (by omega) (by omega)
      refine ⟨M2, ?_, ?_, fr_trans f1 f2⟩
      · rw [fX7_goGrid_27, if_neg (show ¬ (40 : Int32) < zN i by show ¬ zN 40 < zN i; rw [zN_ltF (by omega)]; exact id)]
        exact e1.trans e2
      · rw [iL_t (by omega), fB_app, fN_app]; exact g2
set_option maxRecDepth 20000 in
theorem gg17 {P : Nat → Nat} (hP : Good P) {s n m : Nat} (hs : s ≤ 8) (hn : n ≤ 99) (hm : m ≤ 9) : ∀ f c b a M fuel, m + 1 - c = f → c ≤ m + 1 → f < fuel → GS P b a M → okB P b → b.1 + 1024 * f < 40000 → a.1 + 1024 * f < 40000 →
    ∃ M', fX7_goGrid_17 (zN m) (zN (s + 1)) (zN n) fuel (zN c) M = ((fX7_comesBack M').bind fun q2 => some q2) ∧ GS P (fB P (cL P s m c) b) (fN P n (cL P s m c) a) M' ∧ fr GH M M' := by
  intro f
  induction f with
  | zero =>
    intro c b a M fuel hf hc hfu hS ok hb ha
    obtain ⟨fu, rfl⟩ : ∃ q, fuel = q + 1 := ⟨fuel - 1, by omega⟩
    refine ⟨M, ?_, by rw [cL_f (by omega)]; exact hS, fr_refl _ _⟩
    rw [fX7_goGrid_17]
    exact if_pos (by rw [zN_ltT (by omega)]; trivial)
  | succ f ih =>
    intro c b a M fuel hf hc hfu hS ok hb ha
    obtain ⟨fu, rfl⟩ : ∃ q, fuel = q + 1 := ⟨fuel - 1, by omega⟩
    have hb' : b.1 + 1024 < 80000 := by rw [Nat.mul_succ] at hb; omega
    have ha' : a.1 + 1024 < 80000 := by rw [Nat.mul_succ] at ha; omega
    obtain ⟨M1, e1, g1, f1⟩ := gg27 hP (m := m) hs hn (fX7_goGrid_17 (zN m) (zN (s + 1)) (zN n) fu) (c := c) (by omega) 32 9 b a M zFU rfl (by omega) (by omega) (by rw [zFU_eq]; omega) hS ok hb' ha'
    have l1 := iL_len P s c 9
    have b1 := fB_1 P (iL P s c 9) b
    have a1 := fN_le P n (iL P s c 9) a
    obtain ⟨M2, e2, g2, f2⟩ := ih (c + 1) _ _ M1 fu (by omega) (by omega) (by omega) g1 (fB_ok hP _ _ (iL_ok P s c 9) ok) (by omega) (by omega)
    refine ⟨M2, ?_, ?_, fr_trans f1 f2⟩
    · rw [fX7_goGrid_17, if_neg (show ¬ zN m < zN c by rw [zN_ltF (by omega)]; exact id)]
      exact e1.trans e2
    · rw [cL_t (by omega), fB_app, fN_app]; exact g2
theorem goGrid7 {P : Nat → Nat} (hP : Good P) {s n m : Nat} (hs : s ≤ 8) (hn : n ≤ 99) (hm : m ≤ 9) {M : zMM} (hM : MNow M P) :
    ∃ M', fX7_goGrid (zN m) (zN (s + 1)) (zN n) M = some M' ∧ MNow M' P ∧ GB (fB P (cL P s m 0) (0, 0, 0, 0, 0)) M' ∧ GN (fN P n (cL P s m 0) (0, 0, 0, 0)) M' ∧ fr (fun c j => GH c j ∨ c = 166) M M' := by
  obtain ⟨M1, e1, as1, n1, f1⟩ := aside7 hM
  rw [← plP_self P] at n1
  have f2 : fr (fun c j => GH c j ∨ c = 166) M1 (wr (wr M1 158 19 (zN 0)) 158 20 (zN 0)) := fr_wr (fr_wr (fr_refl _ _) (by unfold GH GF; omega)) (by unfold GH GF; omega)
  obtain ⟨M3, e3, g3, f3⟩ := gg17 hP hs hn hm (m + 1) 0 (0, 0, 0, 0, 0) (0, 0, 0, 0) (wr (wr M1 158 19 (zN 0)) 158 20 (zN 0)) zFU rfl (by omega) (by rw [zFU_eq]; omega) ⟨⟨_, _, _, MNow_w (MNow_w n1)⟩, AS_w (AS_w as1 (by omega)) (by omega), ⟨by rw [wr_nj (by omega), wr_cj], fun h => absurd h (by omega)⟩, ⟨by rw [wr_cj], fun h => absurd h (by omega)⟩⟩ (fun h => absurd h (by omega)) (by omega) (by omega)
  obtain ⟨-, as3, gb, gn⟩ := g3
  obtain ⟨M4, e4, n4, f4⟩ := back7 as3
  refine ⟨M4, ?_, n4, GB_fr gb (fun c j a => f4.1 c j (by omega)), GN_fr gn (fun c j a => f4.1 c j (by omega)), fr_trans (fr_mono f1 (fun c j a => Or.inr a)) (fr_trans f2 (fr_trans (fr_mono f3 (fun c j a => Or.inl a)) (fr_mono f4 (fun c j a => Or.inl (Or.inr a)))))⟩
  unfold fX7_goGrid
  simp only [zN_lit]
  rw [e1, Option.bind_some, e3, e4]; rfl
theorem mq_G {M M' : zMM} (f : fr (fun c j => GH c j ∨ c = 166) M M') : mq M M' := mq_fr f (fun c j a => by unfold GH GF MS at a; unfold MSc; omega)
theorem MR_G {R : List Int64} {M M' : zMM} (h : MR R M) (f : fr (fun c j => GH c j ∨ c = 166) M M') : MR R M' := MR_q h f (by unfold GH GF MS; omega)
/-- what a grid can be -/
theorem grid_case (x y : Int32) : (∃ m s, m ≤ 9 ∧ s ≤ 8 ∧ x = zN m ∧ y = zN (s + 1) ∧ (∀ M, fX6_isGrid x y M = some (zN 1, M)) ∧ (∀ M, fX7_isGrid x y M = some (zN 1, M))) ∨ ((∀ M, fX6_isGrid x y M = some (zN 0, M)) ∧ (∀ M, fX7_isGrid x y M = some (zN 0, M))) := by
  rcases zcaseR x 0 9 with ⟨m, -, hm, rfl⟩ | hx | ⟨m, hm, rfl, hmn⟩
  · rcases zcaseR y 1 9 with ⟨s, s1, s2, rfl⟩ | hy | ⟨s, hs, rfl, hsn⟩
    · left
      obtain ⟨s, rfl⟩ : ∃ q, s = q + 1 := ⟨s - 1, by omega⟩
      refine ⟨m, s, hm, by omega, rfl, rfl, fun M => ?_, fun M => ?_⟩
      · unfold fX6_isGrid; simp (disch := omega) only [wr_cj, wr_nj, rng_in, rng_out, zN_lit, zN_add, zN_mul, zN_sub, zN_ltT, zN_ltF, zN_leT, zN_leF, zN_eqT, zN_eqF, zN_lt, zN_le, zN_eq, zN_nat, zN_oobF, Option.bind_some, ↓reduceIte, Nat.one_mul, Nat.zero_add, Nat.add_zero, Nat.reduceAdd, Nat.reduceMul, Nat.reduceSub, Nat.reduceLT, Nat.reduceLeDiff, Nat.reduceEqDiff, reduceCtorEq, true_or, or_true, false_or, or_false, true_and, and_true, false_and, and_false, not_true_eq_false, not_false_eq_true, wr_2, wrL_1, zm_eqF, zm_eqF', zm_lt, zm_lt', zm_le, zm_le', zm_sub1, zN_01, Nat.mul_zero, Nat.zero_mul, Nat.mul_one, Nat.sub_zero, Nat.sub_self, Nat.add_sub_cancel]
      · have t1 := in7T (a := m) (lo := 0) (hi := 9) (by omega) M
        have t2 := in7T (a := s + 1) (lo := 1) (hi := 9) (by omega) M
        unfold fX7_isGrid; simp (disch := omega) only [wr_cj, wr_nj, rng_in, rng_out, zN_lit, zN_add, zN_mul, zN_sub, zN_ltT, zN_ltF, zN_leT, zN_leF, zN_eqT, zN_eqF, zN_lt, zN_le, zN_eq, zN_nat, zN_oobF, Option.bind_some, ↓reduceIte, Nat.one_mul, Nat.zero_add, Nat.add_zero, Nat.reduceAdd, Nat.reduceMul, Nat.reduceSub, Nat.reduceLT, Nat.reduceLeDiff, Nat.reduceEqDiff, reduceCtorEq, true_or, or_true, false_or, or_false, true_and, and_true, false_and, and_false, not_true_eq_false, not_false_eq_true, wr_2, wrL_1, zm_eqF, zm_eqF', zm_lt, zm_lt', zm_le, zm_le', zm_sub1, zN_01, Nat.mul_zero, Nat.zero_mul, Nat.mul_one, Nat.sub_zero, Nat.sub_self, Nat.add_sub_cancel, t1, t2]
    · right
      refine ⟨fun M => ?_, fun M => ?_⟩
      · unfold fX6_isGrid; simp (disch := omega) only [wr_cj, wr_nj, rng_in, rng_out, zN_lit, zN_add, zN_mul, zN_sub, zN_ltT, zN_ltF, zN_leT, zN_leF, zN_eqT, zN_eqF, zN_lt, zN_le, zN_eq, zN_nat, zN_oobF, Option.bind_some, ↓reduceIte, Nat.one_mul, Nat.zero_add, Nat.add_zero, Nat.reduceAdd, Nat.reduceMul, Nat.reduceSub, Nat.reduceLT, Nat.reduceLeDiff, Nat.reduceEqDiff, reduceCtorEq, true_or, or_true, false_or, or_false, true_and, and_true, false_and, and_false, not_true_eq_false, not_false_eq_true, wr_2, wrL_1, zm_eqF, zm_eqF', zm_lt, zm_lt', zm_le, zm_le', zm_sub1, zN_01, Nat.mul_zero, Nat.zero_mul, Nat.mul_one, Nat.sub_zero, Nat.sub_self, Nat.add_sub_cancel, zg_lt hy]
      · have t1 := in7T (a := m) (lo := 0) (hi := 9) (by omega) M
        have t2 := in7g hy (lo := 1) (by omega) (zN 9) M
        unfold fX7_isGrid; simp (disch := omega) only [wr_cj, wr_nj, rng_in, rng_out, zN_lit, zN_add, zN_mul, zN_sub, zN_ltT, zN_ltF, zN_leT, zN_leF, zN_eqT, zN_eqF, zN_lt, zN_le, zN_eq, zN_nat, zN_oobF, Option.bind_some, ↓reduceIte, Nat.one_mul, Nat.zero_add, Nat.add_zero, Nat.reduceAdd, Nat.reduceMul, Nat.reduceSub, Nat.reduceLT, Nat.reduceLeDiff, Nat.reduceEqDiff, reduceCtorEq, true_or, or_true, false_or, or_false, true_and, and_true, false_and, and_false, not_true_eq_false, not_false_eq_true, wr_2, wrL_1, zm_eqF, zm_eqF', zm_lt, zm_lt', zm_le, zm_le', zm_sub1, zN_01, Nat.mul_zero, Nat.zero_mul, Nat.mul_one, Nat.sub_zero, Nat.sub_self, Nat.add_sub_cancel, t1, t2]
    · right
      refine ⟨fun M => ?_, fun M => ?_⟩
      · unfold fX6_isGrid
        by_cases c : s < 1
        · simp (disch := omega) only [wr_cj, wr_nj, rng_in, rng_out, zN_lit, zN_add, zN_mul, zN_sub, zN_ltT, zN_ltF, zN_leT, zN_leF, zN_eqT, zN_eqF, zN_lt, zN_le, zN_eq, zN_nat, zN_oobF, Option.bind_some, ↓reduceIte, Nat.one_mul, Nat.zero_add, Nat.add_zero, Nat.reduceAdd, Nat.reduceMul, Nat.reduceSub, Nat.reduceLT, Nat.reduceLeDiff, Nat.reduceEqDiff, reduceCtorEq, true_or, or_true, false_or, or_false, true_and, and_true, false_and, and_false, not_true_eq_false, not_false_eq_true, wr_2, wrL_1, zm_eqF, zm_eqF', zm_lt, zm_lt', zm_le, zm_le', zm_sub1, zN_01, Nat.mul_zero, Nat.zero_mul, Nat.mul_one, Nat.sub_zero, Nat.sub_self, Nat.add_sub_cancel]
        · simp (disch := omega) only [wr_cj, wr_nj, rng_in, rng_out, zN_lit, zN_add, zN_mul, zN_sub, zN_ltT, zN_ltF, zN_leT, zN_leF, zN_eqT, zN_eqF, zN_lt, zN_le, zN_eq, zN_nat, zN_oobF, Option.bind_some, ↓reduceIte, Nat.one_mul, Nat.zero_add, Nat.add_zero, Nat.reduceAdd, Nat.reduceMul, Nat.reduceSub, Nat.reduceLT, Nat.reduceLeDiff, Nat.reduceEqDiff, reduceCtorEq, true_or, or_true, false_or, or_false, true_and, and_true, false_and, and_false, not_true_eq_false, not_false_eq_true, wr_2, wrL_1, zm_eqF, zm_eqF', zm_lt, zm_lt', zm_le, zm_le', zm_sub1, zN_01, Nat.mul_zero, Nat.zero_mul, Nat.mul_one, Nat.sub_zero, Nat.sub_self, Nat.add_sub_cancel]
      · have t1 := in7T (a := m) (lo := 0) (hi := 9) (by omega) M
        have t2 := in7F (a := s) (lo := 1) (hi := 9) (by omega) M
        unfold fX7_isGrid; simp (disch := omega) only [wr_cj, wr_nj, rng_in, rng_out, zN_lit, zN_add, zN_mul, zN_sub, zN_ltT, zN_ltF, zN_leT, zN_leF, zN_eqT, zN_eqF, zN_lt, zN_le, zN_eq, zN_nat, zN_oobF, Option.bind_some, ↓reduceIte, Nat.one_mul, Nat.zero_add, Nat.add_zero, Nat.reduceAdd, Nat.reduceMul, Nat.reduceSub, Nat.reduceLT, Nat.reduceLeDiff, Nat.reduceEqDiff, reduceCtorEq, true_or, or_true, false_or, or_false, true_and, and_true, false_and, and_false, not_true_eq_false, not_false_eq_true, wr_2, wrL_1, zm_eqF, zm_eqF', zm_lt, zm_lt', zm_le, zm_le', zm_sub1, zN_01, Nat.mul_zero, Nat.zero_mul, Nat.mul_one, Nat.sub_zero, Nat.sub_self, Nat.add_sub_cancel, t1, t2]
  · right
    refine ⟨fun M => ?_, fun M => ?_⟩
    · unfold fX6_isGrid; simp (disch := omega) only [wr_cj, wr_nj, rng_in, rng_out, zN_lit, zN_add, zN_mul, zN_sub, zN_ltT, zN_ltF, zN_leT, zN_leF, zN_eqT, zN_eqF, zN_lt, zN_le, zN_eq, zN_nat, zN_oobF, Option.bind_some, ↓reduceIte, Nat.one_mul, Nat.zero_add, Nat.add_zero, Nat.reduceAdd, Nat.reduceMul, Nat.reduceSub, Nat.reduceLT, Nat.reduceLeDiff, Nat.reduceEqDiff, reduceCtorEq, true_or, or_true, false_or, or_false, true_and, and_true, false_and, and_false, not_true_eq_false, not_false_eq_true, wr_2, wrL_1, zm_eqF, zm_eqF', zm_lt, zm_lt', zm_le, zm_le', zm_sub1, zN_01, Nat.mul_zero, Nat.zero_mul, Nat.mul_one, Nat.sub_zero, Nat.sub_self, Nat.add_sub_cancel, zg_lt hx]
    · have t1 := in7g hx (lo := 0) (by omega) (zN 9) M
      unfold fX7_isGrid; simp (disch := omega) only [wr_cj, wr_nj, rng_in, rng_out, zN_lit, zN_add, zN_mul, zN_sub, zN_ltT, zN_ltF, zN_leT, zN_leF, zN_eqT, zN_eqF, zN_lt, zN_le, zN_eq, zN_nat, zN_oobF, Option.bind_some, ↓reduceIte, Nat.one_mul, Nat.zero_add, Nat.add_zero, Nat.reduceAdd, Nat.reduceMul, Nat.reduceSub, Nat.reduceLT, Nat.reduceLeDiff, Nat.reduceEqDiff, reduceCtorEq, true_or, or_true, false_or, or_false, true_and, and_true, false_and, and_false, not_true_eq_false, not_false_eq_true, wr_2, wrL_1, zm_eqF, zm_eqF', zm_lt, zm_lt', zm_le, zm_le', zm_sub1, zN_01, Nat.mul_zero, Nat.zero_mul, Nat.mul_one, Nat.sub_zero, Nat.sub_self, Nat.add_sub_cancel, t1]
  · right
    refine ⟨fun M => ?_, fun M => ?_⟩
    · unfold fX6_isGrid; simp (disch := omega) only [wr_cj, wr_nj, rng_in, rng_out, zN_lit, zN_add, zN_mul, zN_sub, zN_ltT, zN_ltF, zN_leT, zN_leF, zN_eqT, zN_eqF, zN_lt, zN_le, zN_eq, zN_nat, zN_oobF, Option.bind_some, ↓reduceIte, Nat.one_mul, Nat.zero_add, Nat.add_zero, Nat.reduceAdd, Nat.reduceMul, Nat.reduceSub, Nat.reduceLT, Nat.reduceLeDiff, Nat.reduceEqDiff, reduceCtorEq, true_or, or_true, false_or, or_false, true_and, and_true, false_and, and_false, not_true_eq_false, not_false_eq_true, wr_2, wrL_1, zm_eqF, zm_eqF', zm_lt, zm_lt', zm_le, zm_le', zm_sub1, zN_01, Nat.mul_zero, Nat.zero_mul, Nat.mul_one, Nat.sub_zero, Nat.sub_self, Nat.add_sub_cancel]
    · have t1 := in7F (a := m) (lo := 0) (hi := 9) (by omega) M
      unfold fX7_isGrid; simp (disch := omega) only [wr_cj, wr_nj, rng_in, rng_out, zN_lit, zN_add, zN_mul, zN_sub, zN_ltT, zN_ltF, zN_leT, zN_leF, zN_eqT, zN_eqF, zN_lt, zN_le, zN_eq, zN_nat, zN_oobF, Option.bind_some, ↓reduceIte, Nat.one_mul, Nat.zero_add, Nat.add_zero, Nat.reduceAdd, Nat.reduceMul, Nat.reduceSub, Nat.reduceLT, Nat.reduceLeDiff, Nat.reduceEqDiff, reduceCtorEq, true_or, or_true, false_or, or_false, true_and, and_true, false_and, and_false, not_true_eq_false, not_false_eq_true, wr_2, wrL_1, zm_eqF, zm_eqF', zm_lt, zm_lt', zm_le, zm_le', zm_sub1, zN_01, Nat.mul_zero, Nat.zero_mul, Nat.mul_one, Nat.sub_zero, Nat.sub_self, Nat.add_sub_cancel, t1]
theorem call_best (x y : Int32) : Cll (fX6_best x y) (fX7_best x y) := by
  refine Cll_of (fun P T R U K hw => ?_)
  have hP := hw.1
  have hU := hw.2.2.2.1.1
  rcases grid_case x y with ⟨m, s, hm, hs, rfl, rfl, g6, g7⟩ | ⟨g6, g7⟩
  · obtain ⟨B, hBe⟩ : ∃ B, B = fB P (cL P s m 0) (0, 0, 0, 0, 0) := ⟨_, rfl⟩
    refine ⟨zN B.2.1, P, T, [(zN B.2.2.1).toInt64, (zN B.2.2.2.1).toInt64, (zN B.2.2.2.2).toInt64, (zN B.1).toInt64], U, K, WF_R hw (by simp), fun M hM => ?_, fun M hM => ?_⟩
    · obtain ⟨M1, e1, l1, f1⟩ := copy0 hP (b := 10) hM.1 (by omega)
      obtain ⟨M2, e2, lb, ok, hpos, f2⟩ := findBest3 hP hs hm l1
      rw [← hBe] at lb ok hpos
      obtain ⟨b4, bb⟩ := lb
      obtain ⟨b3, b0, b1, b2⟩ := bb hpos.1
      obtain ⟨M3, e3, r3, y3⟩ := tell4 (zN B.2.2.1).toInt64 (zN B.2.2.2.1).toInt64 (zN B.2.2.2.2).toInt64 (zN B.1).toInt64 M2
      have l0 : Leaf M3 0 P := Leaf_eq hM.1 (fun c j a b => by rw [y3.1 c j (by omega), f2.1 c j (by omega), f1.1 c j (by omega)])
      have k3 : M3.1 148 3 = zN B.2.1 := by rw [y3.1 _ _ (by omega)]; exact b3
      refine ⟨M3, ?_, CI_q hM hU (cq_trans (cq_leaf (by omega) f1) (cq_trans (cq_fr f2 (fun c j a => by unfold CW; omega)) (cq_Y y3))) l0 r3⟩
      unfold fX6_best
      rw [g6, Option.bind_some, if_neg nz10', e1, Option.bind_some, e2, Option.bind_some, b0, b1, b2, b4, e3, Option.bind_some, k3]
    · have h0 := MNow_w (j := 5) (v := zN 0) hM.1
      obtain ⟨M1, e1, n1, gb, gn, f1⟩ := goGrid7 hP hs (n := 0) (by omega) hm h0
      rw [← hBe] at gb
      have bpos : 0 < B.1 := by
        have hp := hP.1
        rw [hBe, rest_0 (by unfold pOK; omega), fB_1, List.length_cons]; omega
      obtain ⟨b19, bb⟩ := gb
      obtain ⟨b18, b0, b1, b2⟩ := bb bpos
      obtain ⟨M2, e2, r2, x2⟩ := tell7 (MR_nil M1) (by simp) (zN B.2.2.1).toInt64
      obtain ⟨M3, e3, r3, x3⟩ := tell7 r2 (by simp) (zN B.2.2.2.1).toInt64
      obtain ⟨M4, e4, r4, x4⟩ := tell7 r3 (by simp) (zN B.2.2.2.2).toInt64
      obtain ⟨M5, e5, r5, x5⟩ := tell7 r4 (by simp) (zN B.1).toInt64
      have g0 : (wr M1 158 4 (zN 0)).1 167 0 = zN B.2.2.1 := by rw [wr_nj (by omega)]; exact b0
      have g1 : M2.1 167 1 = zN B.2.2.2.1 := by rw [x2.1 _ _ (by omega), wr_nj (by omega)]; exact b1
      have g2 : M3.1 167 2 = zN B.2.2.2.2 := by rw [x3.1 _ _ (by omega), x2.1 _ _ (by omega), wr_nj (by omega)]; exact b2
      have g3 : M4.1 158 19 = zN B.1 := by rw [x4.1 _ _ (by omega), x3.1 _ _ (by omega), x2.1 _ _ (by omega), wr_nj (by omega)]; exact b19
      have g4 : M5.1 158 18 = zN B.2.1 := by rw [x5.1 _ _ (by omega), x4.1 _ _ (by omega), x3.1 _ _ (by omega), x2.1 _ _ (by omega), wr_nj (by omega)]; exact b18
      refine ⟨M5, ?_, MI_q hM (mq_trans (mq_w (j := 5) (v := zN 0) (by omega)) (mq_trans (mq_G f1) (mq_trans (mq_w (j := 4) (v := zN 0) (by omega)) (mq_trans (mq_X x2) (mq_trans (mq_X x3) (mq_trans (mq_X x4) (mq_X x5))))))) (MNow_X (MNow_X (MNow_X (MNow_X (MNow_w n1) x2) x3) x4) x5) (MR4 r5)⟩
      have st : ∀ n l M v, l < 3 → M.1 167 l = v → fX7_best_29 (zN m) (zN (s + 1)) (n + 1) (zN l) M = (fX7_tell (Int32.toInt64 v) M).bind fun q4 => fX7_best_29 (zN m) (zN (s + 1)) n (zN (l + 1)) q4 := by
        intro n l M v hl hv
        rw [fX7_best_29]
        simp (disch := omega) only [wr_cj, wr_nj, rng_in, rng_out, zN_lit, zN_add, zN_mul, zN_sub, zN_ltT, zN_ltF, zN_leT, zN_leF, zN_eqT, zN_eqF, zN_lt, zN_le, zN_eq, zN_nat, zN_oobF, Option.bind_some, ↓reduceIte, Nat.one_mul, Nat.zero_add, Nat.add_zero, Nat.reduceAdd, Nat.reduceMul, Nat.reduceSub, Nat.reduceLT, Nat.reduceLeDiff, Nat.reduceEqDiff, reduceCtorEq, true_or, or_true, false_or, or_false, true_and, and_true, false_and, and_false, not_true_eq_false, not_false_eq_true, wr_2, wrL_1, zm_eqF, zm_eqF', zm_lt, zm_lt', zm_le, zm_le', zm_sub1, zN_01, Nat.mul_zero, Nat.zero_mul, Nat.mul_one, Nat.sub_zero, Nat.sub_self, Nat.add_sub_cancel, hv]
      have en : ∀ n M, fX7_best_29 (zN m) (zN (s + 1)) (n + 1) (zN (0 + 1 + 1 + 1)) M = (fX7_tell (Int32.toInt64 (M.1 158 19)) M).bind fun q2 => some ((q2.1 158 18), q2) := by
        intro n M
        rw [fX7_best_29]
        simp (disch := omega) only [wr_cj, wr_nj, rng_in, rng_out, zN_lit, zN_add, zN_mul, zN_sub, zN_ltT, zN_ltF, zN_leT, zN_leF, zN_eqT, zN_eqF, zN_lt, zN_le, zN_eq, zN_nat, zN_oobF, Option.bind_some, ↓reduceIte, Nat.one_mul, Nat.zero_add, Nat.add_zero, Nat.reduceAdd, Nat.reduceMul, Nat.reduceSub, Nat.reduceLT, Nat.reduceLeDiff, Nat.reduceEqDiff, reduceCtorEq, true_or, or_true, false_or, or_false, true_and, and_true, false_and, and_false, not_true_eq_false, not_false_eq_true, wr_2, wrL_1, zm_eqF, zm_eqF', zm_lt, zm_lt', zm_le, zm_le', zm_sub1, zN_01, Nat.mul_zero, Nat.zero_mul, Nat.mul_one, Nat.sub_zero, Nat.sub_self, Nat.add_sub_cancel]
      have gen : ∀ f, fX7_best_29 (zN m) (zN (s + 1)) (f + 1 + 1 + 1 + 1) (zN 0) (wr M1 158 4 (zN 0)) = some (zN B.2.1, M5) := by
        intro f
        rw [st _ 0 _ _ (by omega) g0, e2, Option.bind_some, st _ _ _ _ (by omega) g1, e3, Option.bind_some, st _ _ _ _ (by omega) g2, e4, Option.bind_some, en, g3, e5, Option.bind_some, g4]
      unfold fX7_best
      simp only [zN_lit]
      rw [g7, Option.bind_some, if_neg nz10, e1, Option.bind_some]
      exact gen 2147483644
  · refine ⟨-zN 1, P, T, R, U, K, hw, CD_no (fun M hM => ?_), MD_no (fun M hM => ?_)⟩
    · unfold fX6_best; rw [g6]; rfl
    · unfold fX7_best; rw [g7]; rfl
/-! near -/
theorem fn_step {P : Nat → Nat} (hP : Good P) {m s n c i o l fu : Nat} {b : Nat × Nat × Nat × Nat} {M : zMM} (hn : n ≤ 99) (k : pOK P c i o) (hL : Leaf M 10 (plP P c i o)) (hB : LN b M) (hb : b.1 ≤ l) (hl : l < 10240) :
    ∃ M1, fX3_findNear_20 10 (zN m) (zN (s + 1)) (zN n) (fu + 1) (zN 1) (zN l) M = ((fX0_toNextPlan 10 (zN m) (zN (s + 1)) M1).bind fun q1 => fX3_findNear_20 10 (zN m) (zN (s + 1)) (zN n) fu q1.1 (zN (l + 1)) q1.2) ∧ LN (vN P n (c, i, o) b) M1 ∧ Leaf M1 10 (plP P c i o) ∧ fr (fun c _ => 120 ≤ c ∧ c ≤ 148) M M1 := by
  have hQ := Good_pl hP k
  have k' := k
  unfold pOK at k'
  obtain ⟨M2, e2, s2, l2, f2⟩ := cset0 hQ (b := 10) (by omega) hL
  have co := endsApart4 hQ l2 s2
  have clt := apt_le hQ
  have hB2 := LN_fr hB (M' := M2) (fun j => f2.1 _ _ (by omega))
  have i1 : zN l + 1 = zN (l + 1) := zN_add l 1
  have f2' : fr (fun c _ => 120 ≤ c ∧ c ≤ 148) M M2 := fr_mono f2 (fun c j a => by omega)
  have head : fX3_findNear_20 10 (zN m) (zN (s + 1)) (zN n) (fu + 1) (zN 1) (zN l) M = (if zN n < zN (apt (plP P c i o)) then fX3_findNear_71 (fX3_findNear_20 10 (zN m) (zN (s + 1)) (zN n) fu) 10 (zN m) (zN (s + 1)) (zN n) (zN l) M2 else if M2.1 148 4 = 0 then (fX3_note 10 0 M2).bind fun q7 => fX3_findNear_61 (fX3_findNear_20 10 (zN m) (zN (s + 1)) (zN n) fu) 10 (zN m) (zN (s + 1)) (zN n) (zN l) q7 else fX3_findNear_61 (fX3_findNear_20 10 (zN m) (zN (s + 1)) (zN n) fu) 10 (zN m) (zN (s + 1)) (zN n) (zN l) M2) := by
    rw [fX3_findNear_20, if_neg (show ¬ zN 1 = 0 by decide), if_neg (show ¬ (10240 : Int32) ≤ zN l by show ¬ zN 10240 ≤ zN l; rw [zN_leF (by omega)]; exact id), e2, Option.bind_some, co, Option.bind_some]
  have e71 : ∀ (M' : zMM), fX3_findNear_71 (fX3_findNear_20 10 (zN m) (zN (s + 1)) (zN n) fu) 10 (zN m) (zN (s + 1)) (zN n) (zN l) M' = ((fX0_toNextPlan 10 (zN m) (zN (s + 1)) M').bind fun q1 => fX3_findNear_20 10 (zN m) (zN (s + 1)) (zN n) fu q1.1 (zN (l + 1)) q1.2) := by
    intro M'
    unfold fX3_findNear_71
    rw [i1]
  have e61 : ∀ (M' : zMM) (v : Nat), M'.1 148 4 = zN v → fX3_findNear_61 (fX3_findNear_20 10 (zN m) (zN (s + 1)) (zN n) fu) 10 (zN m) (zN (s + 1)) (zN n) (zN l) M' = ((fX0_toNextPlan 10 (zN m) (zN (s + 1)) (wr M' 148 4 (zN (v + 1)))).bind fun q1 => fX3_findNear_20 10 (zN m) (zN (s + 1)) (zN n) fu q1.1 (zN (l + 1)) q1.2) := by
    intro M' v hv
    have v1 : zN v + 1 = zN (v + 1) := zN_add v 1
    unfold fX3_findNear_61
    rw [hv, v1, e71]
  rw [head]
  unfold vN
  by_cases q : apt (plP P c i o) ≤ n
  · rw [if_neg (show ¬ zN n < zN (apt (plP P c i o)) by rw [zN_ltF (by omega)]; exact id), if_pos (show apt (plP P (c, i, o).1 (c, i, o).2.1 (c, i, o).2.2) ≤ n from q)]
    obtain ⟨b4, bb⟩ := hB2
    by_cases q0 : b.1 = 0
    · rw [if_pos q0, if_pos (show M2.1 148 4 = 0 by rw [b4, q0]; rfl)]
      have g3 : M2.1 10 3 = zN c := by have := l2.1.2.2.2.1; rw [plP_2] at this; exact this
      have g4 : M2.1 10 4 = zN i := by have := l2.1.2.2.2.2.1; rw [plP_3] at this; exact this
      have g5 : M2.1 10 5 = zN o := by have := l2.1.2.2.2.2.2.1; rw [plP_4] at this; exact this
      have en : fX3_note 10 0 M2 = some (wr (wr (wr (wr M2 148 0 (zN c)) 148 1 (zN i)) 148 2 (zN o)) 148 3 0) := by
        unfold fX3_note
        rw [g3, wr_nj (by omega), g4, wr_nj (by omega), wr_nj (by omega), g5]
      have f3 : fr (fun c _ => 120 ≤ c ∧ c ≤ 148) M (wr (wr (wr (wr (wr M2 148 0 (zN c)) 148 1 (zN i)) 148 2 (zN o)) 148 3 0) 148 4 (zN (0 + 1))) := fr_wr (fr_wr (fr_wr (fr_wr (fr_wr f2' (by omega)) (by omega)) (by omega)) (by omega)) (by omega)
      refine ⟨wr (wr (wr (wr (wr M2 148 0 (zN c)) 148 1 (zN i)) 148 2 (zN o)) 148 3 0) 148 4 (zN (0 + 1)), ?_, ⟨by rw [wr_cj], fun _ => ⟨by rw [wr_nj (by omega), wr_nj (by omega), wr_nj (by omega), wr_nj (by omega), wr_cj], by rw [wr_nj (by omega), wr_nj (by omega), wr_nj (by omega), wr_cj], by rw [wr_nj (by omega), wr_nj (by omega), wr_cj]⟩⟩, Leaf_eq hL (fun c j a b => f3.1 c j (by omega)), f3⟩
      rw [en, Option.bind_some, e61 _ 0 (by rw [wr_nj (by omega), wr_nj (by omega), wr_nj (by omega), wr_nj (by omega), b4, q0])]
    · rw [if_neg q0, if_neg (show ¬ M2.1 148 4 = 0 by rw [b4]; show ¬ zN b.1 = zN 0; rw [zN_eqF (by omega)]; exact id), e61 _ b.1 b4]
      have f3 : fr (fun c _ => 120 ≤ c ∧ c ≤ 148) M (wr M2 148 4 (zN (b.1 + 1))) := fr_wr f2' (by omega)
      refine ⟨_, rfl, ⟨by rw [wr_cj], fun _ => ?_⟩, Leaf_eq hL (fun c j a b => f3.1 c j (by omega)), f3⟩
      rw [wr_nj (by omega), wr_nj (by omega), wr_nj (by omega)]; exact bb (by omega)
  · rw [if_pos (show zN n < zN (apt (plP P c i o)) by rw [zN_ltT (by omega)]; trivial), if_neg (show ¬ apt (plP P (c, i, o).1 (c, i, o).2.1 (c, i, o).2.2) ≤ n from q), e71]
    exact ⟨M2, rfl, hB2, l2, f2'⟩
theorem findNear_lp {P : Nat → Nat} (hP : Good P) {s m n : Nat} (hs : s ≤ 8) (hm : m ≤ 9) (hn : n ≤ 99) : ∀ L c i o b M l fuel, rest P s m c i o = L → c ≤ m → pOK P c i o → Leaf M 10 (plP P c i o) → LN b M → b.1 ≤ l → l + 1 + L.length ≤ 10240 → L.length + 1 < fuel →
    ∃ M', fX3_findNear_20 10 (zN m) (zN (s + 1)) (zN n) fuel (zN 1) (zN l) M = some M' ∧ LN (fN P n ((c, i, o) :: L) b) M' ∧ fr (fun c _ => c = 10 ∨ (120 ≤ c ∧ c ≤ 148)) M M' := by
  intro L
  induction L with
  | nil =>
    intro c i o b M l fuel hr hc k hL hB hb hl hf
    obtain ⟨fu, rfl⟩ : ∃ q, fuel = q + 1 := ⟨fuel - 1, by omega⟩
    simp only [List.length_nil] at hl hf
    obtain ⟨fu, rfl⟩ : ∃ q, fu = q + 1 := ⟨fu - 1, by omega⟩
    obtain ⟨M1, e1, lb1, l1, f1⟩ := fn_step (fu := fu + 1) (m := m) (s := s) (l := l) hP hn k hL hB (by omega) (by omega)
    rcases toNext hP hs hm hc k l1 with ⟨-, e2⟩ | ⟨c', i', o', -, -, h, -⟩
    · refine ⟨M1, ?_, lb1, fr_mono f1 (fun c j a => Or.inr a)⟩
      rw [e1, e2, Option.bind_some, fX3_findNear_20]
      exact if_pos rfl
    · rw [hr] at h; cases h
  | cons p L ih =>
    intro c i o b M l fuel hr hc k hL hB hb hl hf
    obtain ⟨fu, rfl⟩ : ∃ q, fuel = q + 1 := ⟨fuel - 1, by omega⟩
    simp only [List.length_cons] at hl hf
    obtain ⟨M1, e1, lb1, l1, f1⟩ := fn_step (fu := fu) (m := m) (s := s) (l := l) hP hn k hL hB (by omega) (by omega)
    rcases toNext hP hs hm hc k l1 with ⟨h, -⟩ | ⟨c', i', o', k', hc', h, M2, e2, l2, f2⟩
    · rw [hr] at h; cases h
    · rw [hr] at h
      have hp := (List.cons.inj h).1
      have hL' := (List.cons.inj h).2
      subst hp
      have hv := vN_le P n (c, i, o) b
      obtain ⟨M3, e3, lb3, f3⟩ := ih c' i' o' (vN P n (c, i, o) b) M2 (l + 1) fu hL'.symm hc' k' l2 (LN_fr lb1 (fun j => f2.1 _ _ (by omega))) (by omega) (by omega) (by omega)
      refine ⟨M3, ?_, lb3, fr_trans (fr_mono f1 (fun c j a => Or.inr a)) (fr_trans (fr_mono f2 (fun c j a => Or.inl a)) f3)⟩
      rw [e1, e2, Option.bind_some]; exact e3
theorem findNear3 {P : Nat → Nat} (hP : Good P) {s m n : Nat} (hs : s ≤ 8) (hm : m ≤ 9) (hn : n ≤ 99) {M : zMM} (hL : Leaf M 10 P) : ∃ M', fX3_findNear 10 (zN m) (zN (s + 1)) (zN n) M = some M' ∧ LN (fN P n (cL P s m 0) (0, 0, 0, 0)) M' ∧ fr (fun c _ => c = 10 ∨ (120 ≤ c ∧ c ≤ 148)) M M' := by
  have hp := hP.1
  have k0 : pOK P 0 9 9 := by unfold pOK; omega
  have hlen := cL_len P s m 0
  have h0 := rest_0 (s := s) (m := m) k0
  rw [h0] at hlen ⊢
  rw [List.length_cons] at hlen
  have f0 : fr (fun c _ => c = 10 ∨ (120 ≤ c ∧ c ≤ 148)) M (wr (wr (wr (wr M 148 4 (zN 0)) 10 3 (zN 0)) 10 4 (zN 9)) 10 5 (zN 9)) := fr_wr (fr_wr (fr_wr (fr_wr (fr_refl _ _) (by omega)) (by omega)) (by omega)) (by omega)
  have lL : Leaf (wr (wr (wr (wr M 148 4 (zN 0)) 10 3 (zN 0)) 10 4 (zN 9)) 10 5 (zN 9)) 10 (plP P 0 9 9) := Leaf_pl (Leaf_eq hL (fun c j a b => wr_nj (by omega)))
  obtain ⟨M', e', lb, ff⟩ := findNear_lp hP hs hm hn (rest P s m 0 9 9) 0 9 9 (0, 0, 0, 0) _ 0 zFU rfl (by omega) k0 lL ⟨by rw [wr_nj (by omega), wr_nj (by omega), wr_nj (by omega), wr_cj], fun h => absurd h (by omega)⟩ (by omega) (by omega) (by rw [zFU_eq]; omega)
  refine ⟨M', ?_, lb, fr_trans f0 ff⟩
  unfold fX3_findNear fX0_plan
  rw [Option.bind_some]; exact e'
theorem call_near (x y z : Int32) : Cll (fX6_near x y z) (fX7_near x y z) := by
  refine Cll_of (fun P T R U K hw => ?_)
  have hP := hw.1
  have hU := hw.2.2.2.1.1
  rcases grid_case x y with ⟨m, s, hm, hs, rfl, rfl, g6, g7⟩ | ⟨g6, g7⟩
  · rcases zcaseR z 0 99 with ⟨n, -, hn, rfl⟩ | hz | ⟨n, hn, rfl, hnn⟩
    · obtain ⟨A, hAe⟩ : ∃ A, A = fN P n (cL P s m 0) (0, 0, 0, 0) := ⟨_, rfl⟩
      have hlen := cL_len P s m 0
      have hA : A.1 ≤ 10240 := by
        have := fN_le P n (cL P s m 0) (0, 0, 0, 0)
        rw [hAe]; simp only at this; omega
      by_cases q : A.1 = 0
      · refine ⟨zN 0, P, T, [], U, K, WF_R hw (by simp), fun M hM => ?_, fun M hM => ?_⟩
        · obtain ⟨M1, e1, l1, f1⟩ := copy0 hP (b := 10) hM.1 (by omega)
          obtain ⟨M2, e2, lb, f2⟩ := findNear3 hP hs hm hn l1
          rw [← hAe] at lb
          obtain ⟨b4, bb⟩ := lb
          rw [q] at b4
          have y3 : frY M2 (wr M2 155 1 (zN 0)) := ⟨fun c j hc => wr_nj (by omega), fun c j hc => rfl⟩
          have l0 : Leaf (wr M2 155 1 (zN 0)) 0 P := Leaf_eq hM.1 (fun c j a b => by rw [y3.1 c j (by omega), f2.1 c j (by omega), f1.1 c j (by omega)])
          refine ⟨wr M2 155 1 (zN 0), ?_, CI_q hM hU (cq_trans (cq_leaf (by omega) f1) (cq_trans (cq_fr f2 (fun c j a => by unfold CW; omega)) (cq_Y y3))) l0 ⟨by rw [wr_cj]; rfl, fun i hi => absurd hi (by simp)⟩⟩
          unfold fX6_near fX2_clear
          simp only [zN_lit]
          rw [g6, Option.bind_some, if_neg nz10, if_neg (show ¬ zN n < zN 0 by rw [zN_ltF (by omega)]; exact id), if_pos (show zN n ≤ zN 99 by rw [zN_leT (by omega)]; trivial), e1, Option.bind_some, e2, Option.bind_some, if_pos b4, Option.bind_some, wr_nj (by omega), b4]
        · have h0 := MNow_w (j := 5) (v := zN 0) hM.1
          have t1 := in7T (a := n) (lo := 0) (hi := 99) (by omega) (wr M 158 5 (zN 0))
          obtain ⟨M1, e1, n1, gb, gn, f1⟩ := goGrid7 hP hs hn hm h0
          rw [← hAe] at gn
          obtain ⟨b20, bb⟩ := gn
          rw [q] at b20
          refine ⟨wr M1 158 4 (zN 0), ?_, MI_q hM (mq_trans (mq_w (j := 5) (v := zN 0) (by omega)) (mq_trans (mq_G f1) (mq_w (j := 4) (v := zN 0) (by omega)))) (MNow_w n1) (MR_nil M1)⟩
          have g20 : (wr M1 158 4 (zN 0)).1 158 20 = zN 0 := by rw [wr_nj (by omega)]; exact b20
          have gen : ∀ f, fX7_near_40 (zN m) (zN (s + 1)) (zN n) (f + 1) (zN 0) (wr M1 158 4 (zN 0)) = some (zN 0, wr M1 158 4 (zN 0)) := by
            intro f
            rw [fX7_near_40]
            simp only [zN_lit]
            rw [if_neg (show ¬ zN 3 ≤ zN 0 by rw [zN_leF (by omega)]; exact id), g20, if_pos (show zN 0 ≤ zN 0 by rw [zN_leT (by omega)]; trivial)]
          unfold fX7_near
          simp only [zN_lit]
          rw [g7, Option.bind_some, if_neg nz10, t1, Option.bind_some, if_neg nz10, e1, Option.bind_some]
          exact gen 2147483647
      · refine ⟨zN A.1, P, T, [(zN A.2.1).toInt64, (zN A.2.2.1).toInt64, (zN A.2.2.2).toInt64], U, K, WF_R hw (by simp), fun M hM => ?_, fun M hM => ?_⟩
        · obtain ⟨M1, e1, l1, f1⟩ := copy0 hP (b := 10) hM.1 (by omega)
          obtain ⟨M2, e2, lb, f2⟩ := findNear3 hP hs hm hn l1
          rw [← hAe] at lb
          obtain ⟨b4, bb⟩ := lb
          obtain ⟨b0, b1, b2⟩ := bb (by omega)
          obtain ⟨M3, e3, r3, y3⟩ := tell3 (zN A.2.1).toInt64 (zN A.2.2.1).toInt64 (zN A.2.2.2).toInt64 M2
          have l0 : Leaf M3 0 P := Leaf_eq hM.1 (fun c j a b => by rw [y3.1 c j (by omega), f2.1 c j (by omega), f1.1 c j (by omega)])
          have k3 : M3.1 148 4 = zN A.1 := by rw [y3.1 _ _ (by omega)]; exact b4
          refine ⟨M3, ?_, CI_q hM hU (cq_trans (cq_leaf (by omega) f1) (cq_trans (cq_fr f2 (fun c j a => by unfold CW; omega)) (cq_Y y3))) l0 r3⟩
          unfold fX6_near
          simp only [zN_lit]
          rw [g6, Option.bind_some, if_neg nz10, if_neg (show ¬ zN n < zN 0 by rw [zN_ltF (by omega)]; exact id), if_pos (show zN n ≤ zN 99 by rw [zN_leT (by omega)]; trivial), e1, Option.bind_some, e2, Option.bind_some, b4, if_neg (show ¬ zN A.1 = zN 0 by rw [zN_eqF (by omega)]; exact id), b0, b1, b2, e3, Option.bind_some, k3]
        · have h0 := MNow_w (j := 5) (v := zN 0) hM.1
          have t1 := in7T (a := n) (lo := 0) (hi := 99) (by omega) (wr M 158 5 (zN 0))
          obtain ⟨M1, e1, n1, gb, gn, f1⟩ := goGrid7 hP hs hn hm h0
          rw [← hAe] at gn
          obtain ⟨b20, bb⟩ := gn
          obtain ⟨b0, b1, b2⟩ := bb (by omega)
          obtain ⟨M2, e2, r2, x2⟩ := tell7 (MR_nil M1) (by simp) (zN A.2.1).toInt64
          obtain ⟨M3, e3, r3, x3⟩ := tell7 r2 (by simp) (zN A.2.2.1).toInt64
          obtain ⟨M4, e4, r4, x4⟩ := tell7 r3 (by simp) (zN A.2.2.2).toInt64
          have g0 : (wr M1 158 4 (zN 0)).1 168 0 = zN A.2.1 := by rw [wr_nj (by omega)]; exact b0
          have g1 : M2.1 168 1 = zN A.2.2.1 := by rw [x2.1 _ _ (by omega), wr_nj (by omega)]; exact b1
          have g2 : M3.1 168 2 = zN A.2.2.2 := by rw [x3.1 _ _ (by omega), x2.1 _ _ (by omega), wr_nj (by omega)]; exact b2
          have k0 : (wr M1 158 4 (zN 0)).1 158 20 = zN A.1 := by rw [wr_nj (by omega)]; exact b20
          have k1 : M2.1 158 20 = zN A.1 := by rw [x2.1 _ _ (by omega)]; exact k0
          have k2 : M3.1 158 20 = zN A.1 := by rw [x3.1 _ _ (by omega)]; exact k1
          have k3 : M4.1 158 20 = zN A.1 := by rw [x4.1 _ _ (by omega)]; exact k2
          refine ⟨M4, ?_, MI_q hM (mq_trans (mq_w (j := 5) (v := zN 0) (by omega)) (mq_trans (mq_G f1) (mq_trans (mq_w (j := 4) (v := zN 0) (by omega)) (mq_trans (mq_X x2) (mq_trans (mq_X x3) (mq_X x4)))))) (MNow_X (MNow_X (MNow_X (MNow_w n1) x2) x3) x4) (MR3 r4)⟩
          have st : ∀ k l M v, l < 3 → M.1 158 20 = zN A.1 → M.1 168 l = v → fX7_near_40 (zN m) (zN (s + 1)) (zN n) (k + 1) (zN l) M = (fX7_tell (Int32.toInt64 v) M).bind fun q4 => fX7_near_40 (zN m) (zN (s + 1)) (zN n) k (zN (l + 1)) q4 := by
            intro k l M v hl h20 hv
            rw [fX7_near_40]
            simp (disch := omega) only [wr_cj, wr_nj, rng_in, rng_out, zN_lit, zN_add, zN_mul, zN_sub, zN_ltT, zN_ltF, zN_leT, zN_leF, zN_eqT, zN_eqF, zN_lt, zN_le, zN_eq, zN_nat, zN_oobF, Option.bind_some, ↓reduceIte, Nat.one_mul, Nat.zero_add, Nat.add_zero, Nat.reduceAdd, Nat.reduceMul, Nat.reduceSub, Nat.reduceLT, Nat.reduceLeDiff, Nat.reduceEqDiff, reduceCtorEq, true_or, or_true, false_or, or_false, true_and, and_true, false_and, and_false, not_true_eq_false, not_false_eq_true, wr_2, wrL_1, zm_eqF, zm_eqF', zm_lt, zm_lt', zm_le, zm_le', zm_sub1, zN_01, Nat.mul_zero, Nat.zero_mul, Nat.mul_one, Nat.sub_zero, Nat.sub_self, Nat.add_sub_cancel, hv, h20]
          have en : ∀ k M, M.1 158 20 = zN A.1 → fX7_near_40 (zN m) (zN (s + 1)) (zN n) (k + 1) (zN (0 + 1 + 1 + 1)) M = some (zN A.1, M) := by
            intro k M h20
            rw [fX7_near_40]
            simp (disch := omega) only [wr_cj, wr_nj, rng_in, rng_out, zN_lit, zN_add, zN_mul, zN_sub, zN_ltT, zN_ltF, zN_leT, zN_leF, zN_eqT, zN_eqF, zN_lt, zN_le, zN_eq, zN_nat, zN_oobF, Option.bind_some, ↓reduceIte, Nat.one_mul, Nat.zero_add, Nat.add_zero, Nat.reduceAdd, Nat.reduceMul, Nat.reduceSub, Nat.reduceLT, Nat.reduceLeDiff, Nat.reduceEqDiff, reduceCtorEq, true_or, or_true, false_or, or_false, true_and, and_true, false_and, and_false, not_true_eq_false, not_false_eq_true, wr_2, wrL_1, zm_eqF, zm_eqF', zm_lt, zm_lt', zm_le, zm_le', zm_sub1, zN_01, Nat.mul_zero, Nat.zero_mul, Nat.mul_one, Nat.sub_zero, Nat.sub_self, Nat.add_sub_cancel, h20]
          have gen : ∀ f, fX7_near_40 (zN m) (zN (s + 1)) (zN n) (f + 1 + 1 + 1 + 1) (zN 0) (wr M1 158 4 (zN 0)) = some (zN A.1, M4) := by
            intro f
            rw [st _ 0 _ _ (by omega) k0 g0, e2, Option.bind_some, st _ _ _ _ (by omega) k1 g1, e3, Option.bind_some, st _ _ _ _ (by omega) k2 g2, e4, Option.bind_some, en _ _ k3]
          unfold fX7_near
          simp only [zN_lit]
          rw [g7, Option.bind_some, if_neg nz10, t1, Option.bind_some, if_neg nz10, e1, Option.bind_some]
          exact gen 2147483644
    · refine ⟨-zN 1, P, T, R, U, K, hw, CD_no (fun M hM => ?_), MD_no (fun M hM => ?_)⟩
      · unfold fX6_near; rw [g6]; simp (disch := omega) only [wr_cj, wr_nj, rng_in, rng_out, zN_lit, zN_add, zN_mul, zN_sub, zN_ltT, zN_ltF, zN_leT, zN_leF, zN_eqT, zN_eqF, zN_lt, zN_le, zN_eq, zN_nat, zN_oobF, Option.bind_some, ↓reduceIte, Nat.one_mul, Nat.zero_add, Nat.add_zero, Nat.reduceAdd, Nat.reduceMul, Nat.reduceSub, Nat.reduceLT, Nat.reduceLeDiff, Nat.reduceEqDiff, reduceCtorEq, true_or, or_true, false_or, or_false, true_and, and_true, false_and, and_false, not_true_eq_false, not_false_eq_true, wr_2, wrL_1, zm_eqF, zm_eqF', zm_lt, zm_lt', zm_le, zm_le', zm_sub1, zN_01, Nat.mul_zero, Nat.zero_mul, Nat.mul_one, Nat.sub_zero, Nat.sub_self, Nat.add_sub_cancel, zg_lt hz]
      · have t1 := in7g hz (lo := 0) (by omega) (zN 99) (wr M 158 5 (zN 0))
        unfold fX7_near; simp only [zN_lit]; rw [g7]; simp (disch := omega) only [wr_cj, wr_nj, rng_in, rng_out, zN_lit, zN_add, zN_mul, zN_sub, zN_ltT, zN_ltF, zN_leT, zN_leF, zN_eqT, zN_eqF, zN_lt, zN_le, zN_eq, zN_nat, zN_oobF, Option.bind_some, ↓reduceIte, Nat.one_mul, Nat.zero_add, Nat.add_zero, Nat.reduceAdd, Nat.reduceMul, Nat.reduceSub, Nat.reduceLT, Nat.reduceLeDiff, Nat.reduceEqDiff, reduceCtorEq, true_or, or_true, false_or, or_false, true_and, and_true, false_and, and_false, not_true_eq_false, not_false_eq_true, wr_2, wrL_1, zm_eqF, zm_eqF', zm_lt, zm_lt', zm_le, zm_le', zm_sub1, zN_01, Nat.mul_zero, Nat.zero_mul, Nat.mul_one, Nat.sub_zero, Nat.sub_self, Nat.add_sub_cancel, t1]
    · refine ⟨-zN 1, P, T, R, U, K, hw, CD_no (fun M hM => ?_), MD_no (fun M hM => ?_)⟩
      · unfold fX6_near; rw [g6]; simp (disch := omega) only [wr_cj, wr_nj, rng_in, rng_out, zN_lit, zN_add, zN_mul, zN_sub, zN_ltT, zN_ltF, zN_leT, zN_leF, zN_eqT, zN_eqF, zN_lt, zN_le, zN_eq, zN_nat, zN_oobF, Option.bind_some, ↓reduceIte, Nat.one_mul, Nat.zero_add, Nat.add_zero, Nat.reduceAdd, Nat.reduceMul, Nat.reduceSub, Nat.reduceLT, Nat.reduceLeDiff, Nat.reduceEqDiff, reduceCtorEq, true_or, or_true, false_or, or_false, true_and, and_true, false_and, and_false, not_true_eq_false, not_false_eq_true, wr_2, wrL_1, zm_eqF, zm_eqF', zm_lt, zm_lt', zm_le, zm_le', zm_sub1, zN_01, Nat.mul_zero, Nat.zero_mul, Nat.mul_one, Nat.sub_zero, Nat.sub_self, Nat.add_sub_cancel]
      · have t1 := in7F (a := n) (lo := 0) (hi := 99) (by omega) (wr M 158 5 (zN 0))
        unfold fX7_near; simp only [zN_lit]; rw [g7]; simp (disch := omega) only [wr_cj, wr_nj, rng_in, rng_out, zN_lit, zN_add, zN_mul, zN_sub, zN_ltT, zN_ltF, zN_leT, zN_leF, zN_eqT, zN_eqF, zN_lt, zN_le, zN_eq, zN_nat, zN_oobF, Option.bind_some, ↓reduceIte, Nat.one_mul, Nat.zero_add, Nat.add_zero, Nat.reduceAdd, Nat.reduceMul, Nat.reduceSub, Nat.reduceLT, Nat.reduceLeDiff, Nat.reduceEqDiff, reduceCtorEq, true_or, or_true, false_or, or_false, true_and, and_true, false_and, and_false, not_true_eq_false, not_false_eq_true, wr_2, wrL_1, zm_eqF, zm_eqF', zm_lt, zm_lt', zm_le, zm_le', zm_sub1, zN_01, Nat.mul_zero, Nat.zero_mul, Nat.mul_one, Nat.sub_zero, Nat.sub_self, Nat.add_sub_cancel, t1]
  · refine ⟨-zN 1, P, T, R, U, K, hw, CD_no (fun M hM => ?_), MD_no (fun M hM => ?_)⟩
    · unfold fX6_near; rw [g6]; rfl
    · unfold fX7_near; rw [g7]; rfl
/-- the best plan taken, or refused, by both -/
theorem best_both {P : Nat → Nat} (hP : Good P) (x y : Int32) : (∃ r, r < 0 ∧ LD (fX6_setBest x y) P r P ∧ ∀ M, MNow M P → ∃ M', fX7_refusesBest x y M = some (r, M') ∧ MNow M' P ∧ fr (fun c j => GH c j ∨ c = 166) M M') ∨ (∃ c i o v, pOK P c i o ∧ v < 100000000 ∧ LD (fX6_setBest x y) P (zN v) (plP P c i o) ∧ (∀ M, MNow M P → ∃ M', fX7_refusesBest x y M = some (zN 0, M') ∧ MNow M' P ∧ M'.1 167 0 = zN c ∧ M'.1 167 1 = zN i ∧ M'.1 167 2 = zN o ∧ M'.1 158 18 = zN v ∧ fr (fun c j => GH c j ∨ c = 166) M M')) := by
  have hp := hP.1
  rcases grid_case x y with ⟨m, s, hm, hs, rfl, rfl, g6, g7⟩ | ⟨g6, g7⟩
  · obtain ⟨B, hBe⟩ : ∃ B, B = fB P (cL P s m 0) (0, 0, 0, 0, 0) := ⟨_, rfl⟩
    have bpos : 0 < B.1 := by
      rw [hBe, rest_0 (by unfold pOK; omega), fB_1, List.length_cons]; omega
    have ok : okB P B := by
      obtain ⟨-, -, -, h, -⟩ := findBest3 hP hs hm (M := (fun c j => (mkM P).1 (c - 10) j, (mkM P).2)) (by
        have h := mkM_L P
        exact ⟨h.1, h.2.1, h.2.2.1, fun t ht k hk => by have := h.2.2.2.1 t ht k hk; rw [Nat.zero_add] at this; show (mkM P).1 (10 + 4 + t - 10) k = _; rw [show 10 + 4 + t - 10 = 4 + t by omega]; exact this, h.2.2.2.2⟩)
      rw [hBe]; exact h
    obtain ⟨bc, bk⟩ := ok bpos
    have bk' := bk
    unfold pOK at bk'
    have cls : ∀ M, Leaf M 0 P → ∃ M2, fX0_copy 10 0 M = some M2 ∧ True := fun M hL => by
      obtain ⟨M1, e1, -, -⟩ := copy0 hP (b := 10) hL (by omega)
      exact ⟨M1, e1, trivial⟩
    have find : ∀ M, Leaf M 0 P → ∃ M1 M2, fX0_copy 10 0 M = some M1 ∧ fX3_findBest 10 (zN m) (zN (s + 1)) M1 = some M2 ∧ Leaf M2 0 P ∧ M2.1 148 0 = zN B.2.2.1 ∧ M2.1 148 1 = zN B.2.2.2.1 ∧ M2.1 148 2 = zN B.2.2.2.2 ∧ M2.1 148 3 = zN B.2.1 ∧ fr (fun c _ => CW c) M M2 := by
      intro M hL
      obtain ⟨M1, e1, l1, f1⟩ := copy0 hP (b := 10) hL (by omega)
      obtain ⟨M2, e2, lb, -, -, f2⟩ := findBest3 hP hs hm l1
      rw [← hBe] at lb
      obtain ⟨b3, b0, b1, b2⟩ := lb.2 bpos
      exact ⟨M1, M2, e1, e2, Leaf_eq hL (fun c j a b => by rw [f2.1 c j (by omega), f1.1 c j (by omega)]), b0, b1, b2, b3, fr_trans (fr_mono f1 (fun c j a => by unfold CW; omega)) (fr_mono f2 (fun c j a => by unfold CW; omega))⟩
    have mod : ∀ M, MNow M P → ∃ M', fX7_goGrid (zN m) (zN (s + 1)) 0 M = some M' ∧ MNow M' P ∧ M'.1 167 0 = zN B.2.2.1 ∧ M'.1 167 1 = zN B.2.2.2.1 ∧ M'.1 167 2 = zN B.2.2.2.2 ∧ M'.1 158 18 = zN B.2.1 ∧ fr (fun c j => GH c j ∨ c = 166) M M' := by
      intro M hM
      obtain ⟨M1, e1, n1, gb, gn, f1⟩ := goGrid7 hP hs (n := 0) (by omega) hm hM
      rw [← hBe] at gb
      obtain ⟨b18, b0, b1, b2⟩ := gb.2 bpos
      exact ⟨M1, e1, n1, b0, b1, b2, b18, f1⟩
    by_cases e : P 2 = B.2.2.1 ∧ P 3 = B.2.2.2.1 ∧ P 4 = B.2.2.2.2
    · left
      refine ⟨-zN 2, zm_neg (by omega), fun M hL => ?_, fun M hM => ?_⟩
      · obtain ⟨M1, M2, e1, e2, l2, b0, b1, b2, b3, f2⟩ := find M hL
        obtain ⟨-, -, -, l3, l4, l5, -⟩ := l2.1
        rw [e.1] at l3; rw [e.2.1] at l4; rw [e.2.2] at l5
        refine ⟨M2, ?_, l2, f2⟩
        have hpl : fX0_hasPlan 0 (zN B.2.2.1) (zN B.2.2.2.1) (zN B.2.2.2.2) M2 = some (zN 1, M2) := by
          unfold fX0_hasPlan; rw [l3, l4, l5, if_pos rfl, if_pos rfl, if_pos rfl]; rfl
        unfold fX6_setBest
        rw [g6, Option.bind_some, if_neg nz10', e1, Option.bind_some, e2, Option.bind_some, b0, b1, b2, hpl, Option.bind_some, if_neg nz10']; rfl
      · obtain ⟨M1, e1, n1, b0, b1, b2, b18, f1⟩ := mod M hM
        have cb := (canBe7 (by omega) n1 (c := B.2.2.1) (i := B.2.2.2.1) (o := B.2.2.2.2) (by omega) (by omega) (by omega)).1 bk
        have m2 := n1 2 (by omega)
        have m3 := n1 3 (by omega)
        have m4 := n1 4 (by omega)
        rw [e.1] at m2; rw [e.2.1] at m3; rw [e.2.2] at m4
        refine ⟨M1, ?_, n1, f1⟩
        unfold fX7_refusesBest fX7_refusesPlan
        rw [g7, Option.bind_some, if_neg nz10', e1, Option.bind_some, b0, b1, b2, cb, Option.bind_some, if_neg nz10', m2, m3, m4, if_pos rfl, if_pos rfl, if_pos rfl]; rfl
    · right
      refine ⟨B.2.2.1, B.2.2.2.1, B.2.2.2.2, B.2.1, bk, bc, fun M hL => ?_, fun M hM => ?_⟩
      · obtain ⟨M1, M2, e1, e2, l2, b0, b1, b2, b3, f2⟩ := find M hL
        obtain ⟨-, -, -, l3, l4, l5, -⟩ := l2.1
        refine ⟨wr (wr (wr M2 0 3 (zN B.2.2.1)) 0 4 (zN B.2.2.2.1)) 0 5 (zN B.2.2.2.2), ?_, Leaf_pl l2, fr_wr (fr_wr (fr_wr f2 (by unfold CW; omega)) (by unfold CW; omega)) (by unfold CW; omega)⟩
        have hpl : fX0_hasPlan 0 (zN B.2.2.1) (zN B.2.2.2.1) (zN B.2.2.2.2) M2 = some (zN 0, M2) := by
          unfold fX0_hasPlan
          rw [l3, l4, l5]
          by_cases q1 : P 2 = B.2.2.1
          · by_cases q2 : P 3 = B.2.2.2.1
            · rw [if_pos (by rw [q1]), if_pos (by rw [q2]), if_neg (show ¬ zN (P 4) = zN B.2.2.2.2 by rw [zN_eqF (by omega)]; exact id)]; rfl
            · rw [if_pos (by rw [q1]), if_neg (show ¬ zN (P 3) = zN B.2.2.2.1 by rw [zN_eqF (by omega)]; exact id)]; rfl
          · rw [if_neg (show ¬ zN (P 2) = zN B.2.2.1 by rw [zN_eqF (by omega)]; exact id)]; rfl
        unfold fX6_setBest fX0_plan
        rw [g6, Option.bind_some, if_neg nz10', e1, Option.bind_some, e2, Option.bind_some, b0, b1, b2, hpl, Option.bind_some, if_pos (show ((zN 0, M2) : Int32 × zMM).1 = 0 from rfl), Option.bind_some]
        dsimp only
        rw [b0, b1, b2, wr_nj (by omega), wr_nj (by omega), wr_nj (by omega), b3]
      · obtain ⟨M1, e1, n1, b0, b1, b2, b18, f1⟩ := mod M hM
        have cb := (canBe7 (by omega) n1 (c := B.2.2.1) (i := B.2.2.2.1) (o := B.2.2.2.2) (by omega) (by omega) (by omega)).1 bk
        have m2 := n1 2 (by omega)
        have m3 := n1 3 (by omega)
        have m4 := n1 4 (by omega)
        refine ⟨M1, ?_, n1, b0, b1, b2, b18, f1⟩
        have rp : fX7_refusesPlan (zN B.2.2.1) (zN B.2.2.2.1) (zN B.2.2.2.2) M1 = some (zN 0, M1) := by
          unfold fX7_refusesPlan
          rw [cb, Option.bind_some, if_neg nz10', m2, m3, m4]
          by_cases q1 : P 2 = B.2.2.1
          · by_cases q2 : P 3 = B.2.2.2.1
            · rw [if_pos (by rw [q1]), if_pos (by rw [q2]), if_neg (show ¬ zN (P 4) = zN B.2.2.2.2 by rw [zN_eqF (by omega)]; exact id)]; rfl
            · rw [if_pos (by rw [q1]), if_neg (show ¬ zN (P 3) = zN B.2.2.2.1 by rw [zN_eqF (by omega)]; exact id)]; rfl
          · rw [if_neg (show ¬ zN (P 2) = zN B.2.2.1 by rw [zN_eqF (by omega)]; exact id)]; rfl
        unfold fX7_refusesBest
        rw [g7, Option.bind_some, if_neg nz10', e1, Option.bind_some, b0, b1, b2, rp]; rfl
  · left
    refine ⟨-zN 1, zm_neg (by omega), fun M hL => ⟨M, ?_, hL, fr_refl _ _⟩, fun M hM => ⟨M, ?_, hM, fr_refl _ _⟩⟩
    · unfold fX6_setBest; rw [g6]; rfl
    · unfold fX7_refusesBest; rw [g7]; rfl
theorem MI_G {P : Nat → Nat} {T : List Nat} {R : List Int64} {U : List (Nat → Nat)} {K : Nat → Option (Nat → Nat)} {M M' : zMM} (h : MI P T R U K M) (f : fr (fun c j => GH c j ∨ c = 166) M M') (hn : MNow M' P) : MI P T R U K M' := (MI_q h (mq_G f) hn (MR_G h.2.2.1 f)).1
theorem call_takesBest (x y : Int32) : Cll (fX6_takesBest x y) (fX7_takesBest x y) := by
  refine Cll_of (fun P T R U K hw => ?_)
  have hl := hw.2.2.2.1.1
  rcases best_both hw.1 x y with ⟨r, hr, l, m⟩ | ⟨c, i, o, v, k, hv, l, m⟩
  · refine ⟨r, P, T, R, U, K, hw, fun M hM => (LD_CD hw l).1 hr rfl M hM, fun M hM => ?_⟩
    obtain ⟨M1, e1, n1, f1⟩ := m (wr M 158 5 (zN 0)) (MI_th hM).1
    refine ⟨M1, ?_, MI_G (MI_th hM) f1 n1, frM_trans (frM_th M _) (mq_M (mq_G f1))⟩
    unfold fX7_takesBest
    simp only [zN_lit]
    rw [e1, Option.bind_some]
    exact if_neg (zneg_le hr)
  · refine ⟨zN v, plP P c i o, T, R, _, K, WF_chg hw (Good_pl hw.1 k), fun M hM => (LD_CD hw l).2 (zN_nn (by omega)) M hM, fun M hM => ?_⟩
    have h0 := MI_th (v := zN 0) hM
    obtain ⟨M1, e1, n1, b0, b1, b2, b18, f1⟩ := m (wr M 158 5 (zN 0)) h0.1
    have h1 := MI_G h0 f1 n1
    obtain ⟨M2, e2, h2, f2⟩ := chg7 hl h1
    have c0 : M2.1 167 0 = zN c := by rw [f2.1 _ _ (by omega)]; exact b0
    have c1 : M2.1 167 1 = zN i := by rw [f2.1 _ _ (by omega)]; exact b1
    have c2 : M2.1 167 2 = zN o := by rw [f2.1 _ _ (by omega)]; exact b2
    have c18 : M2.1 158 18 = zN v := by rw [f2.1 _ _ (by omega)]; exact b18
    have f3 := fr_pl7 M2 (zN c) (zN i) (zN o)
    refine ⟨wr (wr (wr M2 159 2 (zN c)) 159 3 (zN i)) 159 4 (zN o), ?_, MI_now h2 f3 (MNow_pl h2.1), frM_trans (frM_th M _) (frM_trans (mq_M (mq_G f1)) (frM_trans (frM_fr f2 (fun c j a => by omega)) (frM_fr f3 (fun c j a => by omega))))⟩
    unfold fX7_takesBest fX7_putPlan
    simp only [zN_lit]
    rw [e1, Option.bind_some, if_pos (show zN 0 ≤ ((zN 0, M1) : Int32 × zMM).1 by show zN 0 ≤ zN 0; rw [zN_leT (by omega)]; trivial), e2, Option.bind_some, c0, c1, c2, Option.bind_some, wr_nj (by omega), wr_nj (by omega), wr_nj (by omega), c18]
