/-! climbing: the six neighbours of a plan -/
def nb (k c i o : Nat) : Option (Nat × Nat × Nat) := if k = 0 then (if c = 0 then none else some (c - 1, i, o)) else if k = 1 then some (c + 1, i, o) else if k = 2 then some (c, i - 1, o) else if k = 3 then some (c, i + 1, o) else if k = 4 then some (c, i, o - 1) else some (c, i, o + 1)
def sv (P : Nat → Nat) (c i o k : Nat) (st : Nat × Bool × Nat × Nat × Nat) : Nat × Bool × Nat × Nat × Nat := match nb k c i o with
  | none => st
  | some q => if pB P q.1 q.2.1 q.2.2 = true then (if cst (plP P q.1 q.2.1 q.2.2) < st.1 then (cst (plP P q.1 q.2.1 q.2.2), true, q) else st) else st
def sF (P : Nat → Nat) (c i o : Nat) : Nat → Nat → Nat × Bool × Nat × Nat × Nat → Nat × Bool × Nat × Nat × Nat
  | 0, _, st => st
  | f + 1, k, st => sF P c i o f (k + 1) (sv P c i o k st)
/-- a state of the search that can be -/
def okS (P : Nat → Nat) (v0 : Nat) (st : Nat × Bool × Nat × Nat × Nat) : Prop := st.1 ≤ v0 ∧ (st.2.1 = true → st.1 < v0 ∧ pOK P st.2.2.1 st.2.2.2.1 st.2.2.2.2 ∧ cst (plP P st.2.2.1 st.2.2.2.1 st.2.2.2.2) = st.1)
theorem okS_sv {P : Nat → Nat} {v0 c i o k : Nat} {st : Nat × Bool × Nat × Nat × Nat} (h : okS P v0 st) : okS P v0 (sv P c i o k st) := by
  unfold sv
  cases nb k c i o with
  | none => exact h
  | some q =>
    dsimp only
    by_cases a : pB P q.1 q.2.1 q.2.2 = true
    · rw [if_pos a]
      by_cases b : cst (plP P q.1 q.2.1 q.2.2) < st.1
      · rw [if_pos b]
        have h1 := h.1
        refine ⟨by show cst (plP P q.1 q.2.1 q.2.2) ≤ v0; omega, fun _ => ⟨by show cst (plP P q.1 q.2.1 q.2.2) < v0; omega, ?_, rfl⟩⟩
        unfold pB at a; rw [decide_eq_true_eq] at a; exact a
      · rw [if_neg b]; exact h
    · rw [if_neg a]; exact h
theorem okS_sF {P : Nat → Nat} {v0 c i o : Nat} : ∀ f k st, okS P v0 st → okS P v0 (sF P c i o f k st) := by
  intro f
  induction f with
  | zero => intro k st h; exact h
  | succ f ih => intro k st h; exact ih _ _ (okS_sv h)
theorem mvA {P : Nat → Nat} (hP : Good P) {k c i o : Nat} (hk : k < 6) (h : pOK P c i o) : (∃ c' i' o', nb k c i o = some (c', i', o') ∧ zN c + zst 3 k = zN c' ∧ zN i + zst 4 k = zN i' ∧ zN o + zst 5 k = zN o' ∧ c' < 1000 ∧ i' < 1000 ∧ o' < 1000) ∨ (nb k c i o = none ∧ zN c + zst 3 k = -zN 1) := by
  unfold pOK at h
  have z0 : ∀ x, zN x + 0 = zN x := fun x => by show zN x + zN 0 = zN x; rw [zN_add]; rfl
  have z1 : ∀ x, zN x + 1 = zN (x + 1) := fun x => zN_add x 1
  have zm : ∀ x, 1 ≤ x → zN x + -1 = zN (x - 1) := fun x hx => zm_sub1 hx
  have e : k = 0 ∨ k = 1 ∨ k = 2 ∨ k = 3 ∨ k = 4 ∨ k = 5 := by omega
  rcases e with rfl | rfl | rfl | rfl | rfl | rfl
  · by_cases hc : c = 0
    · right; subst hc; exact ⟨rfl, by decide⟩
    · left
      exact ⟨c - 1, i, o, by unfold nb; rw [if_pos rfl, if_neg hc], zm c (by omega), z0 i, z0 o, by omega, by omega, by omega⟩
  · left; exact ⟨c + 1, i, o, rfl, z1 c, z0 i, z0 o, by omega, by omega, by omega⟩
  · left; exact ⟨c, i - 1, o, rfl, z0 c, zm i (by omega), z0 o, by omega, by omega, by omega⟩
  · left; exact ⟨c, i + 1, o, rfl, z0 c, z1 i, z0 o, by omega, by omega, by omega⟩
  · left; exact ⟨c, i, o - 1, rfl, z0 c, z0 i, zm o (by omega), by omega, by omega, by omega⟩
  · left; exact ⟨c, i, o + 1, rfl, z0 c, z0 i, z1 o, by omega, by omega, by omega⟩
def CS (v c i o : Nat) (M : zMM) : Prop := M.1 148 3 = zN v ∧ M.1 148 0 = zN c ∧ M.1 148 1 = zN i ∧ M.1 148 2 = zN o
theorem CS_fr {v c i o : Nat} {M M' : zMM} (h : CS v c i o M) (e : ∀ j, M'.1 148 j = M.1 148 j) : CS v c i o M' := by
  unfold CS at h ⊢; rw [e, e, e, e]; exact h
def bz (b : Bool) : Int32 := if b = true then zN 1 else zN 0
theorem fbt_lp {P : Nat → Nat} (hP : Good P) {c i o : Nat} (h : pOK P c i o) : ∀ f k st M fuel, 6 - k = f → k ≤ 6 → f < fuel → (∃ x y z, Leaf M 10 (plP P x y z)) → CS st.1 st.2.2.1 st.2.2.2.1 st.2.2.2.2 M → st.1 < 100000000 →
    ∃ M', fX3_findBetter_23 10 fuel (zN c) (zN i) (zN o) (bz st.2.1) (zN k) M = some (bz (sF P c i o f k st).2.1, M') ∧ (∃ x y z, Leaf M' 10 (plP P x y z)) ∧ CS (sF P c i o f k st).1 (sF P c i o f k st).2.2.1 (sF P c i o f k st).2.2.2.1 (sF P c i o f k st).2.2.2.2 M' ∧ fr (fun c _ => c = 10 ∨ (120 ≤ c ∧ c ≤ 148)) M M' := by
  intro f
  induction f with
  | zero =>
    intro k st M fuel hf hk hfu hL hC hv
    obtain ⟨fu, rfl⟩ : ∃ q, fuel = q + 1 := ⟨fuel - 1, by omega⟩
    have e : k = 6 := by omega
    subst e
    refine ⟨M, ?_, hL, hC, fr_refl _ _⟩
    rw [fX3_findBetter_23, if_pos (show (6 : Int32) ≤ zN 6 by decide)]
    have : bz st.2.1 = 0 ∨ bz st.2.1 = 1 := by
      cases st.2.1
      · exact Or.inl rfl
      · exact Or.inr rfl
    rw [if_pos this]; rfl
  | succ f ih =>
    intro k st M fuel hf hk hfu hL hC hv
    obtain ⟨fu, rfl⟩ : ∃ q, fuel = q + 1 := ⟨fuel - 1, by omega⟩
    have k1 : zN k + 1 = zN (k + 1) := zN_add k 1
    obtain ⟨x, y, z, hL⟩ := hL
    have head : ∀ R, ((fX0_allows 10 (zN c + zst 3 k) (zN i + zst 4 k) (zN o + zst 5 k) M).bind fun q4 => if q4.1 = 0 then fX3_findBetter_119 (fX3_findBetter_23 10 fu) 10 (zN c) (zN i) (zN o) (bz st.2.1) (zN k) q4.2 else (fX0_plan 10 (zN c + zst 3 k) (zN i + zst 4 k) (zN o + zst 5 k) q4.2).bind fun q6 => (fX4_set 10 q6).bind fun q7 => (fX4_costOf 10 q7).bind fun q8 => if q8.2.1 148 3 ≤ q8.1 then fX3_findBetter_119 (fX3_findBetter_23 10 fu) 10 (zN c) (zN i) (zN o) (bz st.2.1) (zN k) q8.2 else (fX3_note 10 q8.1 q8.2).bind fun q10 => fX3_findBetter_119 (fX3_findBetter_23 10 fu) 10 (zN c) (zN i) (zN o) 1 (zN k) q10) = R → fX3_findBetter_23 10 (fu + 1) (zN c) (zN i) (zN o) (bz st.2.1) (zN k) M = R := by
      intro R hR
      rw [← hR, fX3_findBetter_23, if_neg (show ¬ (6 : Int32) ≤ zN k by show ¬ zN 6 ≤ zN k; rw [zN_leF (by omega)]; exact id), if_neg (show ¬ oob (zN k) 6 by rw [zN_oobF (by omega)]; exact id), zN_nat (by omega)]
    have e119 : ∀ (b : Int32) (M' : zMM), fX3_findBetter_119 (fX3_findBetter_23 10 fu) 10 (zN c) (zN i) (zN o) b (zN k) M' = fX3_findBetter_23 10 fu (zN c) (zN i) (zN o) b (zN (k + 1)) M' := by
      intro b M'; unfold fX3_findBetter_119; rw [k1]
    rw [sF]
    rcases mvA hP (show k < 6 by omega) h with ⟨c', i', o', hn, m1, m2, m3, b1, b2, b3⟩ | ⟨hn, m1⟩
    · have al := allowsL (pl_b hP x y z) hL (c := c') (i := i') (o := o') b1 b2 b3
      rw [pOK_pl] at al
      by_cases kk : pOK P c' i' o'
      · have hQ := Good_pl hP kk
        have l2 : Leaf (wr (wr (wr M 10 3 (zN c')) 10 4 (zN i')) 10 5 (zN o')) 10 (plP P c' i' o') := by have := Leaf_pl (c := c') (i := i') (o := o') hL; rw [plP_plP] at this; exact this
        have f2 : fr (fun c _ => c = 10 ∨ (120 ≤ c ∧ c ≤ 148)) M (wr (wr (wr M 10 3 (zN c')) 10 4 (zN i')) 10 5 (zN o')) := fr_wr (fr_wr (fr_wr (fr_refl _ _) (by omega)) (by omega)) (by omega)
        obtain ⟨M3, e3, s3, l3, f3⟩ := cset0 hQ (b := 10) (by omega) l2
        have co := costOf4 hQ l3 s3
        have clt := cst_lt hQ
        have f3' : fr (fun c _ => c = 10 ∨ (120 ≤ c ∧ c ≤ 148)) M M3 := fr_trans f2 (fr_mono f3 (fun c j a => by omega))
        have hC3 : CS st.1 st.2.2.1 st.2.2.2.1 st.2.2.2.2 M3 := CS_fr hC (fun j => by rw [f3.1 _ _ (by omega), wr_nj (by omega), wr_nj (by omega), wr_nj (by omega)])
        by_cases better : cst (plP P c' i' o') < st.1
        · have es : sv P c i o k st = (cst (plP P c' i' o'), true, c', i', o') := by
            unfold sv; rw [hn]; dsimp only; rw [if_pos (pB_t kk), if_pos better]
          have g3 : M3.1 10 3 = zN c' := by have := l3.1.2.2.2.1; rw [plP_2] at this; exact this
          have g4 : M3.1 10 4 = zN i' := by have := l3.1.2.2.2.2.1; rw [plP_3] at this; exact this
          have g5 : M3.1 10 5 = zN o' := by have := l3.1.2.2.2.2.2.1; rw [plP_4] at this; exact this
          have en : fX3_note 10 (zN (cst (plP P c' i' o'))) M3 = some (wr (wr (wr (wr M3 148 0 (zN c')) 148 1 (zN i')) 148 2 (zN o')) 148 3 (zN (cst (plP P c' i' o')))) := by
            unfold fX3_note
            rw [g3, wr_nj (by omega), g4, wr_nj (by omega), wr_nj (by omega), g5]
          have f4 : fr (fun c _ => c = 10 ∨ (120 ≤ c ∧ c ≤ 148)) M (wr (wr (wr (wr M3 148 0 (zN c')) 148 1 (zN i')) 148 2 (zN o')) 148 3 (zN (cst (plP P c' i' o')))) := fr_wr (fr_wr (fr_wr (fr_wr f3' (by omega)) (by omega)) (by omega)) (by omega)
          obtain ⟨M5, e5, l5, c5, f5⟩ := ih (k + 1) (cst (plP P c' i' o'), true, c', i', o') (wr (wr (wr (wr M3 148 0 (zN c')) 148 1 (zN i')) 148 2 (zN o')) 148 3 (zN (cst (plP P c' i' o')))) fu (by omega) (by omega) (by omega) ⟨c', i', o', Leaf_eq l3 (fun c j a b => by rw [wr_nj (by omega), wr_nj (by omega), wr_nj (by omega), wr_nj (by omega)])⟩ ⟨by rw [wr_cj], by rw [wr_nj (by omega), wr_nj (by omega), wr_nj (by omega), wr_cj], by rw [wr_nj (by omega), wr_nj (by omega), wr_cj], by rw [wr_nj (by omega), wr_cj]⟩ clt
          rw [es]
          refine ⟨M5, head _ ?_, l5, c5, fr_trans f4 f5⟩
          rw [m1, m2, m3, al.1 kk, Option.bind_some, if_neg nz10']
          unfold fX0_plan
          rw [Option.bind_some, e3, Option.bind_some, co, Option.bind_some]
          dsimp only
          rw [hC3.1, if_neg (show ¬ zN st.1 ≤ zN (cst (plP P c' i' o')) by rw [zN_leF (by omega)]; exact id), en, Option.bind_some, e119]; exact e5
        · have es : sv P c i o k st = st := by
            unfold sv; rw [hn]; dsimp only; rw [if_pos (pB_t kk), if_neg better]
          obtain ⟨M5, e5, l5, c5, f5⟩ := ih (k + 1) st M3 fu (by omega) (by omega) (by omega) ⟨c', i', o', l3⟩ hC3 hv
          rw [es]
          refine ⟨M5, head _ ?_, l5, c5, fr_trans f3' f5⟩
          rw [m1, m2, m3, al.1 kk, Option.bind_some, if_neg nz10']
          unfold fX0_plan
          rw [Option.bind_some, e3, Option.bind_some, co, Option.bind_some]
          dsimp only
          rw [hC3.1, if_pos (show zN st.1 ≤ zN (cst (plP P c' i' o')) by rw [zN_leT (by omega)]; trivial), e119]; exact e5
      · have es : sv P c i o k st = st := by
          unfold sv; rw [hn]; dsimp only; rw [if_neg (pB_f kk)]
        obtain ⟨M5, e5, l5, c5, f5⟩ := ih (k + 1) st M fu (by omega) (by omega) (by omega) ⟨x, y, z, hL⟩ hC hv
        rw [es]
        refine ⟨M5, head _ ?_, l5, c5, f5⟩
        rw [m1, m2, m3, al.2 kk, Option.bind_some, if_pos (show ((zN 0, M) : Int32 × zMM).1 = 0 from rfl), e119]; exact e5
    · have es : sv P c i o k st = st := by unfold sv; rw [hn]
      have al : fX0_allows 10 (-zN 1) (zN i + zst 4 k) (zN o + zst 5 k) M = some (zN 0, M) := by
        unfold fX0_allows
        rw [if_pos (zm_neg (by omega))]; rfl
      obtain ⟨M5, e5, l5, c5, f5⟩ := ih (k + 1) st M fu (by omega) (by omega) (by omega) ⟨x, y, z, hL⟩ hC hv
      rw [es]
      refine ⟨M5, head _ ?_, l5, c5, f5⟩
      rw [m1, al, Option.bind_some, if_pos (show ((zN 0, M) : Int32 × zMM).1 = 0 from rfl), e119]; exact e5
/-! the model's neighbours -/
theorem sf31 (a1 V F : Int32) (n c i o k : Nat) (hk : k < 6) (M : zMM) : fX7_stepFrom_31 a1 (n + 1) V F (zN c) (zN i) (zN o) (zN k) M = fX7_stepFrom_105 (fX7_stepFrom_31 a1 n) a1 V F (zN c) (zN i) (zN o) (zN k) (zN c + zst 3 k) (zN i + zst 4 k) (zst 5 k) (zN o) M := by
  have e : k = 0 ∨ k = 1 ∨ k = 2 ∨ k = 3 ∨ k = 4 ∨ k = 5 := by omega
  rw [fX7_stepFrom_31]
  rcases e with rfl | rfl | rfl | rfl | rfl | rfl <;> rfl
def SS (v : Nat) (b : Bool) (c i o : Nat) (M : zMM) : Prop := b = true → M.1 169 0 = zN c ∧ M.1 169 1 = zN i ∧ M.1 169 2 = zN o
theorem SS_fr {v c i o : Nat} {b : Bool} {M M' : zMM} (h : SS v b c i o M) (e : ∀ j, M'.1 169 j = M.1 169 j) : SS v b c i o M' := fun q => by rw [e, e, e]; exact h q
theorem sf_lp {P : Nat → Nat} (hP : Good P) {c i o : Nat} (h : pOK P c i o) (a1 : Int32) : ∀ f k st M fuel, 6 - k = f → k ≤ 6 → f < fuel → (∃ x y z, MNow M (plP P x y z)) → SS st.1 st.2.1 st.2.2.1 st.2.2.2.1 st.2.2.2.2 M → st.1 < 100000000 →
    ∃ M', fX7_stepFrom_31 a1 fuel (zN st.1) (bz st.2.1) (zN c) (zN i) (zN o) (zN k) M = some (if (sF P c i o f k st).2.1 = true then zN (sF P c i o f k st).1 else -zN 1, M') ∧ MNow M' (plP P c i o) ∧ SS (sF P c i o f k st).1 (sF P c i o f k st).2.1 (sF P c i o f k st).2.2.1 (sF P c i o f k st).2.2.2.1 (sF P c i o f k st).2.2.2.2 M' ∧ fr (fun c j => MS c j ∨ c = 159 ∨ c = 169) M M' := by
  intro f
  induction f with
  | zero =>
    intro k st M fuel hf hk hfu hM hS hv
    obtain ⟨fu, rfl⟩ : ∃ q, fuel = q + 1 := ⟨fuel - 1, by omega⟩
    have e : k = 6 := by omega
    subst e
    obtain ⟨x, y, z, hM⟩ := hM
    have n1 := MNow_pl (c := c) (i := i) (o := o) hM
    rw [plP_plP] at n1
    have f1 := fr_pl7 M (zN c) (zN i) (zN o)
    refine ⟨_, ?_, n1, SS_fr hS (fun j => f1.1 _ _ (by omega)), fr_mono f1 (fun c j a => Or.inr (Or.inl a))⟩
    rw [fX7_stepFrom_31, if_pos (show (6 : Int32) ≤ zN 6 by decide)]
    unfold fX7_putPlan
    rw [Option.bind_some]
    show (if bz st.2.1 = 0 then _ else _) = some (if st.2.1 = true then zN st.1 else -zN 1, _)
    cases st.2.1
    · rw [if_pos (show bz false = 0 from rfl), if_neg (by decide)]; rfl
    · rw [if_neg (show ¬ bz true = 0 by decide), if_pos rfl]
  | succ f ih =>
    intro k st M fuel hf hk hfu hM hS hv
    obtain ⟨fu, rfl⟩ : ∃ q, fuel = q + 1 := ⟨fuel - 1, by omega⟩
    have k1 : zN k + 1 = zN (k + 1) := zN_add k 1
    obtain ⟨x, y, z, hM⟩ := hM
    have e178 : ∀ (a b : Int32) (M' : zMM), fX7_stepFrom_178 (fX7_stepFrom_31 a1 fu) a1 a b (zN c) (zN i) (zN o) (zN k) M' = fX7_stepFrom_31 a1 fu a b (zN c) (zN i) (zN o) (zN (k + 1)) M' := by
      intro a b M'; unfold fX7_stepFrom_178; rw [k1]
    rw [sF, sf31 a1 _ _ fu c i o k (by omega) M]
    unfold fX7_stepFrom_105
    rcases mvA hP (show k < 6 by omega) h with ⟨c', i', o', hn, m1, m2, m3, b1, b2, b3⟩ | ⟨hn, m1⟩
    · have cb := canBe7 (pl_b hP x y z) hM (c := c') (i := i') (o := o') b1 b2 b3
      rw [pOK_pl] at cb
      rw [m1, m2, m3]
      by_cases kk : pOK P c' i' o'
      · have hQ := Good_pl hP kk
        have n2 := MNow_pl (c := c') (i := i') (o := o') hM
        rw [plP_plP] at n2
        have f2 := fr_pl7 M (zN c') (zN i') (zN o')
        obtain ⟨M3, e3, s3, f3⟩ := costNow7 hQ n2
        have n3 := MNow_fr n2 f3
        have clt := cst_lt hQ
        have f3' : fr (fun c j => MS c j ∨ c = 159 ∨ c = 169) M M3 := fr_trans (fr_mono f2 (fun c j a => Or.inr (Or.inl a))) (fr_mono f3 (fun c j a => Or.inl a))
        rw [cb.1 kk, Option.bind_some, if_neg nz10']
        unfold fX7_putPlan
        rw [Option.bind_some, e3, Option.bind_some]
        dsimp only
        by_cases better : cst (plP P c' i' o') < st.1
        · have es : sv P c i o k st = (cst (plP P c' i' o'), true, c', i', o') := by
            unfold sv; rw [hn]; dsimp only; rw [if_pos (pB_t kk), if_pos better]
          have f4 : fr (fun c j => MS c j ∨ c = 159 ∨ c = 169) M (wr (wr (wr M3 169 0 (zN c')) 169 1 (zN i')) 169 2 (zN o')) := fr_wr (fr_wr (fr_wr f3' (by omega)) (by omega)) (by omega)
          obtain ⟨M5, e5, n5, s5, f5⟩ := ih (k + 1) (cst (plP P c' i' o'), true, c', i', o') (wr (wr (wr M3 169 0 (zN c')) 169 1 (zN i')) 169 2 (zN o')) fu (by omega) (by omega) (by omega) ⟨c', i', o', fun j hj => by rw [wr_nj (by omega), wr_nj (by omega), wr_nj (by omega)]; exact n3 j hj⟩ (fun _ => ⟨by rw [wr_nj (by omega), wr_nj (by omega), wr_cj], by rw [wr_nj (by omega), wr_cj], by rw [wr_cj]⟩) clt
          rw [es]
          refine ⟨M5, ?_, n5, s5, fr_trans f4 f5⟩
          rw [if_pos (show zN (cst (plP P c' i' o')) < zN st.1 by rw [zN_ltT (by omega)]; trivial), e178]; exact e5
        · have es : sv P c i o k st = st := by
            unfold sv; rw [hn]; dsimp only; rw [if_pos (pB_t kk), if_neg better]
          obtain ⟨M5, e5, n5, s5, f5⟩ := ih (k + 1) st M3 fu (by omega) (by omega) (by omega) ⟨c', i', o', n3⟩ (SS_fr hS (fun j => by rw [f3.1 _ _ (by unfold MS; omega), f2.1 _ _ (by omega)])) hv
          rw [es]
          refine ⟨M5, ?_, n5, s5, fr_trans f3' f5⟩
          rw [if_neg (show ¬ zN (cst (plP P c' i' o')) < zN st.1 by rw [zN_ltF (by omega)]; exact id), e178]; exact e5
      · have es : sv P c i o k st = st := by
          unfold sv; rw [hn]; dsimp only; rw [if_neg (pB_f kk)]
        obtain ⟨M5, e5, n5, s5, f5⟩ := ih (k + 1) st M fu (by omega) (by omega) (by omega) ⟨x, y, z, hM⟩ hS hv
        rw [es]
        refine ⟨M5, ?_, n5, s5, f5⟩
        rw [cb.2 kk, Option.bind_some, if_pos (show ((zN 0, M) : Int32 × zMM).1 = 0 from rfl), e178]; exact e5
    · have es : sv P c i o k st = st := by unfold sv; rw [hn]
      have cb : fX7_canBe (-zN 1) (zN i + zst 4 k) (zN o + zst 5 k) M = some (zN 0, M) := by
        have t1 := in7g (zm_neg (b := 1) (by omega)) (lo := 0) (by omega) (zN 9) M
        unfold fX7_canBe fX7_canPlan
        simp only [zN_lit]
        rw [t1]; rfl
      obtain ⟨M5, e5, n5, s5, f5⟩ := ih (k + 1) st M fu (by omega) (by omega) (by omega) ⟨x, y, z, hM⟩ hS hv
      rw [es]
      refine ⟨M5, ?_, n5, s5, f5⟩
      rw [m1, cb, Option.bind_some, if_pos (show ((zN 0, M) : Int32 × zMM).1 = 0 from rfl), e178]; exact e5
/-! a climb has an end -/
def cnt (p : Nat → Bool) : Nat → Nat
  | 0 => 0
  | n + 1 => cnt p n + (if p n = true then 1 else 0)
theorem cnt_le {p q : Nat → Bool} : ∀ n, (∀ x, x < n → p x = true → q x = true) → cnt p n ≤ cnt q n := by
  intro n
  induction n with
  | zero => intro _; exact Nat.le_refl _
  | succ n ih =>
    intro h
    have a := ih (fun x hx => h x (by omega))
    have b := h n (by omega)
    rw [cnt, cnt]
    by_cases c : p n = true
    · rw [if_pos c, if_pos (b c)]; omega
    · rw [if_neg c]; omega
theorem cnt_lt {p q : Nat → Bool} : ∀ n, (∀ x, x < n → p x = true → q x = true) → (∃ x, x < n ∧ q x = true ∧ ¬ p x = true) → cnt p n < cnt q n := by
  intro n
  induction n with
  | zero => rintro _ ⟨x, hx, -⟩; omega
  | succ n ih =>
    rintro h ⟨x, hx, h1, h2⟩
    have b := h n (by omega)
    rw [cnt, cnt]
    by_cases e : x = n
    · subst e
      have a := cnt_le (p := p) (q := q) x (fun y hy => h y (by omega))
      rw [if_neg h2, if_pos h1]; omega
    · have a := ih (fun y hy => h y (by omega)) ⟨x, by omega, h1, h2⟩
      by_cases c : p n = true
      · rw [if_pos c, if_pos (b c)]; omega
      · rw [if_neg c]; omega
theorem cnt_n (p : Nat → Bool) : ∀ n, cnt p n ≤ n := by
  intro n
  induction n with
  | zero => exact Nat.le_refl _
  | succ n ih => rw [cnt]; split <;> omega
def cvx (P : Nat → Nat) (v x : Nat) : Bool := decide (cst (plP P (x / 1024) (x % 1024 / 32 + 9) (x % 32 + 9)) < v)
def mu (P : Nat → Nat) (v : Nat) : Nat := cnt (cvx P v) 10240
theorem dec_ok {P : Nat → Nat} {c i o : Nat} (h : pOK P c i o) : ∃ x, x < 10240 ∧ x / 1024 = c ∧ x % 1024 / 32 + 9 = i ∧ x % 32 + 9 = o := by
  unfold pOK at h
  exact ⟨1024 * c + 32 * (i - 9) + (o - 9), by omega, by omega, by omega, by omega⟩
theorem mu_lt {P : Nat → Nat} {c i o v v' : Nat} (h : pOK P c i o) (e : cst (plP P c i o) = v') (hv : v' < v) : mu P v' < mu P v := by
  obtain ⟨x, hx, e1, e2, e3⟩ := dec_ok h
  unfold mu
  refine cnt_lt 10240 (fun y _ hy => ?_) ⟨x, hx, ?_, ?_⟩
  · unfold cvx at hy ⊢
    rw [decide_eq_true_eq] at hy ⊢; omega
  · unfold cvx; rw [decide_eq_true_eq, e1, e2, e3, e]; exact hv
  · unfold cvx; rw [decide_eq_true_eq, e1, e2, e3, e]; omega
theorem mu_0 {P : Nat → Nat} {c i o v : Nat} (h : pOK P c i o) (e : cst (plP P c i o) = v) : mu P v ≤ 10239 := by
  obtain ⟨x, hx, e1, e2, e3⟩ := dec_ok h
  have a : mu P v < cnt (fun _ => true) 10240 := by
    unfold mu
    refine cnt_lt 10240 (fun y _ _ => rfl) ⟨x, hx, rfl, ?_⟩
    unfold cvx; rw [decide_eq_true_eq, e1, e2, e3, e]; omega
  have b := cnt_n (fun _ => true) 10240
  omega
theorem sF_nf {P : Nat → Nat} {c i o : Nat} : ∀ f k st, (sF P c i o f k st).2.1 = false → sF P c i o f k st = st := by
  intro f
  induction f with
  | zero => intro k st _; rfl
  | succ f ih =>
    intro k st h
    rw [sF] at h ⊢
    have e := ih (k + 1) _ h
    rw [e] at h ⊢
    revert h
    unfold sv
    cases nb k c i o with
    | none => intro _; rfl
    | some q =>
      dsimp only
      by_cases a : pB P q.1 q.2.1 q.2.2 = true
      · rw [if_pos a]
        by_cases b : cst (plP P q.1 q.2.1 q.2.2) < st.1
        · rw [if_pos b]; intro h; cases h
        · rw [if_neg b]; intro _; rfl
      · rw [if_neg a]; intro _; rfl
def CLc (P : Nat → Nat) (N c i o v k c' i' o' v' : Nat) : Prop := ∀ M l fuel, N < fuel → l + N ≤ 10239 → (∃ x y z, Leaf M 10 (plP P x y z)) → CS v c i o M → ∃ M', fX3_climb_17 10 fuel (zN l) M = some (zN (l + k), M') ∧ CS v' c' i' o' M' ∧ fr (fun c _ => c = 10 ∨ (120 ≤ c ∧ c ≤ 148)) M M'
def CLm (P : Nat → Nat) (N c i o v k c' i' o' v' : Nat) : Prop := ∀ M l fuel, N < fuel → MNow M (plP P c i o) → ∃ M', ((fX7_stepFrom (zN v) M).bind fun q3 => fX7_climbs_22 fuel (zN v) (zN l) q3.1 q3.2) = fX7_climbs_70 zFU (zN v') (zN (l + k)) (zN 0) (wr M' 158 4 (zN 0)) ∧ MNow M' (plP P c' i' o') ∧ fr (fun c j => MS c j ∨ c = 159 ∨ c = 169) M M'
theorem cl_c {P : Nat → Nat} (hP : Good P) {c i o v : Nat} (k : pOK P c i o) (hv : v < 100000000) {M : zMM} (hL : ∃ x y z, Leaf M 10 (plP P x y z)) (hC : CS v c i o M) : ∃ M1, fX3_findBetter 10 M = some (bz (sF P c i o 6 0 (v, false, c, i, o)).2.1, M1) ∧ (∃ x y z, Leaf M1 10 (plP P x y z)) ∧ CS (sF P c i o 6 0 (v, false, c, i, o)).1 (sF P c i o 6 0 (v, false, c, i, o)).2.2.1 (sF P c i o 6 0 (v, false, c, i, o)).2.2.2.1 (sF P c i o 6 0 (v, false, c, i, o)).2.2.2.2 M1 ∧ fr (fun c _ => c = 10 ∨ (120 ≤ c ∧ c ≤ 148)) M M1 := by
  obtain ⟨M1, e1, l1, c1, f1⟩ := fbt_lp hP k 6 0 (v, false, c, i, o) M zFU rfl (by omega) (by rw [zFU_eq]; omega) hL hC hv
  refine ⟨M1, ?_, l1, c1, f1⟩
  obtain ⟨h3, h0, h1, h2⟩ := hC
  unfold fX3_findBetter
  rw [h0, h1, h2]; exact e1
theorem cl_m {P : Nat → Nat} (hP : Good P) {c i o v : Nat} (k : pOK P c i o) (hv : v < 100000000) {M : zMM} (hM : MNow M (plP P c i o)) : ∃ M1, fX7_stepFrom (zN v) M = some (if (sF P c i o 6 0 (v, false, c, i, o)).2.1 = true then zN (sF P c i o 6 0 (v, false, c, i, o)).1 else -zN 1, M1) ∧ MNow M1 (plP P c i o) ∧ SS (sF P c i o 6 0 (v, false, c, i, o)).1 (sF P c i o 6 0 (v, false, c, i, o)).2.1 (sF P c i o 6 0 (v, false, c, i, o)).2.2.1 (sF P c i o 6 0 (v, false, c, i, o)).2.2.2.1 (sF P c i o 6 0 (v, false, c, i, o)).2.2.2.2 M1 ∧ fr (fun c j => MS c j ∨ c = 159 ∨ c = 169) M M1 := by
  obtain ⟨M1, e1, n1, s1, f1⟩ := sf_lp hP k (zN v) 6 0 (v, false, c, i, o) M zFU rfl (by omega) (by rw [zFU_eq]; omega) ⟨c, i, o, hM⟩ (fun h => by cases h) hv
  refine ⟨M1, ?_, n1, s1, f1⟩
  have m2 := hM 2 (by omega)
  have m3 := hM 3 (by omega)
  have m4 := hM 4 (by omega)
  rw [plP_2] at m2; rw [plP_3] at m3; rw [plP_4] at m4
  unfold fX7_stepFrom
  rw [m2, m3, m4]; exact e1
theorem cl_stop {P : Nat → Nat} (hP : Good P) {N c i o v : Nat} (k : pOK P c i o) (hv : v < 100000000) (nf : (sF P c i o 6 0 (v, false, c, i, o)).2.1 = false) : CLc P N c i o v 0 c i o v ∧ CLm P N c i o v 0 c i o v := by
  have est := sF_nf 6 0 _ nf
  constructor
  · intro M l fuel hf hl hL hC
    obtain ⟨fu, rfl⟩ : ∃ q, fuel = q + 1 := ⟨fuel - 1, by omega⟩
    obtain ⟨M1, e1, l1, c1, f1⟩ := cl_c hP k hv hL hC
    rw [nf] at e1
    rw [est] at c1
    refine ⟨M1, ?_, c1, f1⟩
    rw [fX3_climb_17, if_neg (show ¬ (10240 : Int32) ≤ zN l by show ¬ zN 10240 ≤ zN l; rw [zN_leF (by omega)]; exact id), e1, Option.bind_some]
    exact if_pos rfl
  · intro M l fuel hf hM
    obtain ⟨fu, rfl⟩ : ∃ q, fuel = q + 1 := ⟨fuel - 1, by omega⟩
    obtain ⟨M1, e1, n1, s1, f1⟩ := cl_m hP k hv hM
    rw [nf, if_neg (by decide)] at e1
    refine ⟨M1, ?_, n1, f1⟩
    rw [e1, Option.bind_some, fX7_climbs_22]
    exact if_pos rfl
theorem climb_both {P : Nat → Nat} (hP : Good P) : ∀ N c i o v, pOK P c i o → cst (plP P c i o) = v → mu P v ≤ N → ∃ k c' i' o' v', pOK P c' i' o' ∧ v' < 100000000 ∧ k ≤ N ∧ CLc P N c i o v k c' i' o' v' ∧ CLm P N c i o v k c' i' o' v' := by
  intro N
  induction N with
  | zero =>
    intro c i o v k e hm
    have hv : v < 100000000 := by rw [← e]; exact cst_lt (Good_pl hP k)
    have ok : okS P v (sF P c i o 6 0 (v, false, c, i, o)) := okS_sF 6 0 _ ⟨Nat.le_refl _, fun h => by cases h⟩
    cases hf : (sF P c i o 6 0 (v, false, c, i, o)).2.1 with
    | false =>
      have := cl_stop hP (N := 0) k hv hf
      exact ⟨0, c, i, o, v, k, hv, Nat.le_refl _, this.1, this.2⟩
    | true =>
      obtain ⟨a, b, d⟩ := ok.2 hf
      have := mu_lt b d a
      omega
  | succ N ih =>
    intro c i o v k e hm
    have hv : v < 100000000 := by rw [← e]; exact cst_lt (Good_pl hP k)
    have ok : okS P v (sF P c i o 6 0 (v, false, c, i, o)) := okS_sF 6 0 _ ⟨Nat.le_refl _, fun h => by cases h⟩
    cases hf : (sF P c i o 6 0 (v, false, c, i, o)).2.1 with
    | false =>
      have := cl_stop hP (N := N + 1) k hv hf
      exact ⟨0, c, i, o, v, k, hv, Nat.zero_le _, this.1, this.2⟩
    | true =>
      obtain ⟨a, b, d⟩ := ok.2 hf
      have hmu := mu_lt b d a
      obtain ⟨j, c', i', o', v', k', hv', hj, hC', hM'⟩ := ih _ _ _ _ b d (by omega)
      refine ⟨j + 1, c', i', o', v', k', hv', by omega, ?_, ?_⟩
      · intro M l fuel hfu hl hL hC
        obtain ⟨fu, rfl⟩ : ∃ q, fuel = q + 1 := ⟨fuel - 1, by omega⟩
        obtain ⟨M1, e1, l1, c1, f1⟩ := cl_c hP k hv hL hC
        rw [hf] at e1
        obtain ⟨M2, e2, c2, f2⟩ := hC' M1 (l + 1) fu (by omega) (by omega) l1 c1
        refine ⟨M2, ?_, c2, fr_trans f1 f2⟩
        have l1' : zN l + 1 = zN (l + 1) := zN_add l 1
        rw [fX3_climb_17, if_neg (show ¬ (10240 : Int32) ≤ zN l by show ¬ zN 10240 ≤ zN l; rw [zN_leF (by omega)]; exact id), e1, Option.bind_some, if_neg (show ¬ ((bz true, M1) : Int32 × zMM).1 = 0 by show ¬ bz true = 0; decide), l1']
        rw [show l + (j + 1) = l + 1 + j by omega]; exact e2
      · intro M l fuel hfu hM
        obtain ⟨fu, rfl⟩ : ∃ q, fuel = q + 1 := ⟨fuel - 1, by omega⟩
        obtain ⟨M1, e1, n1, s1, f1⟩ := cl_m hP k hv hM
        rw [hf, if_pos rfl] at e1
        obtain ⟨g0, g1, g2⟩ := s1 hf
        have n2 := MNow_pl (c := (sF P c i o 6 0 (v, false, c, i, o)).2.2.1) (i := (sF P c i o 6 0 (v, false, c, i, o)).2.2.2.1) (o := (sF P c i o 6 0 (v, false, c, i, o)).2.2.2.2) n1
        rw [plP_plP] at n2
        have f2 := fr_pl7 M1 (zN (sF P c i o 6 0 (v, false, c, i, o)).2.2.1) (zN (sF P c i o 6 0 (v, false, c, i, o)).2.2.2.1) (zN (sF P c i o 6 0 (v, false, c, i, o)).2.2.2.2)
        obtain ⟨M3, e3, n3, f3⟩ := hM' _ (l + 1) fu (by omega) n2
        refine ⟨M3, ?_, n3, fr_trans f1 (fr_trans (fr_mono f2 (fun c j a => Or.inr (Or.inl a))) f3)⟩
        have l1' : zN l + 1 = zN (l + 1) := zN_add l 1
        have ok1 := ok.1
        rw [e1, Option.bind_some, fX7_climbs_22]
        simp only [zN_lit]
        rw [if_neg (show ¬ ((zN (sF P c i o 6 0 (v, false, c, i, o)).1, M1) : Int32 × zMM).1 = -zN 1 by show ¬ zN (sF P c i o 6 0 (v, false, c, i, o)).1 = -zN 1; rw [zm_eqF (by omega)]; exact id)]
        unfold fX7_putPlan
        rw [g0, g1, g2, Option.bind_some, show l + (j + 1) = l + 1 + j by omega, ← e3]
        have l1'' : zN l + zN 1 = zN (l + 1) := l1'
        rw [l1'']
theorem call_climbs : Cll fX6_climbs fX7_climbs := by
  refine Cll_of (fun P T R U K hw => ?_)
  have hP := hw.1
  have hU := hw.2.2.2.1.1
  have k0 := pOK_self hP
  have ecs : cst (plP P (P 2) (P 3) (P 4)) = cst P := by rw [plP_self]
  have hmu := mu_0 k0 ecs
  obtain ⟨k, c, i, o, v, kk, hv, hk, hC, hMM⟩ := climb_both hP 10239 (P 2) (P 3) (P 4) (cst P) k0 ecs hmu
  have clt := cst_lt hP
  refine ⟨zN k, P, T, [(zN c).toInt64, (zN i).toInt64, (zN o).toInt64, (zN v).toInt64], U, K, WF_R hw (by simp), fun M hM => ?_, fun M hM => ?_⟩
  · obtain ⟨M1, e1, l1, f1⟩ := copy0 hP (b := 10) hM.1 (by omega)
    obtain ⟨M2, e2, s2, l2, f2⟩ := cset0 hP (b := 10) (by omega) l1
    have co := costOf4 hP l2 s2
    obtain ⟨-, -, -, g3, g4, g5, -⟩ := l2.1
    have en : fX3_note 10 (zN (cst P)) M2 = some (wr (wr (wr (wr M2 148 0 (zN (P 2))) 148 1 (zN (P 3))) 148 2 (zN (P 4))) 148 3 (zN (cst P))) := by
      unfold fX3_note
      rw [g3, wr_nj (by omega), g4, wr_nj (by omega), wr_nj (by omega), g5]
    obtain ⟨M3, hM3⟩ : ∃ M3, M3 = wr (wr (wr (wr M2 148 0 (zN (P 2))) 148 1 (zN (P 3))) 148 2 (zN (P 4))) 148 3 (zN (cst P)) := ⟨_, rfl⟩
    have f3 : fr (fun c _ => c = 148) M2 M3 := by rw [hM3]; exact fr_wr (fr_wr (fr_wr (fr_wr (fr_refl _ _) (by omega)) (by omega)) (by omega)) (by omega)
    have c3 : CS (cst P) (P 2) (P 3) (P 4) M3 := by
      rw [hM3]
      exact ⟨by rw [wr_cj], by rw [wr_nj (by omega), wr_nj (by omega), wr_nj (by omega), wr_cj], by rw [wr_nj (by omega), wr_nj (by omega), wr_cj], by rw [wr_nj (by omega), wr_cj]⟩
    have l3 : Leaf M3 10 (plP P (P 2) (P 3) (P 4)) := by rw [plP_self]; exact Leaf_eq l2 (fun c j a b => f3.1 c j (by omega))
    obtain ⟨M4, e4, c4, f4⟩ := hC M3 0 zFU (by rw [zFU_eq]; omega) (by omega) ⟨_, _, _, l3⟩ c3
    rw [Nat.zero_add] at e4
    obtain ⟨h3, h0, h1, h2⟩ := c4
    obtain ⟨M5, e5, r5, y5⟩ := tell4 (zN c).toInt64 (zN i).toInt64 (zN o).toInt64 (zN v).toInt64 M4
    have l0 : Leaf M5 0 P := Leaf_eq hM.1 (fun c j a b => by rw [y5.1 c j (by omega), f4.1 c j (by omega), f3.1 c j (by omega), f2.1 c j (by omega), f1.1 c j (by omega)])
    refine ⟨M5, ?_, CI_q hM hU (cq_trans (cq_leaf (by omega) f1) (cq_trans (cq_set f2) (cq_trans (cq_fr f3 (fun c j a => by unfold CW; omega)) (cq_trans (cq_fr f4 (fun c j a => by unfold CW; omega)) (cq_Y y5))))) l0 r5⟩
    unfold fX6_climbs fX3_climb
    rw [e1, Option.bind_some, e2, Option.bind_some, co, Option.bind_some, en, Option.bind_some, ← hM3]
    have e4' : fX3_climb_17 10 zFU 0 M3 = some (zN k, M4) := e4
    rw [e4', Option.bind_some, h0, h1, h2, h3, e5]; rfl
  · have h0 := MNow_w (j := 5) (v := zN 0) hM.1
    obtain ⟨M1, e1, as1, n1, f1⟩ := aside7 h0
    obtain ⟨M2, e2, s2, f2⟩ := costNow7 hP n1
    have n2 : MNow M2 (plP P (P 2) (P 3) (P 4)) := by rw [plP_self]; exact MNow_fr n1 f2
    have as2 := AS_fr as1 f2 (fun j a => by unfold MS at a; omega)
    obtain ⟨M3, e3, n3, f3⟩ := hMM M2 0 zFU (by rw [zFU_eq]; omega) n2
    rw [Nat.zero_add] at e3
    have as3 := AS_fr as2 f3 (fun j a => by unfold MS at a; omega)
    have n3' := MNow_w (j := 4) (v := zN 0) n3
    have m2 := n3' 2 (by omega)
    rw [plP_2] at m2
    obtain ⟨M4, e4, r4, x4⟩ := tell7 (MR_nil M3) (by simp) (zN c).toInt64
    have n4 := MNow_X n3' x4
    have m3 := n4 3 (by omega)
    rw [plP_3] at m3
    obtain ⟨M5, e5, r5, x5⟩ := tell7 r4 (by simp) (zN i).toInt64
    have n5 := MNow_X n4 x5
    have m4 := n5 4 (by omega)
    rw [plP_4] at m4
    obtain ⟨M6, e6, r6, x6⟩ := tell7 r5 (by simp) (zN o).toInt64
    obtain ⟨M7, e7, r7, x7⟩ := tell7 r6 (by simp) (zN v).toInt64
    have as7 := AS_X (AS_X (AS_X (AS_X (AS_w (c := 158) (j := 4) (v := zN 0) as3 (by omega)) x4) x5) x6) x7
    obtain ⟨M8, e8, n8, f8⟩ := back7 as7
    have r8 := MR_q (MR4 r7) f8 (by omega)
    have f3q : mq M2 M3 := mq_fr f3 (fun c j a => by unfold MS at a; unfold MSc; omega)
    refine ⟨M8, ?_, MI_q hM (mq_trans (mq_w (j := 5) (v := zN 0) (by omega)) (mq_trans (mq_166 f1) (mq_trans (mq_MS f2) (mq_trans f3q (mq_trans (mq_w (j := 4) (v := zN 0) (by omega)) (mq_trans (mq_X x4) (mq_trans (mq_X x5) (mq_trans (mq_X x6) (mq_trans (mq_X x7) (mq_159 f8)))))))))) n8 r8⟩
    have st : ∀ n l M v' w, l < 3 → M.1 159 (2 + l) = w → fX7_climbs_70 (n + 1) (zN v) (zN v') (zN l) M = (fX7_tell (Int32.toInt64 w) M).bind fun q5 => fX7_climbs_70 n (zN v) (zN v') (zN (l + 1)) q5 := by
      intro n l M v' w hl hw
      rw [fX7_climbs_70]
      simp (disch := omega) only [wr_cj, wr_nj, rng_in, rng_out, zN_lit, zN_add, zN_mul, zN_sub, zN_ltT, zN_ltF, zN_leT, zN_leF, zN_eqT, zN_eqF, zN_lt, zN_le, zN_eq, zN_nat, zN_oobF, Option.bind_some, ↓reduceIte, Nat.one_mul, Nat.zero_add, Nat.add_zero, Nat.reduceAdd, Nat.reduceMul, Nat.reduceSub, Nat.reduceLT, Nat.reduceLeDiff, Nat.reduceEqDiff, reduceCtorEq, true_or, or_true, false_or, or_false, true_and, and_true, false_and, and_false, not_true_eq_false, not_false_eq_true, wr_2, wrL_1, zm_eqF, zm_eqF', zm_lt, zm_lt', zm_le, zm_le', zm_sub1, zN_01, Nat.mul_zero, Nat.zero_mul, Nat.mul_one, Nat.sub_zero, Nat.sub_self, Nat.add_sub_cancel, hw]
    have en : ∀ n M v', fX7_climbs_70 (n + 1) (zN v) (zN v') (zN (0 + 1 + 1 + 1)) M = (fX7_tell (Int32.toInt64 (zN v)) M).bind fun q2 => (fX7_comesBack q2).bind fun q3 => some (zN v', q3) := by
      intro n M v'
      rw [fX7_climbs_70]
      simp (disch := omega) only [wr_cj, wr_nj, rng_in, rng_out, zN_lit, zN_add, zN_mul, zN_sub, zN_ltT, zN_ltF, zN_leT, zN_leF, zN_eqT, zN_eqF, zN_lt, zN_le, zN_eq, zN_nat, zN_oobF, Option.bind_some, ↓reduceIte, Nat.one_mul, Nat.zero_add, Nat.add_zero, Nat.reduceAdd, Nat.reduceMul, Nat.reduceSub, Nat.reduceLT, Nat.reduceLeDiff, Nat.reduceEqDiff, reduceCtorEq, true_or, or_true, false_or, or_false, true_and, and_true, false_and, and_false, not_true_eq_false, not_false_eq_true, wr_2, wrL_1, zm_eqF, zm_eqF', zm_lt, zm_lt', zm_le, zm_le', zm_sub1, zN_01, Nat.mul_zero, Nat.zero_mul, Nat.mul_one, Nat.sub_zero, Nat.sub_self, Nat.add_sub_cancel]
    have gen : ∀ f, fX7_climbs_70 (f + 1 + 1 + 1 + 1) (zN v) (zN k) (zN 0) (wr M3 158 4 (zN 0)) = some (zN k, M8) := by
      intro f
      rw [st _ 0 _ _ _ (by omega) m2, e4, Option.bind_some, st _ _ _ _ _ (by omega) m3, e5, Option.bind_some, st _ _ _ _ _ (by omega) m4, e6, Option.bind_some, en, e7, Option.bind_some, e8]; rfl
    unfold fX7_climbs
    simp only [zN_lit]
    rw [e1, Option.bind_some, e2, Option.bind_some]
    refine Eq.trans e3 ?_
    exact gen 2147483644
