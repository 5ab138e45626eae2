/-! the text of a day, and its acts -/
def plT (T : List Nat) : Nat → Nat
  | 0 => 0
  | i + 1 => plT T i + 1 + dg (tt T (plT T i))
theorem plT_ge (T : List Nat) : ∀ i, i ≤ plT T i := by
  intro i
  induction i with
  | zero => exact Nat.le_refl _
  | succ i ih => rw [plT]; omega
def aok (T : List Nat) (p : Nat) : Prop := p < T.length ∧ isL (tt T p) ∧ ∀ q, q < dg (tt T p) → dok T (p + 1 + q)
theorem AR_fr {T : List Nat} {p a : Nat} {M M' : zMM} (h : AR T p a M) (f : ∀ j, a ≤ j → j ≤ a + 3 → M'.1 162 j = M.1 162 j) : AR T p a M' :=
  ⟨by rw [f _ (by omega) (by omega)]; exact h.1, fun q => by rw [f _ (by omega) (by omega)]; exact h.2.1 q, fun q => by rw [f _ (by omega) (by omega)]; exact h.2.2.1 q, fun q => by rw [f _ (by omega) (by omega)]; exact h.2.2.2 q⟩
theorem day_bad7 {e m : Nat} {l : Int32} {M : zMM} (h : M.1 158 8 = zN e) (he : e < 1000) : fX7_day_11 (m + 1) l M = fX7_day_42 l M := by
  have a := fineF h he
  rw [fX7_day_11, a, Option.bind_some, if_pos z00]
theorem day_end7 {T : List Nat} (hT : T.length ≤ 80) {m : Nat} {l : Int32} {M : zMM} (ht : TR T T.length M) : fX7_day_11 (m + 1) l M = fX7_day_42 l M := by
  have a := fineT ht.2.2.1
  have b := ht.1
  have c := ht.2.1
  rw [fX7_day_11, a, Option.bind_some, if_neg nz10']
  dsimp only
  rw [b, c, if_pos (show zN T.length ≤ zN T.length by rw [zN_leT (by omega)]; trivial)]
theorem day_go7 {T : List Nat} {p i m : Nat} {M M' : zMM} (hT : T.length ≤ 80) (hp : p < T.length) (ht : TR T p M) (h : fX7_readAct (zN (4 * i)) M = some M') : fX7_day_11 (m + 1) (zN i) M = fX7_day_11 m (zN (i + 1)) M' := by
  have a := fineT ht.2.2.1
  have b := ht.1
  have c := ht.2.1
  have i4 : 4 * zN i = zN (4 * i) := zN_mul 4 i
  have i1 : zN i + 1 = zN (i + 1) := zN_add i 1
  rw [fX7_day_11, a, Option.bind_some, if_neg nz10']
  dsimp only
  rw [b, c, if_neg (show ¬ zN T.length ≤ zN p by rw [zN_leF (by omega)]; exact id), i4, h, Option.bind_some, i1]
theorem fd_end {T : List Nat} {m : Nat} {M : zMM} (hT : T.length ≤ 80) (hM : CT T M) : fX6_faultOfDay_2 (m + 1) (zN T.length) M = some (zN 0, M) := by
  have a := hM.1
  rw [fX6_faultOfDay_2, a, if_pos (show zN T.length ≤ zN T.length by rw [zN_leT (by omega)]; trivial)]; rfl
theorem zp1k {p k : Nat} : zN p + (1 + zN k) = zN (p + 1 + k) := by
  show zN p + (zN 1 + zN k) = _
  rw [zN_add, zN_add, Nat.add_assoc]
theorem fd_go {T : List Nat} {p m : Nat} {M : zMM} (hT : T.length ≤ 80) (hM : CT T M) (h : aok T p) : fX6_faultOfDay_2 (m + 1) (zN p) M = fX6_faultOfDay_2 m (zN (p + 1 + dg (tt T p))) M := by
  obtain ⟨h1, h2, h3⟩ := h
  have a := hM.1
  have d5 := dg_le (tt T p)
  have n1 := numT hT hM (p := p + 1) (by omega) d5 h3
  have b := nv_le T (p + 1) d5 h3 _ (Nat.le_refl _)
  have p1 : zN p + 1 = zN (p + 1) := zN_add p 1
  rw [fX6_faultOfDay_2, a, if_neg (show ¬ zN T.length ≤ zN p by rw [zN_leF (by omega)]; exact id), sign0 hT hM h1, Option.bind_some, digitsOfT h2, Option.bind_some, if_pos (ge0 (by omega)), p1, n1, Option.bind_some, if_pos (ge0 (by omega)), zp1k]
theorem fd_no {T : List Nat} {p m : Nat} {M : zMM} (hT : T.length ≤ 80) (hb : ∀ i, i < T.length → tt T i < 256) (hM : CT T M) (h1 : p < T.length) (h2 : ¬ isL (tt T p)) : fX6_faultOfDay_2 (m + 1) (zN p) M = some (-zN 1 - zN p, M) := by
  have a := hM.1
  rw [fX6_faultOfDay_2, a, if_neg (show ¬ zN T.length ≤ zN p by rw [zN_leF (by omega)]; exact id), sign0 hT hM h1, Option.bind_some, digitsOfF h2 (hb p h1), Option.bind_some, if_neg (show ¬ (0 : Int32) ≤ ((-zN 1, M) : Int32 × zMM).1 from (by decide : ¬ (0 : Int32) ≤ -zN 1))]
  rfl
theorem fd_bad {T : List Nat} {p m e : Nat} {M : zMM} (hT : T.length ≤ 80) (hb : ∀ i, i < T.length → tt T i < 256) (hM : CT T M) (h1 : p < T.length) (h2 : isL (tt T p)) (he : e < dg (tt T p)) (hd : ∀ j, j < e → dok T (p + 1 + j)) (hn : ¬ dok T (p + 1 + e)) : fX6_faultOfDay_2 (m + 1) (zN p) M = some (-zN 1 - zN (p + 1 + e), M) := by
  have a := hM.1
  have d5 := dg_le (tt T p)
  have n1 := numF hT hb hM (p := p + 1) (by omega) d5 he hd hn
  have p1 : zN p + 1 = zN (p + 1) := zN_add p 1
  rw [fX6_faultOfDay_2, a, if_neg (show ¬ zN T.length ≤ zN p by rw [zN_leF (by omega)]; exact id), sign0 hT hM h1, Option.bind_some, digitsOfT h2, Option.bind_some, if_pos (ge0 (by omega)), p1, n1, Option.bind_some, if_neg (ge0F (by omega))]
theorem day_chk {T : List Nat} (hT : T.length ≤ 80) (hb : ∀ i, i < T.length → tt T i < 256) : ∀ m i, T.length - plT T i ≤ m → plT T i ≤ T.length →
    (∃ n, i ≤ n ∧ plT T n = T.length ∧ (∀ j, i ≤ j → j < n → aok T (plT T j)) ∧
      (∀ M fuel, m < fuel → CT T M → fX6_faultOfDay_2 fuel (zN (plT T i)) M = some (zN 0, M)) ∧
      (∀ M fuel, m + 2 < fuel → TR T (plT T i) M → ∃ M', fX7_day_11 fuel (zN i) M = fX7_day_42 (zN n) M' ∧ TR T T.length M' ∧ (∀ j, j < 4 * i → M'.1 162 j = M.1 162 j) ∧ (∀ j, i ≤ j → j < n → AR T (plT T j) (4 * j) M') ∧ fr BF M M')) ∨
    ∃ e, e < 1000 ∧ (∀ M fuel, m < fuel → CT T M → fX6_faultOfDay_2 fuel (zN (plT T i)) M = some (-zN 1 - zN e, M)) ∧
      (∀ M fuel, m + 2 < fuel → TR T (plT T i) M → ∃ M' l, fX7_day_11 fuel (zN i) M = fX7_day_42 l M' ∧ M'.1 158 8 = zN e ∧ fr BF M M') := by
  intro m
  induction m with
  | zero =>
    intro i hm hi
    have e : plT T i = T.length := by omega
    left
    refine ⟨i, Nat.le_refl _, e, fun j a b => absurd b (by omega), fun M fuel hf hM => ?_, fun M fuel hf hM => ?_⟩
    · obtain ⟨fu, rfl⟩ : ∃ q, fuel = q + 1 := ⟨fuel - 1, by omega⟩
      rw [e]; exact fd_end hT hM
    · obtain ⟨fu, rfl⟩ : ∃ q, fuel = q + 1 := ⟨fuel - 1, by omega⟩
      rw [e] at hM
      exact ⟨M, day_end7 hT hM, hM, fun j _ => rfl, fun j a b => absurd b (by omega), fr_refl _ _⟩
  | succ m ih =>
    intro i hm hi
    have ige := plT_ge T i
    by_cases e : plT T i = T.length
    · left
      refine ⟨i, Nat.le_refl _, e, fun j a b => absurd b (by omega), fun M fuel hf hM => ?_, fun M fuel hf hM => ?_⟩
      · obtain ⟨fu, rfl⟩ : ∃ q, fuel = q + 1 := ⟨fuel - 1, by omega⟩
        rw [e]; exact fd_end hT hM
      · obtain ⟨fu, rfl⟩ : ∃ q, fuel = q + 1 := ⟨fuel - 1, by omega⟩
        rw [e] at hM
        exact ⟨M, day_end7 hT hM, hM, fun j _ => rfl, fun j a b => absurd b (by omega), fr_refl _ _⟩
    · have hp : plT T i < T.length := by omega
      by_cases hl : isL (tt T (plT T i))
      · rcases num_case T (plT T i + 1) (dg (tt T (plT T i))) with hd | ⟨e, he, hd, hn⟩
        · have ok : aok T (plT T i) := ⟨hp, hl, hd⟩
          have ple : plT T (i + 1) = plT T i + 1 + dg (tt T (plT T i)) := rfl
          have pln : plT T (i + 1) ≤ T.length := by
            rw [ple]
            by_cases z : dg (tt T (plT T i)) = 0
            · omega
            · have := (hd (dg (tt T (plT T i)) - 1) (by omega)).1
              omega
          have g7 : ∀ M fu, TR T (plT T i) M → ∃ M', fX7_day_11 (fu + 1) (zN i) M = fX7_day_11 fu (zN (i + 1)) M' ∧ TR T (plT T (i + 1)) M' ∧ AR T (plT T i) (4 * i) M' ∧ fr (RF (4 * i)) M M' := by
            intro M fu hM
            obtain ⟨M', a, b, c, d⟩ := rOK (a := 4 * i) hT hb hM hp (by omega) hl hd
            exact ⟨M', day_go7 hT hp hM a, b, c, d⟩
          rcases ih (i + 1) (by omega) pln with ⟨n, h1, h2, h3, h4, h5⟩ | ⟨e, he, h4, h5⟩
          · left
            refine ⟨n, by omega, h2, fun j a b => ?_, fun M fuel hf hM => ?_, fun M fuel hf hM => ?_⟩
            · by_cases ej : j = i
              · rw [ej]; exact ok
              · exact h3 j (by omega) b
            · obtain ⟨fu, rfl⟩ : ∃ q, fuel = q + 1 := ⟨fuel - 1, by omega⟩
              rw [fd_go hT hM ok, ← ple]; exact h4 M fu (by omega) hM
            · obtain ⟨fu, rfl⟩ : ∃ q, fuel = q + 1 := ⟨fuel - 1, by omega⟩
              obtain ⟨M1, a1, b1, c1, d1⟩ := g7 M fu hM
              obtain ⟨M2, a2, b2, c2, d2, f2⟩ := h5 M1 fu (by omega) b1
              refine ⟨M2, by rw [a1, a2], b2, fun j hj => ?_, fun j a b => ?_, fr_trans (fr_mono d1 (fun c j q => by unfold RF at q; unfold BF; omega)) f2⟩
              · rw [c2 j (by omega), d1.1 _ _ (by unfold RF; omega)]
              · by_cases ej : j = i
                · rw [ej]; exact AR_fr c1 (fun j a b => c2 j (by omega))
                · exact d2 j (by omega) b
          · right
            refine ⟨e, he, fun M fuel hf hM => ?_, fun M fuel hf hM => ?_⟩
            · obtain ⟨fu, rfl⟩ : ∃ q, fuel = q + 1 := ⟨fuel - 1, by omega⟩
              rw [fd_go hT hM ok, ← ple]; exact h4 M fu (by omega) hM
            · obtain ⟨fu, rfl⟩ : ∃ q, fuel = q + 1 := ⟨fuel - 1, by omega⟩
              obtain ⟨M1, a1, b1, c1, d1⟩ := g7 M fu hM
              obtain ⟨M2, l, a2, b2, f2⟩ := h5 M1 fu (by omega) b1
              exact ⟨M2, l, by rw [a1, a2], b2, fr_trans (fr_mono d1 (fun c j q => by unfold RF at q; unfold BF; omega)) f2⟩
        · right
          have d5 := dg_le (tt T (plT T i))
          refine ⟨plT T i + 1 + e, by omega, fun M fuel hf hM => ?_, fun M fuel hf hM => ?_⟩
          · obtain ⟨fu, rfl⟩ : ∃ q, fuel = q + 1 := ⟨fuel - 1, by omega⟩
            exact fd_bad hT hb hM hp hl he hd hn
          · obtain ⟨fu, rfl⟩ : ∃ q, fuel = q + 1 + 1 := ⟨fuel - 2, by omega⟩
            obtain ⟨M', a, b, c⟩ := rBad (a := 4 * i) hT hb hM hp (by omega) hl he hd hn
            exact ⟨M', _, by rw [day_go7 hT hp hM a]; exact day_bad7 b (by omega), b, c⟩
      · right
        refine ⟨plT T i, by omega, fun M fuel hf hM => ?_, fun M fuel hf hM => ?_⟩
        · obtain ⟨fu, rfl⟩ : ∃ q, fuel = q + 1 := ⟨fuel - 1, by omega⟩
          exact fd_no hT hb hM hp hl
        · obtain ⟨fu, rfl⟩ : ∃ q, fuel = q + 1 + 1 := ⟨fuel - 2, by omega⟩
          have a := (rA0 (a := 4 * i) hT hb hM hp (by omega)).2 hl
          have b : (wr M 158 8 (zN (plT T i))).1 158 8 = zN (plT T i) := wr_cj _ _ _ _
          exact ⟨_, _, by rw [day_go7 hT hp hM a]; exact day_bad7 b (by omega), b, fr_wr (fr_refl _ _) (by unfold BF; omega)⟩
/-! the acts -/
theorem d69 {T : List Nat} {p : Nat} {l2 l3 : Int32} {M : zMM} (K : Int32 → Int32 → Int32 → zMM → Option (Int32 × zMM)) (hT : T.length ≤ 80) (hM : CT T M) (h : aok T p) : fX6_day_69 K l2 l3 (zN p) M = K l2 l3 (zN (p + 1 + dg (tt T p))) M := by
  unfold fX6_day_69
  rw [sign0 hT hM h.1, Option.bind_some, digitsOfT h.2.1, Option.bind_some]
  have e : (if (0 : Int32) < zN (dg (tt T p)) then zN (dg (tt T p)) else 0) = zN (dg (tt T p)) := by
    by_cases z : dg (tt T p) = 0
    · rw [z]; rfl
    · have d5 := dg_le (tt T p)
      exact if_pos (show zN 0 < zN (dg (tt T p)) by rw [zN_ltT (by omega)]; trivial)
  dsimp only
  rw [e, zp1k]
theorem day_acts {T : List Nat} (hT : T.length ≤ 80) {n : Nat} (hn : plT T n = T.length) : ∀ m i Q, m = n - i → i ≤ n → Good Q → (∀ j, i ≤ j → j < n → aok T (plT T j)) →
    ∃ k Q', i ≤ k ∧ k ≤ n ∧ Good Q' ∧ (k = i → Q' = Q) ∧
      (∀ M fuel, m + 1 < fuel → CT T M → Leaf M 0 Q → ∃ M', fX6_day_36 fuel (zN i) (zN 0) (zN (plT T i)) M = fX6_day_95 (zN k) (zN (if k < n then 1 else 0)) M' ∧ Leaf M' 0 Q' ∧ fr (fun c _ => CW c) M M') ∧
      (∀ M fuel, m < fuel → MNow M Q → (∀ j, i ≤ j → j < n → AR T (plT T j) (4 * j) M) → ∃ M', fX7_day_62 fuel (zN n) (zN i) M = fX7_day_83 (zN n) (zN k) M' ∧ MNow M' Q' ∧ fr AF M M') := by
  have n80 := plT_ge T n
  intro m
  induction m with
  | zero =>
    intro i Q hm hi hQ hok
    have e : i = n := by omega
    subst e
    refine ⟨i, Q, Nat.le_refl _, Nat.le_refl _, hQ, fun _ => rfl, fun M fuel hf hM hL => ⟨M, ?_, hL, fr_refl _ _⟩, fun M fuel hf hM hA => ⟨M, ?_, hM, fr_refl _ _⟩⟩
    · obtain ⟨fu, rfl⟩ : ∃ q, fuel = q + 1 := ⟨fuel - 1, by omega⟩
      have a := hM.1
      rw [hn, fX6_day_36, a, if_pos (show zN T.length ≤ zN T.length by rw [zN_leT (by omega)]; trivial), if_neg (by omega)]
    · obtain ⟨fu, rfl⟩ : ∃ q, fuel = q + 1 := ⟨fuel - 1, by omega⟩
      rw [fX7_day_62, if_pos (show zN i ≤ zN i by rw [zN_leT (by omega)]; trivial)]
  | succ m ih =>
    intro i Q hm hi hQ hok
    have ok := hok i (Nat.le_refl _) (by omega)
    have ige := plT_ge T i
    have ple : plT T (i + 1) = plT T i + 1 + dg (tt T (plT T i)) := rfl
    have i1 : zN i + 1 = zN (i + 1) := zN_add i 1
    have i4 : 4 * zN i = zN (4 * i) := zN_mul 4 i
    have pn : ¬ zN T.length ≤ zN (plT T i) := by have := ok.1; rw [zN_leF (by omega)]; exact id
    have inn : ¬ zN n ≤ zN i := by rw [zN_leF (by omega)]; exact id
    obtain ⟨f, g, ab, c6, c7⟩ := ap_all (a := 4 * i) hT hQ ok.1 (by have := ok.1; omega) ok.2.1 ok.2.2
    rcases ab with ⟨Q1, r, g1, hr, l6, l7⟩ | ⟨r, hr, l6, l7⟩
    · obtain ⟨k, Q', h1, h2, h3, h4, h5, h6⟩ := ih (i + 1) Q1 (by omega) (by omega) g1 (fun j a b => hok j (by omega) b)
      refine ⟨k, Q', by omega, h2, h3, fun q => absurd q (by omega), fun M fuel hf hM hL => ?_, fun M fuel hf hM hA => ?_⟩
      · obtain ⟨fu, rfl⟩ : ∃ q, fuel = q + 1 := ⟨fuel - 1, by omega⟩
        obtain ⟨M1, e1, l1, f1⟩ := l6 M hL
        have ct1 : CT T M1 := CT_fr hM (fun c j a => f1.1 c j (by unfold CW; omega))
        obtain ⟨M2, e2, l2, f2⟩ := h5 M1 fu (by omega) ct1 l1
        refine ⟨M2, ?_, l2, fr_trans f1 f2⟩
        have a := hM.1
        have d := c6 M hM
        rw [fX6_day_36, a, if_neg pn, if_pos (show zN 0 = 0 from rfl), d, e1, Option.bind_some, if_pos (show (0 : Int32) ≤ ((r, M1) : Int32 × zMM).1 from hr), d69 _ hT ct1 ok, i1, ← ple]
        exact e2
      · obtain ⟨fu, rfl⟩ : ∃ q, fuel = q + 1 := ⟨fuel - 1, by omega⟩
        obtain ⟨M1, e1, l1, f1⟩ := l7 M hM
        obtain ⟨M2, e2, l2, f2⟩ := h6 M1 fu (by omega) l1 (fun j a b => AR_fr (hA j (by omega) b) (fun q _ _ => f1.1 _ _ (by unfold AF GH GF MS; omega)))
        refine ⟨M2, ?_, l2, fr_trans f1 f2⟩
        have d := c7 M (hA i (Nat.le_refl _) (by omega))
        rw [fX7_day_62, if_neg inn, i4, d, e1, Option.bind_some, if_neg nz10', i1]
        exact e2
    · refine ⟨i, Q, Nat.le_refl _, hi, hQ, fun _ => rfl, fun M fuel hf hM hL => ?_, fun M fuel hf hM hA => ?_⟩
      · obtain ⟨fu, rfl⟩ : ∃ q, fuel = q + 1 + 1 := ⟨fuel - 2, by omega⟩
        obtain ⟨M1, e1, l1, f1⟩ := l6 M hL
        have ct1 : CT T M1 := CT_fr hM (fun c j a => f1.1 c j (by unfold CW; omega))
        refine ⟨M1, ?_, l1, f1⟩
        have a := hM.1
        have d := c6 M hM
        rw [fX6_day_36, a, if_neg pn, if_pos (show zN 0 = 0 from rfl), d, e1, Option.bind_some, if_neg (show ¬ (0 : Int32) ≤ ((r, M1) : Int32 × zMM).1 from hr), d69 _ hT ct1 ok, if_pos (by omega), fX6_day_36]
        by_cases z : M1.1 153 1 ≤ zN (plT T i + 1 + dg (tt T (plT T i)))
        · rw [if_pos z]; rfl
        · rw [if_neg z, if_neg (show ¬ (1 : Int32) = 0 by decide)]; rfl
      · obtain ⟨fu, rfl⟩ : ∃ q, fuel = q + 1 := ⟨fuel - 1, by omega⟩
        obtain ⟨M1, e1, l1, f1⟩ := l7 M hM
        refine ⟨M1, ?_, l1, f1⟩
        have d := c7 M (hA i (Nat.le_refl _) (by omega))
        rw [fX7_day_62, if_neg inn, i4, d, e1, Option.bind_some, if_pos z00]
