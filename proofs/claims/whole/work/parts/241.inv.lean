/-! THE STATE OF BOTH SIDES, PURE: page, text, row, past, kept -/
theorem loopE {α σ : Type} (F : Nat → σ → Option α) (I : Nat → σ → Prop) (N : Nat) (Q : Option α → Prop)
    (hs : ∀ i n s, i < N → I i s → Q (F (n + 1) s) ∨ ∃ s', F (n + 1) s = F n s' ∧ I (i + 1) s')
    (hN : ∀ n s, I N s → Q (F (n + 1) s)) (fuel : Nat) (s : σ) (hf : N < fuel) (h0 : I 0 s) : Q (F fuel s) := by
  have key : ∀ k i fuel s, N - i = k → i ≤ N → k < fuel → I i s → Q (F fuel s) := by
    intro k
    induction k with
    | zero =>
      intro i fuel s hk hi hf h
      have : i = N := by omega
      subst this
      obtain ⟨fu, rfl⟩ : ∃ q, fuel = q + 1 := ⟨fuel - 1, by omega⟩
      exact hN fu s h
    | succ k ih =>
      intro i fuel s hk hi hf h
      obtain ⟨fu, rfl⟩ : ∃ q, fuel = q + 1 := ⟨fuel - 1, by omega⟩
      rcases hs i fu s (by omega) h with q | ⟨s', e, h'⟩
      · exact q
      · rw [e]; exact ih (i + 1) fu s' (by omega) (by omega) (by omega) h'
  exact key N 0 fuel s (by omega) (by omega) hf h0
/-- a loop that copies upward -/
theorem cpUp {α : Type} (F : Nat → Int32 → zMM → Option α) (G : zMM → Option α) (cn : Nat → Int32) (N cs cd so d0 : Nat) (hne : cs ≠ cd ∨ d0 < so) (M : zMM)
    (hs : ∀ n i M', i < N → fr (fun c j => c = cd ∧ d0 ≤ j ∧ j < d0 + i) M M' → F (n + 1) (cn i) M' = F n (cn (i + 1)) (wr M' cd (d0 + i) (M'.1 cs (so + i))))
    (hN : ∀ n M', fr (fun c j => c = cd ∧ d0 ≤ j ∧ j < d0 + N) M M' → F (n + 1) (cn N) M' = G M') (fuel : Nat) (hf : N < fuel) :
    ∃ M', F fuel (cn 0) M = G M' ∧ (∀ j, j < N → M'.1 cd (d0 + j) = M.1 cs (so + j)) ∧ fr (fun c j => c = cd ∧ d0 ≤ j ∧ j < d0 + N) M M' := by
  refine loopE (fun n (s : Nat × zMM) => F n (cn s.1) s.2) (fun i s => s.1 = i ∧ (∀ j, j < i → s.2.1 cd (d0 + j) = M.1 cs (so + j)) ∧ fr (fun c j => c = cd ∧ d0 ≤ j ∧ j < d0 + i) M s.2) N (fun r => ∃ M', r = G M' ∧ (∀ j, j < N → M'.1 cd (d0 + j) = M.1 cs (so + j)) ∧ fr (fun c j => c = cd ∧ d0 ≤ j ∧ j < d0 + N) M M') ?_ ?_ fuel (0, M) hf ⟨rfl, fun j hj => absurd hj (by omega), fr_refl _ _⟩
  · rintro i n ⟨i', M'⟩ hi ⟨rfl, h1, h2⟩
    right
    dsimp only at h1 h2 hi ⊢
    refine ⟨(i' + 1, _), hs n i' M' hi h2, rfl, ?_, ?_⟩
    · intro j hj
      show (wr M' cd (d0 + i') (M'.1 cs (so + i'))).1 cd (d0 + j) = M.1 cs (so + j)
      by_cases e : j = i'
      · rw [e, wr_cj, h2.1 _ _ (by omega)]
      · rw [wr_nj (by omega)]; exact h1 j (by omega)
    · exact fr_wr (fr_mono h2 (fun c j hc => by omega)) (by omega)
  · rintro n ⟨i', M'⟩ ⟨rfl, h1, h2⟩
    exact ⟨M', hN n M' h2, h1, h2⟩
/-- a loop that copies downward: place hi - i is taken from hi - i - 1 -/
theorem cpDown {α : Type} (F : Nat → Int32 → zMM → Option α) (G : zMM → Option α) (cn : Nat → Int32) (N cd tp : Nat) (hh : N ≤ tp) (M : zMM)
    (hs : ∀ n i M', i < N → fr (fun c j => c = cd ∧ tp - i < j ∧ j ≤ tp) M M' → F (n + 1) (cn i) M' = F n (cn (i + 1)) (wr M' cd (tp - i) (M'.1 cd (tp - i - 1))))
    (hN : ∀ n M', fr (fun c j => c = cd ∧ tp - N < j ∧ j ≤ tp) M M' → F (n + 1) (cn N) M' = G M') (fuel : Nat) (hf : N < fuel) :
    ∃ M', F fuel (cn 0) M = G M' ∧ (∀ j, tp - N < j → j ≤ tp → M'.1 cd j = M.1 cd (j - 1)) ∧ fr (fun c j => c = cd ∧ tp - N < j ∧ j ≤ tp) M M' := by
  refine loopE (fun n (s : Nat × zMM) => F n (cn s.1) s.2) (fun i s => s.1 = i ∧ (∀ j, tp - i < j → j ≤ tp → s.2.1 cd j = M.1 cd (j - 1)) ∧ fr (fun c j => c = cd ∧ tp - i < j ∧ j ≤ tp) M s.2) N (fun r => ∃ M', r = G M' ∧ (∀ j, tp - N < j → j ≤ tp → M'.1 cd j = M.1 cd (j - 1)) ∧ fr (fun c j => c = cd ∧ tp - N < j ∧ j ≤ tp) M M') ?_ ?_ fuel (0, M) hf ⟨rfl, fun j hj hj' => absurd hj (by omega), fr_refl _ _⟩
  · rintro i n ⟨i', M'⟩ hi ⟨rfl, h1, h2⟩
    right
    dsimp only at h1 h2 hi ⊢
    refine ⟨(i' + 1, _), hs n i' M' hi h2, rfl, ?_, ?_⟩
    · intro j hj hj'
      show (wr M' cd (tp - i') (M'.1 cd (tp - i' - 1))).1 cd j = M.1 cd (j - 1)
      by_cases e : j = tp - i'
      · rw [e, wr_cj, h2.1 _ _ (by omega)]
      · rw [wr_nj (by omega)]; exact h1 j (by omega) hj'
    · exact fr_wr (fr_mono h2 (fun c j hc => by omega)) (by omega)
  · rintro n ⟨i', M'⟩ ⟨rfl, h1, h2⟩
    exact ⟨M', hN n M' h2, h1, h2⟩
/-! the pieces -/
def CT (T : List Nat) (M : zMM) : Prop := M.1 153 1 = zN T.length ∧ ∀ i, i < T.length → M.1 154 i = zN (T.getD i 0)
def CR (R : List Int64) (M : zMM) : Prop := M.1 155 1 = zN R.length ∧ ∀ i, i < R.length → M.2 156 i = R.getD i 0
def CU (q : Nat) (U : List (Nat → Nat)) (M : zMM) : Prop := q < 8 ∧ M.1 149 1 = zN q ∧ M.1 149 2 = zN U.length ∧ ∀ i Q, U[i]? = some Q → Leaf M (40 + 10 * ((q + 7 - i) % 8)) Q
def CKp (K : Nat → Option (Nat → Nat)) (M : zMM) : Prop := ∀ i, i < 2 → M.1 152 i = zN (if (K i).isSome then 1 else 0) ∧ ∀ Q, K i = some Q → Leaf M (20 + 10 * i) Q
def CI (P : Nat → Nat) (T : List Nat) (R : List Int64) (U : List (Nat → Nat)) (K : Nat → Option (Nat → Nat)) (M : zMM) : Prop :=
  Leaf M 0 P ∧ CT T M ∧ CR R M ∧ (∃ q, CU q U M) ∧ CKp K M
/-- a byte as the model's text keeps it -/
def zB (n : Nat) : Int32 := if n < 128 then zN n else zI ((n : Int) - 256)
def MT (T : List Nat) (M : zMM) : Prop := M.1 158 2 = zN T.length ∧ ∀ i, i < T.length → M.1 160 i = zB (T.getD i 0)
def MR (R : List Int64) (M : zMM) : Prop := M.1 158 4 = zN R.length ∧ ∀ i, i < R.length → M.2 161 i = R.getD i 0
def MU (U : List (Nat → Nat)) (M : zMM) : Prop := M.1 158 24 = zN U.length ∧ ∀ i Q, U[i]? = some Q → ∀ j, j < 259 → M.1 170 (259 * (U.length - 1 - i) + j) = zN (Q j)
def MKp (K : Nat → Option (Nat → Nat)) (M : zMM) : Prop := ∀ i, i < 2 → M.1 173 i = zN (if (K i).isSome then 1 else 0) ∧ ∀ Q, K i = some Q → ∀ j, j < 259 → M.1 172 (259 * i + j) = zN (Q j)
def MI (P : Nat → Nat) (T : List Nat) (R : List Int64) (U : List (Nat → Nat)) (K : Nat → Option (Nat → Nat)) (M : zMM) : Prop :=
  MNow M P ∧ MT T M ∧ MR R M ∧ MU U M ∧ MKp K M
def WF (P : Nat → Nat) (T : List Nat) (R : List Int64) (U : List (Nat → Nat)) (K : Nat → Option (Nat → Nat)) : Prop :=
  Good P ∧ (T.length ≤ 80 ∧ ∀ i, i < T.length → T.getD i 0 < 256) ∧ R.length ≤ 60 ∧ (U.length ≤ 7 ∧ ∀ Q ∈ U, Good Q) ∧ (∀ i Q, K i = some Q → Good Q)
def Inv (M : zMM) : Prop := ∃ P T R U K, WF P T R U K ∧ CI P T R U K M ∧ MI P T R U K M
/-! frames of the two sides -/
def frC (M M' : zMM) : Prop := ∀ c, 158 ≤ c → (∀ j, M'.1 c j = M.1 c j) ∧ (∀ j, M'.2 c j = M.2 c j)
def frM (M M' : zMM) : Prop := ∀ c, c < 158 ∨ 174 ≤ c → (∀ j, M'.1 c j = M.1 c j) ∧ (∀ j, M'.2 c j = M.2 c j)
theorem frC_refl (M : zMM) : frC M M := fun _ _ => ⟨fun _ => rfl, fun _ => rfl⟩
theorem frM_refl (M : zMM) : frM M M := fun _ _ => ⟨fun _ => rfl, fun _ => rfl⟩
theorem frC_trans {M M' M'' : zMM} (h : frC M M') (h' : frC M' M'') : frC M M'' := fun c hc => ⟨fun j => ((h' c hc).1 j).trans ((h c hc).1 j), fun j => ((h' c hc).2 j).trans ((h c hc).2 j)⟩
theorem frM_trans {M M' M'' : zMM} (h : frM M M') (h' : frM M' M'') : frM M M'' := fun c hc => ⟨fun j => ((h' c hc).1 j).trans ((h c hc).1 j), fun j => ((h' c hc).2 j).trans ((h c hc).2 j)⟩
theorem frC_fr {S : Nat → Nat → Prop} {M M' : zMM} (h : fr S M M') (hs : ∀ c j, S c j → c < 158) : frC M M' := fun c hc => ⟨fun j => h.1 c j (fun a => by have := hs c j a; omega), fun j => by rw [h.2]⟩
theorem frM_fr {S : Nat → Nat → Prop} {M M' : zMM} (h : fr S M M') (hs : ∀ c j, S c j → 158 ≤ c ∧ c < 174) : frM M M' := fun c hc => ⟨fun j => h.1 c j (fun a => by have := hs c j a; omega), fun j => by rw [h.2]⟩
/-! the pieces under change elsewhere -/
theorem CT_fr {T : List Nat} {M M' : zMM} (h : CT T M) (e : ∀ c j, c = 153 ∨ c = 154 → M'.1 c j = M.1 c j) : CT T M' :=
  ⟨by rw [e _ _ (by omega)]; exact h.1, fun i hi => by rw [e _ _ (by omega)]; exact h.2 i hi⟩
theorem CR_fr {R : List Int64} {M M' : zMM} (h : CR R M) (e : ∀ j, M'.1 155 j = M.1 155 j) (e2 : ∀ j, M'.2 156 j = M.2 156 j) : CR R M' :=
  ⟨by rw [e]; exact h.1, fun i hi => by rw [e2]; exact h.2 i hi⟩
theorem CU_fr {q : Nat} {U : List (Nat → Nat)} {M M' : zMM} (h : CU q U M) (e : ∀ c j, c = 149 ∨ (40 ≤ c ∧ c < 120 ∧ ¬ (40 + 10 * q ≤ c ∧ c < 50 + 10 * q)) → M'.1 c j = M.1 c j) (hU : U.length ≤ 7) : CU q U M' := by
  obtain ⟨h1, h2, h3, h4⟩ := h
  refine ⟨h1, by rw [e _ _ (by omega)]; exact h2, by rw [e _ _ (by omega)]; exact h3, ?_⟩
  intro i Q hQ
  have hi := (List.getElem?_eq_some_iff.mp hQ).1
  refine Leaf_eq (h4 i Q hQ) (fun c j a b => e c j ?_)
  omega
theorem CKp_fr {K : Nat → Option (Nat → Nat)} {M M' : zMM} (h : CKp K M) (e : ∀ c j, c = 152 ∨ (20 ≤ c ∧ c < 40) → M'.1 c j = M.1 c j) : CKp K M' := by
  intro i hi
  refine ⟨by rw [e _ _ (by omega)]; exact (h i hi).1, fun Q hQ => Leaf_eq ((h i hi).2 Q hQ) (fun c j a b => e c j (by omega))⟩
theorem MT_fr {T : List Nat} {M M' : zMM} (h : MT T M) (e0 : M'.1 158 2 = M.1 158 2) (e : ∀ j, M'.1 160 j = M.1 160 j) : MT T M' :=
  ⟨by rw [e0]; exact h.1, fun i hi => by rw [e]; exact h.2 i hi⟩
theorem MR_fr {R : List Int64} {M M' : zMM} (h : MR R M) (e : M'.1 158 4 = M.1 158 4) (e2 : ∀ j, M'.2 161 j = M.2 161 j) : MR R M' :=
  ⟨by rw [e]; exact h.1, fun i hi => by rw [e2]; exact h.2 i hi⟩
theorem MU_fr {U : List (Nat → Nat)} {M M' : zMM} (h : MU U M) (e0 : M'.1 158 24 = M.1 158 24) (e : ∀ j, M'.1 170 j = M.1 170 j) : MU U M' :=
  ⟨by rw [e0]; exact h.1, fun i Q hQ j hj => by rw [e]; exact h.2 i Q hQ j hj⟩
theorem MKp_fr {K : Nat → Option (Nat → Nat)} {M M' : zMM} (h : MKp K M) (e : ∀ c j, c = 172 ∨ c = 173 → M'.1 c j = M.1 c j) : MKp K M' := by
  intro i hi
  refine ⟨by rw [e _ _ (by omega)]; exact (h i hi).1, fun Q hQ j hj => by rw [e _ _ (by omega)]; exact (h i hi).2 Q hQ j hj⟩
/-- the class's cells that count, but for the row -/
def CK (c : Nat) : Prop := c < 10 ∨ (20 ≤ c ∧ c < 120) ∨ c = 149 ∨ c = 152 ∨ c = 153 ∨ c = 154
/-- the model's -/
def MK (c j : Nat) : Prop := c = 159 ∨ c = 160 ∨ c = 170 ∨ c = 172 ∨ c = 173 ∨ (c = 158 ∧ (j = 2 ∨ j = 24))
theorem CI_new {P : Nat → Nat} {T : List Nat} {R R' : List Int64} {U : List (Nat → Nat)} {K : Nat → Option (Nat → Nat)} {M M' : zMM} (h : CI P T R U K M) (hU : U.length ≤ 7) (e : ∀ c j, CK c → M'.1 c j = M.1 c j) (hr : CR R' M') : CI P T R' U K M' := by
  obtain ⟨h1, h2, h3, ⟨q, h4⟩, h5⟩ := h
  unfold CK at e
  exact ⟨Leaf_eq h1 (fun c j a b => e c j (by omega)), CT_fr h2 (fun c j a => e c j (by omega)), hr, ⟨q, CU_fr h4 (fun c j a => e c j (by omega)) hU⟩, CKp_fr h5 (fun c j a => e c j (by omega))⟩
theorem CI_sc {P : Nat → Nat} {T : List Nat} {R : List Int64} {U : List (Nat → Nat)} {K : Nat → Option (Nat → Nat)} {M M' : zMM} (h : CI P T R U K M) (hU : U.length ≤ 7) {S : Nat → Nat → Prop} (f : fr S M M') (hs : ∀ c j, S c j → (10 ≤ c ∧ c < 20) ∨ (120 ≤ c ∧ c ≤ 148)) : CI P T R U K M' :=
  CI_new h hU (fun c j a => f.1 c j (fun q => by have := hs c j q; unfold CK at a; omega)) (CR_fr h.2.2.1 (fun j => f.1 _ _ (fun q => by have := hs _ _ q; omega)) (fun j => by rw [f.2]))
theorem MI_new {P : Nat → Nat} {T : List Nat} {R R' : List Int64} {U : List (Nat → Nat)} {K : Nat → Option (Nat → Nat)} {M M' : zMM} (h : MI P T R U K M) (e : ∀ c j, MK c j → M'.1 c j = M.1 c j) (hr : MR R' M') : MI P T R' U K M' := by
  obtain ⟨h1, h2, h3, h4, h5⟩ := h
  unfold MK at e
  exact ⟨fun i hi => by rw [e _ _ (by omega)]; exact h1 i hi, MT_fr h2 (e _ _ (by omega)) (fun j => e _ _ (by omega)), hr, MU_fr h4 (e _ _ (by omega)) (fun j => e _ _ (by omega)), MKp_fr h5 (fun c j a => e c j (by omega))⟩
def MSc (c j : Nat) : Prop := (162 ≤ c ∧ c ≤ 169) ∨ c = 171 ∨ (c = 158 ∧ j ≠ 2 ∧ j ≠ 4 ∧ j ≠ 24)
theorem MI_sc {P : Nat → Nat} {T : List Nat} {R : List Int64} {U : List (Nat → Nat)} {K : Nat → Option (Nat → Nat)} {M M' : zMM} (h : MI P T R U K M) {S : Nat → Nat → Prop} (f : fr S M M') (hs : ∀ c j, S c j → MSc c j) : MI P T R U K M' :=
  MI_new h (fun c j a => f.1 c j (fun q => by have := hs c j q; unfold MSc at this; unfold MK at a; omega)) (MR_fr h.2.2.1 (f.1 _ _ (fun q => by have := hs _ _ q; unfold MSc at this; omega)) (fun j => by rw [f.2]))
theorem CI_frM {P : Nat → Nat} {T : List Nat} {R : List Int64} {U : List (Nat → Nat)} {K : Nat → Option (Nat → Nat)} {M M' : zMM} (h : CI P T R U K M) (hU : U.length ≤ 7) (f : frM M M') : CI P T R U K M' :=
  CI_new h hU (fun c j a => (f c (by unfold CK at a; omega)).1 j) (CR_fr h.2.2.1 (fun j => (f 155 (by omega)).1 j) (fun j => (f 156 (by omega)).2 j))
theorem MI_frC {P : Nat → Nat} {T : List Nat} {R : List Int64} {U : List (Nat → Nat)} {K : Nat → Option (Nat → Nat)} {M M' : zMM} (h : MI P T R U K M) (f : frC M M') : MI P T R U K M' :=
  MI_new h (fun c j a => (f c (by unfold MK at a; omega)).1 j) (MR_fr h.2.2.1 ((f 158 (by omega)).1 4) (fun j => (f 161 (by omega)).2 j))
/-! a call of both -/
def CD (g : zMM → Option (Int32 × zMM)) (P : Nat → Nat) (T : List Nat) (R : List Int64) (U : List (Nat → Nat)) (K : Nat → Option (Nat → Nat)) (r : Int32) (P' : Nat → Nat) (T' : List Nat) (R' : List Int64) (U' : List (Nat → Nat)) (K' : Nat → Option (Nat → Nat)) : Prop :=
  ∀ M, CI P T R U K M → ∃ M', g M = some (r, M') ∧ CI P' T' R' U' K' M' ∧ frC M M'
def MD (g : zMM → Option (Int32 × zMM)) (P : Nat → Nat) (T : List Nat) (R : List Int64) (U : List (Nat → Nat)) (K : Nat → Option (Nat → Nat)) (r : Int32) (P' : Nat → Nat) (T' : List Nat) (R' : List Int64) (U' : List (Nat → Nat)) (K' : Nat → Option (Nat → Nat)) : Prop :=
  ∀ M, MI P T R U K M → ∃ M', g M = some (r, M') ∧ MI P' T' R' U' K' M' ∧ frM M M'
def Cll (g h : zMM → Option (Int32 × zMM)) : Prop := ∀ M, Inv M → ∃ r M1 M2, g M = some (r, M1) ∧ h M1 = some (r, M2) ∧ Inv M2
theorem Cll_of {g h : zMM → Option (Int32 × zMM)} (hc : ∀ P T R U K, WF P T R U K → ∃ r P' T' R' U' K', WF P' T' R' U' K' ∧ CD g P T R U K r P' T' R' U' K' ∧ MD h P T R U K r P' T' R' U' K') : Cll g h := by
  rintro M ⟨P, T, R, U, K, hw, hC, hM⟩
  obtain ⟨r, P', T', R', U', K', hw', c, m⟩ := hc P T R U K hw
  obtain ⟨M1, e1, c1, f1⟩ := c M hC
  obtain ⟨M2, e2, m2, f2⟩ := m M1 (MI_frC hM f1)
  exact ⟨r, M1, M2, e1, e2, P', T', R', U', K', hw', CI_frM c1 hw'.2.2.2.1.1 f2, m2⟩
/-! rows told -/
def frY (M M' : zMM) : Prop := (∀ c j, c ≠ 155 → M'.1 c j = M.1 c j) ∧ (∀ c j, c ≠ 156 → M'.2 c j = M.2 c j)
def frX (M M' : zMM) : Prop := (∀ c j, ¬ (c = 158 ∧ j = 4) → M'.1 c j = M.1 c j) ∧ (∀ c j, c ≠ 161 → M'.2 c j = M.2 c j)
theorem frY_C {M M' : zMM} (h : frY M M') : frC M M' := fun c hc => ⟨fun j => h.1 c j (by omega), fun j => h.2 c j (by omega)⟩
theorem frX_M {M M' : zMM} (h : frX M M') : frM M M' := fun c hc => ⟨fun j => h.1 c j (by omega), fun j => h.2 c j (by omega)⟩
theorem frX_trans {M M' M'' : zMM} (h : frX M M') (h' : frX M' M'') : frX M M'' := ⟨fun c j hc => (h'.1 c j hc).trans (h.1 c j hc), fun c j hc => (h'.2 c j hc).trans (h.2 c j hc)⟩
theorem wrL_cj (M : zMM) (c j : Nat) (v : Int64) : (wrL M c j v).2 c j = v := by rw [wrL_2, if_pos ⟨rfl, rfl⟩]
theorem wrL_nj {M : zMM} {c j : Nat} {v : Int64} {c' j' : Nat} (h : c' ≠ c ∨ j' ≠ j) : (wrL M c j v).2 c' j' = M.2 c' j' := by rw [wrL_2, if_neg (by omega)]
theorem Leaf_Y {M M' : zMM} {b : Nat} {P : Nat → Nat} (h : Leaf M b P) (hb : b ≤ 110) (f : frY M M') : Leaf M' b P := Leaf_eq h (fun c j a b => f.1 c j (by omega))
theorem CSet_Y {M M' : zMM} {P : Nat → Nat} (h : CSet P M) (f : frY M M') : CSet P M' :=
  ⟨fun t ht => CSt_fr (h.1 t ht) (fun c j a => f.1 c j (by unfold CStS at a; omega)), by rw [f.1 _ _ (by omega)]; exact h.2⟩
theorem tell1 (a : Int64) (M : zMM) : ∃ M', fX2_tell a M = some M' ∧ CR [a] M' ∧ frY M M' := by
  refine ⟨_, rfl, ⟨by rw [wr_cj]; rfl, fun i hi => ?_⟩, fun c j hc => by rw [wr_nj (by omega), wrL_1], fun c j hc => by rw [wr_2, wrL_nj (by omega)]⟩
  have : i = 0 := by simp only [List.length_cons, List.length_nil] at hi; omega
  subst this
  rw [wr_2, wrL_cj]; rfl
theorem tellN {R : List Int64} {M : zMM} (h : CR R M) (a : Int64) : CR (R ++ [a]) (wr (wrL M 156 R.length a) 155 1 (zN (R.length + 1))) ∧ frY M (wr (wrL M 156 R.length a) 155 1 (zN (R.length + 1))) := by
  refine ⟨⟨by rw [wr_cj, List.length_append]; rfl, fun i hi => ?_⟩, fun c j hc => by rw [wr_nj (by omega), wrL_1], fun c j hc => by rw [wr_2, wrL_nj (by omega)]⟩
  rw [List.length_append] at hi
  simp only [List.length_cons, List.length_nil] at hi
  by_cases e : i = R.length
  · subst e
    rw [wr_2, wrL_cj, List.getD_eq_getElem?_getD, List.getElem?_append_right (Nat.le_refl _), Nat.sub_self]; rfl
  · rw [wr_2, wrL_nj (by omega), h.2 i (by omega), List.getD_eq_getElem?_getD, List.getD_eq_getElem?_getD, List.getElem?_append_left (by omega)]
theorem frY_trans {M M' M'' : zMM} (h : frY M M') (h' : frY M' M'') : frY M M'' := ⟨fun c j hc => (h'.1 c j hc).trans (h.1 c j hc), fun c j hc => (h'.2 c j hc).trans (h.2 c j hc)⟩
theorem tell2 (a b : Int64) (M : zMM) : ∃ M', fX2_tell_ a b M = some M' ∧ CR [a, b] M' ∧ frY M M' := by
  obtain ⟨M1, e1, r1, f1⟩ := tell1 a M
  have h := tellN r1 b
  refine ⟨_, ?_, h.1, frY_trans f1 h.2⟩
  unfold fX2_tell_
  rw [e1]; rfl
theorem tell3 (a b c : Int64) (M : zMM) : ∃ M', fX2_tell__ a b c M = some M' ∧ CR [a, b, c] M' ∧ frY M M' := by
  obtain ⟨M1, e1, r1, f1⟩ := tell2 a b M
  have h := tellN r1 c
  refine ⟨_, ?_, h.1, frY_trans f1 h.2⟩
  unfold fX2_tell__
  rw [e1]; rfl
theorem tell4 (a b c d : Int64) (M : zMM) : ∃ M', fX2_tell___ a b c d M = some M' ∧ CR [a, b, c, d] M' ∧ frY M M' := by
  obtain ⟨M1, e1, r1, f1⟩ := tell3 a b c M
  have h := tellN r1 d
  refine ⟨_, ?_, h.1, frY_trans f1 h.2⟩
  unfold fX2_tell___
  rw [e1]; rfl
theorem tell7 {R : List Int64} {M : zMM} (h : MR R M) (hl : R.length < 80) (a : Int64) : ∃ M', fX7_tell a M = some M' ∧ MR (R ++ [a]) M' ∧ frX M M' := by
  refine ⟨wr (wrL M 161 R.length a) 158 4 (zN (R.length + 1)), ?_, ⟨by rw [wr_cj, List.length_append]; rfl, fun i hi => ?_⟩, fun c j hc => by rw [wr_nj (by omega), wrL_1], fun c j hc => by rw [wr_2, wrL_nj (by omega)]⟩
  · have h1 := h.1
    unfold fX7_tell
    simp (disch := omega) only [wr_cj, wr_nj, rng_in, rng_out, zN_lit, zN_add, zN_mul, zN_sub, zN_ltT, zN_ltF, zN_leT, zN_leF, zN_eqT, zN_eqF, zN_lt, zN_le, zN_eq, zN_nat, zN_oobF, Option.bind_some, ↓reduceIte, Nat.one_mul, Nat.zero_add, Nat.add_zero, Nat.reduceAdd, Nat.reduceMul, Nat.reduceSub, Nat.reduceLT, Nat.reduceLeDiff, Nat.reduceEqDiff, reduceCtorEq, true_or, or_true, false_or, or_false, true_and, and_true, false_and, and_false, not_true_eq_false, not_false_eq_true, wr_2, wrL_1, zm_eqF, zm_eqF', zm_lt, zm_lt', zm_le, zm_le', zm_sub1, zN_01, Nat.mul_zero, Nat.zero_mul, Nat.mul_one, Nat.sub_zero, Nat.sub_self, h1]
  · rw [List.length_append] at hi
    simp only [List.length_cons, List.length_nil] at hi
    by_cases e : i = R.length
    · subst e
      rw [wr_2, wrL_cj, List.getD_eq_getElem?_getD, List.getElem?_append_right (Nat.le_refl _), Nat.sub_self]; rfl
    · rw [wr_2, wrL_nj (by omega), h.2 i (by omega), List.getD_eq_getElem?_getD, List.getD_eq_getElem?_getD, List.getElem?_append_left (by omega)]
theorem MR_nil (M : zMM) : MR [] (wr M 158 4 (zN 0)) := ⟨by rw [wr_cj]; rfl, fun i hi => absurd hi (by simp)⟩
theorem MNow_X {M M' : zMM} {P : Nat → Nat} (h : MNow M P) (f : frX M M') : MNow M' P := fun i hi => by rw [f.1 _ _ (by omega)]; exact h i hi
theorem MSet_fr {M M' : zMM} {P : Nat → Nat} (h : MSet P M) (e : ∀ c j, MS c j → M'.1 c j = M.1 c j) : MSet P M' := by
  obtain ⟨⟨h1, h2, h3, h4, h5⟩, h6⟩ := h
  unfold MS at e
  refine ⟨⟨by rw [e _ _ (by omega)]; exact h1, h2, fun t ht => by rw [e _ _ (by omega)]; exact h3 t ht, fun p m t hp => Ent_fr (h4 p m t hp) (fun j _ _ => e _ _ (by omega)), ?_⟩, by rw [e _ _ (by omega)]; exact h6⟩
  intro t ht k hk
  obtain ⟨p, p1, p2⟩ := h5 t ht k hk
  exact ⟨p, p1, by rw [e _ _ (by omega)]; exact p2⟩
theorem MSet_X {M M' : zMM} {P : Nat → Nat} (h : MSet P M) (f : frX M M') : MSet P M' := MSet_fr h (fun c j a => f.1 c j (by unfold MS at a; omega))
