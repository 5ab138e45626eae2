/-! THE PAGE, PURE: P holds a page's numbers in the order of the row; done words, widths, columns of each line -/
/-- words that go into a room (one column more than there is) -/
def tkw (s : Nat → Nat) : Nat → Nat → Nat → Nat × Nat
  | 0, k, r => (k, r)
  | f + 1, k, r => if s k < r then tkw s f (k + 1) (r - (s k + 1)) else (k, r)
def pSz (P : Nat → Nat) (t k : Nat) : Nat := P (8 + 70 * t + k)
def lI (P d : Nat → Nat) : Bool := decide (d 1 < P 6)
def lO (P d : Nat → Nat) : Bool := decide (d 2 < P 7)
def lM (P d : Nat → Nat) (n : Nat) : Bool := decide (d 0 < P 5) && !(decide (n % P 1 < P 2) && (lI P d || lO P d))
def wdI (P d : Nat → Nat) (n : Nat) : Nat := if lI P d then (if lM P d n then P 3 else if lO P d then (P 0 - P 255) / 2 else P 0) else 0
def mcO (P d : Nat → Nat) (n : Nat) : Nat := if lI P d then wdI P d n + P 255 else 0
def wdO (P d : Nat → Nat) (n : Nat) : Nat := if lO P d then (if lM P d n then P 4 else P 0 - mcO P d n) else 0
def wdM (P d : Nat → Nat) (n : Nat) : Nat := if lM P d n then P 0 - mcO P d n - (if lO P d then wdO P d n + P 255 else 0) else 0
def wd (P d : Nat → Nat) (n t : Nat) : Nat := if t = 0 then wdM P d n else if t = 1 then wdI P d n else wdO P d n
def cl (P d : Nat → Nat) (n t : Nat) : Nat := if t = 0 then mcO P d n else if t = 1 then 0 else P 0 - wdO P d n
def tkp (P d : Nat → Nat) (n t : Nat) : Nat × Nat := if wd P d n t = 0 then (d t, 0) else tkw (pSz P t) (P (5 + t) - d t) (d t) (wd P d n t + 1)
def dn (P : Nat → Nat) : Nat → Nat → Nat
  | 0 => fun _ => 0
  | n + 1 => fun t => (tkp P (dn P n) n t).1
def wid (P : Nat → Nat) (n t : Nat) : Nat := wd P (dn P n) n t
def col (P : Nat → Nat) (n t : Nat) : Nat := cl P (dn P n) n t
def rom (P : Nat → Nat) (n t : Nat) : Nat := (tkp P (dn P n) n t).2
def rg (P : Nat → Nat) (n t : Nat) : Nat := if dn P (n + 1) t < P (5 + t) then rom P n t * rom P n t else 0
def lfp (P : Nat → Nat) (n : Nat) : Prop := dn P n 0 < P 5 ∨ dn P n 1 < P 6 ∨ dn P n 2 < P 7
def lfb (P : Nat → Nat) (n : Nat) : Bool := decide (dn P n 0 < P 5) || decide (dn P n 1 < P 6) || decide (dn P n 2 < P 7)
def nlF (P : Nat → Nat) : Nat → Nat → Nat
  | 0, n => n
  | f + 1, n => if lfb P n then nlF P f (n + 1) else n
def NL (P : Nat → Nat) : Nat := nlF P 210 0
/-- a page that can be -/
def Good (P : Nat → Nat) : Prop :=
  (29 ≤ P 0 ∧ P 0 ≤ 60 ∧ 3 ≤ P 1 ∧ P 1 ≤ 40 ∧ P 2 ≤ 9 ∧ P 2 < P 1 ∧ 9 ≤ P 3 ∧ P 3 ≤ 40 ∧ 9 ≤ P 4 ∧ P 4 ≤ 40 ∧ 1 ≤ P 255 ∧ P 255 ≤ 4 ∧ P 3 + P 4 + 9 + 2 * P 255 ≤ P 0) ∧
  (∀ t, t < 3 → P (5 + t) ≤ 70 ∧ ∀ k, k < P (5 + t) → 1 ≤ pSz P t k ∧ pSz P t k ≤ 9) ∧
  (P 218 ≤ 12 ∧ ∀ i, i < P 218 → (P (219 + 3 * i) = 1 ∨ P (219 + 3 * i) = 2) ∧ P (220 + 3 * i) < P (5 + P (219 + 3 * i)) ∧ P (221 + 3 * i) < P 5) ∧
  (P 256 ≤ 10000 ∧ P 257 ≤ 10000 ∧ P 258 ≤ 100)
theorem lf_iff (P : Nat → Nat) (n : Nat) : lfb P n = true ↔ lfp P n := by
  simp [lfb, lfp, or_assoc]
theorem tkw_ge (s : Nat → Nat) : ∀ f k r, k ≤ (tkw s f k r).1 ∧ (tkw s f k r).1 ≤ k + f ∧ (tkw s f k r).2 ≤ r := by
  intro f
  induction f with
  | zero => intro k r; simp [tkw]
  | succ f ih =>
    intro k r
    unfold tkw
    by_cases h : s k < r
    · rw [if_pos h]; have := ih (k + 1) (r - (s k + 1)); omega
    · rw [if_neg h]; simp
theorem tkw_gt (s : Nat → Nat) (f k r : Nat) (h : s k < r) : k < (tkw s (f + 1) k r).1 := by
  unfold tkw
  rw [if_pos h]
  have := tkw_ge s f (k + 1) (r - (s k + 1)); omega
/-- the widths that can be -/
theorem wd_all {P : Nat → Nat} (hP : Good P) (d : Nat → Nat) (n : Nat) : ∀ t, wd P d n t = 0 ∨ (9 ≤ wd P d n t ∧ wd P d n t ≤ P 0) := by
  intro t
  obtain ⟨h1, -⟩ := hP
  unfold wd
  by_cases t0 : t = 0
  · rw [if_pos t0]
    unfold wdM wdO mcO wdI
    cases lI P d <;> cases lO P d <;> cases lM P d n <;> simp <;> omega
  · rw [if_neg t0]
    by_cases t1 : t = 1
    · rw [if_pos t1]
      unfold wdI
      cases lI P d <;> cases lO P d <;> cases lM P d n <;> simp <;> omega
    · rw [if_neg t1]
      unfold wdO mcO wdI
      cases lI P d <;> cases lO P d <;> cases lM P d n <;> simp <;> omega
theorem wd_left {P d : Nat → Nat} {n t : Nat} (ht : t < 3) (h : wd P d n t ≠ 0) : d t < P (5 + t) := by
  have : t = 0 ∨ t = 1 ∨ t = 2 := by omega
  rcases this with rfl | rfl | rfl
  · simp only [wd, if_pos, wdM] at h
    by_cases hm : lM P d n = true
    · simp only [lM, Bool.and_eq_true, decide_eq_true_eq] at hm; exact hm.1
    · simp [hm] at h
  · simp only [wd, if_pos, wdI] at h
    by_cases hm : lI P d = true
    · simpa [lI] using hm
    · simp [hm] at h
  · simp only [wd, wdO] at h
    by_cases hm : lO P d = true
    · simpa [lO] using hm
    · simp [hm] at h
theorem dn_succ (P : Nat → Nat) (n t : Nat) : dn P (n + 1) t = (tkp P (dn P n) n t).1 := rfl
theorem dn_0 (P : Nat → Nat) (n t : Nat) (h : wid P n t = 0) : dn P (n + 1) t = dn P n t := by
  rw [dn_succ]; unfold tkp; rw [if_pos (show wd P (dn P n) n t = 0 from h)]
theorem dn_w (P : Nat → Nat) (n t : Nat) (h : wid P n t ≠ 0) : dn P (n + 1) t = (tkw (pSz P t) (P (5 + t) - dn P n t) (dn P n t) (wid P n t + 1)).1 := by
  rw [dn_succ]; unfold tkp; rw [if_neg (show ¬ wd P (dn P n) n t = 0 from h)]; rfl
theorem rom_w (P : Nat → Nat) (n t : Nat) (h : wid P n t ≠ 0) : rom P n t = (tkw (pSz P t) (P (5 + t) - dn P n t) (dn P n t) (wid P n t + 1)).2 := by
  unfold rom tkp; rw [if_neg (show ¬ wd P (dn P n) n t = 0 from h)]; rfl
theorem dn_le (P : Nat → Nat) (n t : Nat) : dn P n t ≤ P (5 + t) ∧ dn P n t ≤ dn P (n + 1) t := by
  have mono : ∀ n, dn P n t ≤ P (5 + t) → dn P n t ≤ dn P (n + 1) t ∧ dn P (n + 1) t ≤ P (5 + t) := by
    intro n hn
    by_cases h : wid P n t = 0
    · rw [dn_0 P n t h]; omega
    · rw [dn_w P n t h]
      have := tkw_ge (pSz P t) (P (5 + t) - dn P n t) (dn P n t) (wid P n t + 1)
      omega
  have all : ∀ n, dn P n t ≤ P (5 + t) := by
    intro n
    induction n with
    | zero => exact Nat.zero_le _
    | succ n ih => exact (mono n ih).2
  exact ⟨all n, (mono n (all n)).1⟩
theorem dn_mono (P : Nat → Nat) (t : Nat) {m n : Nat} (h : m ≤ n) : dn P m t ≤ dn P n t := by
  induction n with
  | zero => rw [Nat.le_zero.mp h]; exact Nat.le_refl _
  | succ n ih =>
    by_cases hm : m = n + 1
    · rw [hm]; exact Nat.le_refl _
    · exact Nat.le_trans (ih (by omega)) (dn_le P n t).2
theorem wid_all {P : Nat → Nat} (hP : Good P) (n t : Nat) : wid P n t = 0 ∨ (9 ≤ wid P n t ∧ wid P n t ≤ 60) := by
  have h1 := wd_all hP (dn P n) n t
  have := hP.1
  unfold wid
  omega
theorem wid_left {P : Nat → Nat} {n t : Nat} (ht : t < 3) (h : wid P n t ≠ 0) : dn P n t < P (5 + t) := wd_left ht h
theorem dn_lt {P : Nat → Nat} (hP : Good P) {n t : Nat} (ht : t < 3) (h : wid P n t ≠ 0) : dn P n t < dn P (n + 1) t := by
  have hl := wid_left ht h
  have hw := wid_all hP n t
  have hs := (hP.2.1 t ht).2 _ hl
  rw [dn_w P n t h]
  obtain ⟨f, hf⟩ : ∃ f, P (5 + t) - dn P n t = f + 1 := ⟨P (5 + t) - dn P n t - 1, by omega⟩
  rw [hf]
  exact tkw_gt _ _ _ _ (by omega)
theorem wid_some {P : Nat → Nat} (hP : Good P) {n : Nat} (h : lfp P n) : wid P n 0 ≠ 0 ∨ wid P n 1 ≠ 0 ∨ wid P n 2 ≠ 0 := by
  obtain ⟨h1, -⟩ := hP
  unfold lfp at h
  unfold wid wd wdM wdO mcO wdI
  have eI : lI P (dn P n) = decide (dn P n 1 < P 6) := rfl
  have eO : lO P (dn P n) = decide (dn P n 2 < P 7) := rfl
  have eM : lM P (dn P n) n = (decide (dn P n 0 < P 5) && !(decide (n % P 1 < P 2) && (lI P (dn P n) || lO P (dn P n)))) := rfl
  by_cases a : dn P n 0 < P 5 <;> by_cases b : dn P n 1 < P 6 <;> by_cases c : dn P n 2 < P 7 <;> by_cases e : n % P 1 < P 2 <;> simp [eI, eO, eM, a, b, c, e] <;> omega
theorem lf_prog {P : Nat → Nat} (hP : Good P) {n : Nat} (h : lfp P n) : dn P n 0 + dn P n 1 + dn P n 2 + 1 ≤ dn P (n + 1) 0 + dn P (n + 1) 1 + dn P (n + 1) 2 := by
  have a := (dn_le P n 0).2
  have b := (dn_le P n 1).2
  have c := (dn_le P n 2).2
  rcases wid_some hP h with w | w | w
  · have := dn_lt hP (t := 0) (by omega) w; omega
  · have := dn_lt hP (t := 1) (by omega) w; omega
  · have := dn_lt hP (t := 2) (by omega) w; omega
theorem dn_cnt {P : Nat → Nat} (hP : Good P) : ∀ n, (∀ m, m < n → lfp P m) → n ≤ dn P n 0 + dn P n 1 + dn P n 2 := by
  intro n
  induction n with
  | zero => intro _; omega
  | succ n ih =>
    intro h
    have a := ih (fun m hm => h m (by omega))
    have b := lf_prog hP (h n (by omega))
    omega
theorem nlF_ok (P : Nat → Nat) : ∀ f n, (∀ m, m < n → lfp P m) → (∀ m, m < nlF P f n → lfp P m) ∧ nlF P f n ≤ n + f ∧ (¬ lfp P (nlF P f n) ∨ nlF P f n = n + f) := by
  intro f
  induction f with
  | zero => intro n h; exact ⟨h, Nat.le_refl _, Or.inr rfl⟩
  | succ f ih =>
    intro n h
    unfold nlF
    by_cases hl : lfb P n = true
    · rw [if_pos hl]
      have := ih (n + 1) (fun m hm => by
        by_cases e : m = n
        · rw [e]; exact (lf_iff P n).1 hl
        · exact h m (by omega))
      refine ⟨this.1, by omega, ?_⟩
      rcases this.2.2 with a | a
      · exact Or.inl a
      · exact Or.inr (by omega)
    · rw [if_neg hl]
      exact ⟨h, by omega, Or.inl (fun a => hl ((lf_iff P n).2 a))⟩
theorem NL_lf {P : Nat → Nat} {m : Nat} (h : m < NL P) : lfp P m := (nlF_ok P 210 0 (fun m hm => by omega)).1 m h
theorem NL_le (P : Nat → Nat) : NL P ≤ 210 := by have := (nlF_ok P 210 0 (fun m hm => by omega)).2.1; unfold NL; omega
theorem NL_not {P : Nat → Nat} (hP : Good P) : ¬ lfp P (NL P) := by
  have h := nlF_ok P 210 0 (fun m hm => by omega)
  rcases h.2.2 with a | a
  · exact a
  · intro hl
    have h1 := dn_cnt hP (NL P) (fun m hm => NL_lf hm)
    have e : NL P = 210 := by unfold NL; omega
    have c0 := (hP.2.1 0 (by omega)).1
    have c1 := (hP.2.1 1 (by omega)).1
    have c2 := (hP.2.1 2 (by omega)).1
    have d0 := (dn_le P (NL P) 0).1
    have d1 := (dn_le P (NL P) 1).1
    have d2 := (dn_le P (NL P) 2).1
    simp only [Nat.reduceAdd] at c0 c1 c2 d0 d1 d2
    unfold lfp at hl
    omega
theorem NL_dn {P : Nat → Nat} (hP : Good P) {t : Nat} (ht : t < 3) : dn P (NL P) t = P (5 + t) := by
  have h := NL_not hP
  unfold lfp at h
  have d0 := (dn_le P (NL P) t).1
  have : t = 0 ∨ t = 1 ∨ t = 2 := by omega
  rcases this with rfl | rfl | rfl <;> simp only [Nat.reduceAdd] at d0 ⊢ <;> omega
/-- the line of a word -/
def lnF (P : Nat → Nat) (t k : Nat) : Nat → Nat → Nat
  | 0, n => n
  | f + 1, n => if k < dn P (n + 1) t then n else lnF P t k f (n + 1)
def ln (P : Nat → Nat) (t k : Nat) : Nat := lnF P t k 210 0
theorem lnF_ok (P : Nat → Nat) (t k : Nat) : ∀ f n N, dn P n t ≤ k → k < dn P N t → N ≤ n + f → dn P (lnF P t k f n) t ≤ k ∧ k < dn P (lnF P t k f n + 1) t := by
  intro f
  induction f with
  | zero =>
    intro n N h1 h2 h3
    have := dn_mono P t (show N ≤ n by omega)
    omega
  | succ f ih =>
    intro n N h1 h2 h3
    unfold lnF
    by_cases h : k < dn P (n + 1) t
    · rw [if_pos h]; exact ⟨h1, h⟩
    · rw [if_neg h]; exact ih (n + 1) N (by omega) h2 (by omega)
theorem dn_uniq (P : Nat → Nat) {t k m m' : Nat} (h1 : dn P m t ≤ k) (h2 : k < dn P (m + 1) t) (h3 : dn P m' t ≤ k) (h4 : k < dn P (m' + 1) t) : m = m' := by
  by_cases a : m < m'
  · have := dn_mono P t (show m + 1 ≤ m' by omega); omega
  · by_cases b : m' < m
    · have := dn_mono P t (show m' + 1 ≤ m by omega); omega
    · omega
theorem ln_ok {P : Nat → Nat} (hP : Good P) {t k : Nat} (ht : t < 3) (hk : k < P (5 + t)) : dn P (ln P t k) t ≤ k ∧ k < dn P (ln P t k + 1) t ∧ ln P t k < NL P := by
  have e := NL_dn hP ht
  have h := lnF_ok P t k 210 0 (NL P) (Nat.zero_le _) (by omega) (by have := NL_le P; omega)
  refine ⟨h.1, h.2, ?_⟩
  show lnF P t k 210 0 < NL P
  by_cases hc : lnF P t k 210 0 < NL P
  · exact hc
  · have := dn_mono P t (show NL P ≤ lnF P t k 210 0 by omega); omega
theorem ln_eq {P : Nat → Nat} (hP : Good P) {t k m : Nat} (ht : t < 3) (h1 : dn P m t ≤ k) (h2 : k < dn P (m + 1) t) : ln P t k = m := by
  have hk : k < P (5 + t) := Nat.lt_of_lt_of_le h2 (dn_le P (m + 1) t).1
  have h := ln_ok hP ht hk
  exact dn_uniq P h.1 h.2.1 h1 h2
