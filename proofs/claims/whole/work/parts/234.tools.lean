/-! natural numbers as ints -/
def zN (n : Nat) : Int32 := zI (n : Int)
theorem zN_zI (n : Nat) : zN n = zI (n : Int) := rfl
theorem zN_lit (n : Nat) : (no_index (OfNat.ofNat n) : Int32) = zN (no_index (OfNat.ofNat n)) := by
  show Int32.ofNat n = Int32.ofInt (n : Int)
  rw [Int32.ofInt_eq_ofNat]
theorem zN_add (a b : Nat) : zN a + zN b = zN (a + b) := by
  unfold zN; rw [zI_add]; congr 1
theorem zN_mul (a b : Nat) : zN a * zN b = zN (a * b) := by
  unfold zN; rw [zI_mul]; congr 1
theorem zN_sub {a b : Nat} (h : b ≤ a) : zN a - zN b = zN (a - b) := by
  unfold zN; rw [zI_sub]; congr 1; omega
theorem zN_lt {a b : Nat} (h : a < 2147483648 ∧ b < 2147483648) : (zN a < zN b) = (a < b) := by
  unfold zN; rw [zI_lt ⟨by omega, by omega⟩ ⟨by omega, by omega⟩]; simp
theorem zN_le {a b : Nat} (h : a < 2147483648 ∧ b < 2147483648) : (zN a ≤ zN b) = (a ≤ b) := by
  unfold zN; rw [zI_le ⟨by omega, by omega⟩ ⟨by omega, by omega⟩]; simp
theorem zN_eq {a b : Nat} (h : a < 2147483648 ∧ b < 2147483648) : (zN a = zN b) = (a = b) := by
  unfold zN; rw [zI_eq ⟨by omega, by omega⟩ ⟨by omega, by omega⟩]; apply propext; constructor <;> intro h <;> omega
theorem zN_nat {a : Nat} (h : a < 2147483648) : Int32.toNatClampNeg (zN a) = a := by
  unfold zN; rw [zI_nat ⟨by omega, by omega⟩]; simp
theorem zN_oob {a n : Nat} (h : a < 2147483648) : oob (zN a) n = (n ≤ a) := by
  unfold zN; rw [zI_oob ⟨by omega, by omega⟩]; apply propext; constructor
  · intro h; omega
  · intro h; exact Or.inr (by omega)
theorem zN_toInt {a : Nat} (h : a < 2147483648) : (zN a).toInt = a := by
  unfold zN; rw [zI_toInt ⟨by omega, by omega⟩]
theorem zI_div0 {a b : Int} (h : 0 ≤ a ∧ a < 2147483648 ∧ 0 < b ∧ b < 2147483648) : zI a / zI b = zI (a / b) := by
  apply Int32.toInt_inj.mp
  rw [Int32.toInt_div, zI_toInt ⟨by omega, by omega⟩, zI_toInt ⟨by omega, by omega⟩]
  have hd : a.tdiv b = a / b := Int.tdiv_eq_ediv_of_nonneg h.1
  have h0 : 0 ≤ a / b := Int.ediv_nonneg h.1 (by omega)
  have h1 : a / b ≤ a := Int.ediv_le_self b h.1
  rw [hd, zI_toInt ⟨by omega, by omega⟩]
  rw [Int.bmod_eq_of_le] <;> omega
theorem zI_mod0 {a b : Int} (h : 0 ≤ a ∧ a < 2147483648 ∧ 0 < b ∧ b < 2147483648) : zI a % zI b = zI (a % b) := by
  apply Int32.toInt_inj.mp
  rw [Int32.toInt_mod, zI_toInt ⟨by omega, by omega⟩, zI_toInt ⟨by omega, by omega⟩]
  have hd : a.tmod b = a % b := Int.tmod_eq_emod_of_nonneg h.1
  have h0 : 0 ≤ a % b := Int.emod_nonneg a (by omega)
  have h1 : a % b < b := Int.emod_lt_of_pos a (by omega)
  rw [hd, zI_toInt ⟨by omega, by omega⟩]
theorem zN_div {a b : Nat} (h : a < 2147483648 ∧ 0 < b ∧ b < 2147483648) : zN a / zN b = zN (a / b) := by
  unfold zN; rw [zI_div0 ⟨by omega, by omega, by omega, by omega⟩]; rfl
theorem zN_mod {a b : Nat} (h : a < 2147483648 ∧ 0 < b ∧ b < 2147483648) : zN a % zN b = zN (a % b) := by
  unfold zN; rw [zI_mod0 ⟨by omega, by omega, by omega, by omega⟩]; rfl
theorem zFU_eq : zFU = 2147483648 := rfl
/-! a row's span filled, frames -/
def rng (M : zMM) (c lo hi : Nat) (v : Int32) : zMM := (fun c' j => if c' = c ∧ lo ≤ j ∧ j < hi then v else M.1 c' j, M.2)
theorem rng_1 (M : zMM) (c lo hi : Nat) (v : Int32) (c' j : Nat) : (rng M c lo hi v).1 c' j = if c' = c ∧ lo ≤ j ∧ j < hi then v else M.1 c' j := rfl
theorem rng_2 (M : zMM) (c lo hi : Nat) (v : Int32) : (rng M c lo hi v).2 = M.2 := rfl
theorem zMM_ext {M M' : zMM} (h : ∀ c j, M.1 c j = M'.1 c j) (h2 : M.2 = M'.2) : M = M' := by
  apply Prod.ext
  · funext c j; exact h c j
  · exact h2
theorem rng_nil (M : zMM) (c k : Nat) (v : Int32) : rng M c k k v = M := by
  apply zMM_ext
  · intro c' j; rw [rng_1, if_neg (by omega)]
  · rfl
theorem rng_wr (M : zMM) (c k hi : Nat) (v : Int32) (h : k < hi) : rng (wr M c k v) c (k + 1) hi v = rng M c k hi v := by
  apply zMM_ext
  · intro c' j; rw [rng_1, rng_1, wr_1]
    by_cases e : c' = c
    · by_cases e2 : j = k
      · rw [if_neg (by omega), if_pos ⟨e, e2⟩, if_pos (by omega)]
      · by_cases e3 : k + 1 ≤ j ∧ j < hi
        · rw [if_pos (by omega), if_pos (by omega)]
        · rw [if_neg (by omega), if_neg (by omega), if_neg (by omega)]
    · rw [if_neg (by omega), if_neg (by omega), if_neg (by omega)]
  · rfl
def fr (S : Nat → Nat → Prop) (M M' : zMM) : Prop := (∀ c j, ¬ S c j → M'.1 c j = M.1 c j) ∧ M'.2 = M.2
theorem fr_refl (S : Nat → Nat → Prop) (M : zMM) : fr S M M := ⟨fun _ _ _ => rfl, rfl⟩
theorem fr_trans {S : Nat → Nat → Prop} {M M' M'' : zMM} (h : fr S M M') (h' : fr S M' M'') : fr S M M'' :=
  ⟨fun c j hc => (h'.1 c j hc).trans (h.1 c j hc), h'.2.trans h.2⟩
theorem fr_wr {S : Nat → Nat → Prop} {M M' : zMM} (h : fr S M M') {c j : Nat} {v : Int32} (hs : S c j) : fr S M (wr M' c j v) := by
  refine ⟨fun c' j' hc => ?_, h.2⟩
  rw [wr_1, if_neg (by rintro ⟨rfl, rfl⟩; exact hc hs)]
  exact h.1 c' j' hc
theorem fr_rng {S : Nat → Nat → Prop} {M M' : zMM} (h : fr S M M') {c lo hi : Nat} {v : Int32} (hs : ∀ j, lo ≤ j → j < hi → S c j) : fr S M (rng M' c lo hi v) := by
  refine ⟨fun c' j' hc => ?_, h.2⟩
  rw [rng_1, if_neg (by rintro ⟨rfl, h1, h2⟩; exact hc (hs _ h1 h2))]
  exact h.1 c' j' hc
theorem fr_mono {S S' : Nat → Nat → Prop} {M M' : zMM} (h : fr S M M') (hs : ∀ c j, S c j → S' c j) : fr S' M M' :=
  ⟨fun c j hc => h.1 c j (fun a => hc (hs c j a)), h.2⟩
theorem wr_nj {M : zMM} {c j : Nat} {v : Int32} {c' j' : Nat} (h : c' ≠ c ∨ j' ≠ j) : (wr M c j v).1 c' j' = M.1 c' j' := by
  rw [wr_1, if_neg (by omega)]
theorem wr_cj (M : zMM) (c j : Nat) (v : Int32) : (wr M c j v).1 c j = v := by
  rw [wr_1, if_pos ⟨rfl, rfl⟩]
theorem zN_ltT {a b : Nat} (h : a < b ∧ b < 2147483648) : (zN a < zN b) = True := by rw [zN_lt ⟨by omega, by omega⟩]; simp [h.1]
theorem zN_ltF {a b : Nat} (h : b ≤ a ∧ a < 2147483648) : (zN a < zN b) = False := by rw [zN_lt ⟨by omega, by omega⟩]; simp [h.1]
theorem zN_leT {a b : Nat} (h : a ≤ b ∧ b < 2147483648) : (zN a ≤ zN b) = True := by rw [zN_le ⟨by omega, by omega⟩]; simp [h.1]
theorem zN_leF {a b : Nat} (h : b < a ∧ a < 2147483648) : (zN a ≤ zN b) = False := by rw [zN_le ⟨by omega, by omega⟩]; simp [h.1]
theorem zN_eqT {a b : Nat} (h : a = b) : (zN a = zN b) = True := by rw [h]; simp
theorem zN_eqF {a b : Nat} (h : a ≠ b ∧ a < 2147483648 ∧ b < 2147483648) : (zN a = zN b) = False := by rw [zN_eq ⟨by omega, by omega⟩]; simp [h.1]
theorem zN_oobF {a n : Nat} (h : a < n ∧ a < 2147483648) : oob (zN a) n = False := by rw [zN_oob h.2]; simp [h.1]
theorem zN_oobT {a n : Nat} (h : n ≤ a ∧ a < 2147483648) : oob (zN a) n = True := by rw [zN_oob h.2]; simp [h.1]
/-! a leaf of the class that holds the page P -/
def Leaf (M : zMM) (b : Nat) (P : Nat → Nat) : Prop :=
  (M.1 b 0 = zN (P 0) ∧ M.1 b 1 = zN (P 1) ∧ M.1 b 2 = zN (P 255) ∧ M.1 b 3 = zN (P 2) ∧ M.1 b 4 = zN (P 3) ∧ M.1 b 5 = zN (P 4) ∧ M.1 b 6 = zN (P 218)) ∧
  (∀ i, i < 3 → M.1 (b + 1) i = zN (P (256 + i))) ∧ (∀ t, t < 3 → M.1 (b + 2) t = zN (P (5 + t))) ∧
  (∀ t, t < 3 → ∀ k, k < P (5 + t) → M.1 (b + 4 + t) k = zN (pSz P t k)) ∧
  (∀ i, i < P 218 → M.1 (b + 7) i = zN (P (219 + 3 * i)) ∧ M.1 (b + 8) i = zN (P (220 + 3 * i)) ∧ M.1 (b + 9) i = zN (P (221 + 3 * i)))
theorem Leaf_eq {M M' : zMM} {b : Nat} {P : Nat → Nat} (h : Leaf M b P) (e : ∀ c j, b ≤ c → c ≤ b + 9 → M'.1 c j = M.1 c j) : Leaf M' b P := by
  obtain ⟨⟨h0, h1, h2, h3, h4, h5, h6⟩, hw, hc, hs, ht⟩ := h
  have e0 := fun j => e b j (by omega) (by omega)
  refine ⟨⟨by rw [e0, h0], by rw [e0, h1], by rw [e0, h2], by rw [e0, h3], by rw [e0, h4], by rw [e0, h5], by rw [e0, h6]⟩, ?_, ?_, ?_, ?_⟩
  · intro i hi; rw [e _ _ (by omega) (by omega), hw i hi]
  · intro i hi; rw [e _ _ (by omega) (by omega), hc i hi]
  · intro t hi k hk; rw [e _ _ (by omega) (by omega), hs t hi k hk]
  · intro i hi
    rw [e _ _ (by omega) (by omega), e _ _ (by omega) (by omega), e _ _ (by omega) (by omega)]
    exact ht i hi
theorem rng_in {M : zMM} {c lo hi : Nat} {v : Int32} {j : Nat} (h : lo ≤ j ∧ j < hi) : (rng M c lo hi v).1 c j = v := by
  rw [rng_1, if_pos ⟨rfl, h⟩]
theorem rng_out {M : zMM} {c lo hi : Nat} {v : Int32} {c' j : Nat} (h : c' ≠ c ∨ j < lo ∨ hi ≤ j) : (rng M c lo hi v).1 c' j = M.1 c' j := by
  rw [rng_1, if_neg (by omega)]
