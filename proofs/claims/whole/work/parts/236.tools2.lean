/-! more of ints: what is below 0, minus -/
theorem zm_eqF {a b : Nat} (h : a < 2147483648 ∧ 1 ≤ b ∧ b < 2147483648) : (zN a = -zN b) = False := by
  have e : -zN b = zI (-(b : Int)) := by unfold zN zI; rw [Int32.ofInt_neg]
  rw [e]; unfold zN; rw [zI_eq ⟨by omega, by omega⟩ ⟨by omega, by omega⟩]; apply propext; constructor <;> intro h <;> first | exact h.elim | omega
theorem zm_eqF' {a b : Nat} (h : a < 2147483648 ∧ 1 ≤ b ∧ b < 2147483648) : (-zN b = zN a) = False := by
  rw [← zm_eqF h]; apply propext; constructor <;> intro h <;> exact h.symm
theorem zm_I (b : Nat) : -zN b = zI (-(b : Int)) := by unfold zN zI; rw [Int32.ofInt_neg]
theorem zm_lt {a b : Nat} (h : a < 2147483648 ∧ 1 ≤ b ∧ b < 2147483648) : (-zN b < zN a) = True := by
  rw [zm_I]; unfold zN; rw [zI_lt ⟨by omega, by omega⟩ ⟨by omega, by omega⟩]; apply propext; constructor <;> intro _ <;> first | trivial | omega
theorem zm_lt' {a b : Nat} (h : a < 2147483648 ∧ 1 ≤ b ∧ b < 2147483648) : (zN a < -zN b) = False := by
  rw [zm_I]; unfold zN; rw [zI_lt ⟨by omega, by omega⟩ ⟨by omega, by omega⟩]; apply propext; constructor <;> intro h <;> first | exact h.elim | omega
theorem zm_le {a b : Nat} (h : a < 2147483648 ∧ 1 ≤ b ∧ b < 2147483648) : (-zN b ≤ zN a) = True := by
  rw [zm_I]; unfold zN; rw [zI_le ⟨by omega, by omega⟩ ⟨by omega, by omega⟩]; apply propext; constructor <;> intro _ <;> first | trivial | omega
theorem zm_le' {a b : Nat} (h : a < 2147483648 ∧ 1 ≤ b ∧ b < 2147483648) : (zN a ≤ -zN b) = False := by
  rw [zm_I]; unfold zN; rw [zI_le ⟨by omega, by omega⟩ ⟨by omega, by omega⟩]; apply propext; constructor <;> intro h <;> first | exact h.elim | omega
theorem zm_mm {a b : Nat} (h : 1 ≤ a ∧ 1 ≤ b ∧ a < 2147483648 ∧ b < 2147483648) : (-zN a = -zN b) = (a = b) := by
  rw [zm_I, zm_I, zI_eq ⟨by omega, by omega⟩ ⟨by omega, by omega⟩]; apply propext; constructor <;> intro h <;> first | exact h.elim | omega
theorem zm_sub1 {a : Nat} (h : 1 ≤ a) : zN a + -zN 1 = zN (a - 1) := by
  rw [zm_I]; unfold zN; rw [zI_add]; congr 1; omega
theorem zm_add1 : (-zN 1 + zN 1) = zN 0 := by rw [zm_I]; unfold zN; rw [zI_add]; rfl
theorem zN_01 : zN 0 - zN 1 = -zN 1 := by rw [zm_I]; unfold zN; rw [zI_sub]; rfl
/-- an int is below 0, or a whole number -/
theorem zcase (x : Int32) : x < 0 ∨ ∃ n : Nat, n < 2147483648 ∧ x = zN n := by
  have h := zR_toInt x
  by_cases h0 : x.toInt < 0
  · left
    rw [zI_of x, show (0 : Int32) = zI 0 from rfl, zI_lt h ⟨by decide, by decide⟩]; exact h0
  · right
    refine ⟨x.toInt.toNat, by have := h.2; omega, ?_⟩
    unfold zN
    rw [show ((x.toInt.toNat : Nat) : Int) = x.toInt by omega]
    exact zI_of x
theorem zg_int {x : Int32} (h : x < 0) : x.toInt < 0 := by
  rw [zI_of x, show (0 : Int32) = zI 0 from rfl, zI_lt (zR_toInt x) ⟨by decide, by decide⟩] at h; exact h
theorem zg_lt {x : Int32} (h : x < 0) {n : Nat} (hn : n < 2147483648) : (x < zN n) = True := by
  have := zg_int h; have h2 := zR_toInt x
  rw [zI_of x]; unfold zN; rw [zI_lt h2 ⟨by omega, by omega⟩]; apply propext; constructor <;> intro _ <;> first | trivial | omega
theorem zg_lt' {x : Int32} (h : x < 0) {n : Nat} (hn : n < 2147483648) : (zN n < x) = False := by
  have := zg_int h; have h2 := zR_toInt x
  rw [zI_of x]; unfold zN; rw [zI_lt ⟨by omega, by omega⟩ h2]; apply propext; constructor <;> intro h <;> first | exact h.elim | omega
theorem zg_le {x : Int32} (h : x < 0) {n : Nat} (hn : n < 2147483648) : (x ≤ zN n) = True := by
  have := zg_int h; have h2 := zR_toInt x
  rw [zI_of x]; unfold zN; rw [zI_le h2 ⟨by omega, by omega⟩]; apply propext; constructor <;> intro _ <;> first | trivial | omega
theorem zg_le' {x : Int32} (h : x < 0) {n : Nat} (hn : n < 2147483648) : (zN n ≤ x) = False := by
  have := zg_int h; have h2 := zR_toInt x
  rw [zI_of x]; unfold zN; rw [zI_le ⟨by omega, by omega⟩ h2]; apply propext; constructor <;> intro h <;> first | exact h.elim | omega
theorem zg_eq {x : Int32} (h : x < 0) {n : Nat} (hn : n < 2147483648) : (x = zN n) = False := by
  have := zg_int h; have h2 := zR_toInt x
  rw [zI_of x]; unfold zN; rw [zI_eq h2 ⟨by omega, by omega⟩]; apply propext; constructor <;> intro h <;> first | exact h.elim | omega
theorem zN_neg {n : Nat} (h : n < 2147483648) : (zN n < 0) = False := by
  show (zN n < zN 0) = False
  rw [zN_lt ⟨h, by omega⟩]; simp
/-- what the law and the methods say of two ints -/
theorem zN_inj {a b : Nat} (ha : a < 2147483648) (hb : b < 2147483648) (h : zN a = zN b) : a = b := by
  rw [zN_eq ⟨ha, hb⟩] at h; exact h
theorem fr_eq {S : Nat → Nat → Prop} {M M' : zMM} (h : fr S M M') {c j : Nat} (hs : ¬ S c j) : M'.1 c j = M.1 c j := h.1 c j hs
