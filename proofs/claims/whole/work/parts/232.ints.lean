/-! whole numbers as ints -/
def zI (z : Int) : Int32 := Int32.ofInt z
theorem zI_add (a b : Int) : zI a + zI b = zI (a + b) := (Int32.ofInt_add a b).symm
theorem zI_sub (a b : Int) : zI a - zI b = zI (a - b) := (Int32.ofInt_sub a b).symm
theorem zI_mul (a b : Int) : zI a * zI b = zI (a * b) := (Int32.ofInt_mul a b).symm
/-- in the range of ints -/
def zR (a : Int) : Prop := -2147483648 ≤ a ∧ a < 2147483648
theorem zI_toInt {a : Int} (h : zR a) : (zI a).toInt = a := by
  unfold zI
  rw [Int32.toInt_ofInt, Int.bmod_eq_of_le]
  · have := h.1; simp only [Int32.size]; omega
  · have := h.2; simp only [Int32.size]; omega
theorem zI_of (x : Int32) : x = zI x.toInt := (Int32.ofInt_toInt x).symm
theorem zR_toInt (x : Int32) : zR x.toInt := by
  have h1 := Int32.minValue_le_toInt x
  have h2 := Int32.toInt_le x
  have e1 : Int32.minValue.toInt = -2147483648 := by decide
  have e2 : Int32.maxValue.toInt = 2147483647 := by decide
  rw [e1] at h1
  rw [e2] at h2
  exact ⟨by omega, by omega⟩
theorem zI_lt {a b : Int} (ha : zR a) (hb : zR b) : zI a < zI b ↔ a < b := by
  rw [Int32.lt_iff_toInt_lt, zI_toInt ha, zI_toInt hb]
theorem zI_le {a b : Int} (ha : zR a) (hb : zR b) : zI a ≤ zI b ↔ a ≤ b := by
  rw [Int32.le_iff_toInt_le, zI_toInt ha, zI_toInt hb]
theorem zI_eq {a b : Int} (ha : zR a) (hb : zR b) : zI a = zI b ↔ a = b := by
  constructor
  · intro h
    have := congrArg Int32.toInt h
    rwa [zI_toInt ha, zI_toInt hb] at this
  · intro h; rw [h]
theorem zI_nat {a : Int} (ha : zR a) : (zI a).toNatClampNeg = a.toNat := by
  show (zI a).toInt.toNat = a.toNat
  rw [zI_toInt ha]
theorem zI_oob {a : Int} (ha : zR a) (n : Nat) : oob (zI a) n ↔ a < 0 ∨ (n : Int) ≤ a := by
  unfold oob
  rw [zI_nat ha, show (0 : Int32) = zI 0 from rfl, zI_lt ha ⟨by decide, by decide⟩]
  constructor
  · rintro (h | h)
    · exact Or.inl h
    · by_cases h0 : a < 0
      · exact Or.inl h0
      · exact Or.inr (by omega)
  · rintro (h | h)
    · exact Or.inl h
    · exact Or.inr (by omega)
/-! the memory -/
theorem wr_1 (M : zMM) (c j : Nat) (v : Int32) (c' j' : Nat) : (wr M c j v).1 c' j' = if c' = c ∧ j' = j then v else M.1 c' j' := by
  unfold wr
  by_cases hc : c' = c
  · subst hc
    by_cases hj : j' = j <;> simp [hj]
  · simp [hc]
theorem wr_2 (M : zMM) (c j : Nat) (v : Int32) : (wr M c j v).2 = M.2 := rfl
theorem wrL_1 (M : zMM) (c j : Nat) (v : Int64) : (wrL M c j v).1 = M.1 := rfl
theorem wrL_2 (M : zMM) (c j : Nat) (v : Int64) (c' j' : Nat) : (wrL M c j v).2 c' j' = if c' = c ∧ j' = j then v else M.2 c' j' := by
  unfold wrL
  by_cases hc : c' = c
  · subst hc
    by_cases hj : j' = j <;> simp [hj]
  · simp [hc]
theorem wr_nc {M : zMM} {c j : Nat} {v : Int32} {c' : Nat} (h : c' ≠ c) : (wr M c j v).1 c' = M.1 c' := by simp [wr, h]
theorem cpy_1 (M : zMM) (c0 c1 sp dp n c' : Nat) (h : c' ≠ c1) : (cpy M c0 c1 sp dp n).1 c' = M.1 c' := by simp [cpy, h]
