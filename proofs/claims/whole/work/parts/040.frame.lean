/-! THE PICTURE: cells by number, a memory of ints and one of longs, the pointers fixed. A method's contract: from a memory to an answer and a memory. -/
abbrev zAV : Type := Int32 ⊕ (Int64 ⊕ Nat)
abbrev zMM : Type := (Nat → Nat → Int32) × (Nat → Nat → Int64)
/-- a method: its class, its code, its locals, its answer's type, the frames and the words that it needs -/
abbrev zMI : Type := String × ByteArray × Nat × Option FieldType × Nat × Nat
abbrev zSH : Type := (Nat × List (Option Nat)) ⊕ (Nat × Nat × Nat × Nat)
def zcv (ad : Nat → Nat) (v : zAV) : Value := match v with
  | .inl i => .int i
  | .inr (.inl x) => .long x
  | .inr (.inr c) => .ref (ad c)
def zcat (v : zAV) : Nat := match v with
  | .inr (.inl _) => 2
  | _ => 1
theorem zcv_cat (ad : Nat → Nat) (v : zAV) : (zcv ad v).category = zcat v := by
  rcases v with i | x | c <;> rfl
def zcl (ad : Nat → Nat) (q : Nat × zAV) : Nat × Value := (q.1, zcv ad q.2)
def zfv (ad : Nat → Nat) (f : Nat → Int32) (k : Nat) (o : Option Nat) : Value := match o with
  | none => .int (f k)
  | some t => .ref (ad t)
def zfld (ad : Nat → Nat) (f : Nat → Int32) (fs : List (Option Nat)) : List Value := fs.mapIdx (zfv ad f)
def zE (ad : Nat → Nat) (aC : Nat → ClassId) (f : Nat → Int32) (g : Nat → Int64) (sh : zSH) : va_E := match sh with
  | .inl (ci, fs) => .inr (ci, zfld ad f fs)
  | .inr (ty, n, t0, sd) => .inl (aC ty, n, if ty = 3 then .inr (.inl g) else if ty < 3 then .inl f else .inr (.inr (.inr (.inr (fun j => some (ad (t0 + sd * j)))))))
/-- the cells of a leaf, by the number of its object -/
def zleaf (b k : Nat) : zSH := match k with
  | 0 => .inl (0, [none, none, none, none, none, none, none, some (b + 1), some (b + 2), some (b + 3), some (b + 7), some (b + 8), some (b + 9)])
  | 1 => .inr (0, 3, 0, 0)
  | 2 => .inr (0, 3, 0, 0)
  | 3 => .inr (4, 3, b + 4, 1)
  | 4 => .inr (0, 70, 0, 0)
  | 5 => .inr (0, 70, 0, 0)
  | 6 => .inr (0, 70, 0, 0)
  | _ => .inr (0, 12, 0, 0)
/-- the other cells, from 120 on: Setting 120 .. 147, Search 148, Past 149, 150, kept 151, isKept 152, Signs 153, 154, Row 155, 156, RingedPage 157, the model 158 .. 173, the law's row 174 -/
def ztail : List zSH := [
  .inl (4, [none, some 121, some 122, some 123, some 124, some 128, some 132, some 136, some 140, some 144]),
  .inr (0, 3, 0, 0), .inr (0, 3, 0, 0), .inr (0, 3, 0, 0),
  .inr (4, 3, 125, 1), .inr (0, 70, 0, 0), .inr (0, 70, 0, 0), .inr (0, 70, 0, 0),
  .inr (4, 3, 129, 1), .inr (0, 210, 0, 0), .inr (0, 210, 0, 0), .inr (0, 210, 0, 0),
  .inr (4, 3, 133, 1), .inr (0, 210, 0, 0), .inr (0, 210, 0, 0), .inr (0, 210, 0, 0),
  .inr (4, 3, 137, 1), .inr (0, 210, 0, 0), .inr (0, 210, 0, 0), .inr (0, 210, 0, 0),
  .inr (4, 3, 141, 1), .inr (0, 210, 0, 0), .inr (0, 210, 0, 0), .inr (0, 210, 0, 0),
  .inr (4, 3, 145, 1), .inr (0, 210, 0, 0), .inr (0, 210, 0, 0), .inr (0, 210, 0, 0),
  .inl (3, [none, none, none, none, none]),
  .inl (1, [some 150, none, none]), .inr (5, 8, 40, 10),
  .inr (5, 2, 20, 10), .inr (2, 2, 0, 0),
  .inl (5, [some 154, none]), .inr (0, 80, 0, 0),
  .inl (2, [some 156, none]), .inr (3, 60, 0, 0),
  .inl (6, [some 0, some 10, some 120, some 148, some 149, some 151, some 152, some 153, some 155]),
  .inl (7, [some 159, some 160, none, some 161, none, none, none, none, none, some 162, some 163, none, some 164, some 165, none, some 166, some 167, some 168, none, none, none, some 169, some 170, some 171, none, none, some 172, some 173]),
  .inr (0, 259, 0, 0), .inr (1, 80, 0, 0), .inr (3, 80, 0, 0), .inr (0, 320, 0, 0), .inr (0, 1680, 0, 0), .inr (0, 210, 0, 0), .inr (0, 3, 0, 0), .inr (0, 259, 0, 0),
  .inr (0, 3, 0, 0), .inr (0, 3, 0, 0), .inr (0, 3, 0, 0), .inr (0, 1813, 0, 0), .inr (0, 259, 0, 0), .inr (0, 518, 0, 0), .inr (2, 2, 0, 0),
  .inr (3, 1, 0, 0)]
def zshp (i : Nat) : zSH := if i < 120 then zleaf (i - i % 10) (i % 10) else ztail.getD (i - 120) (.inr (0, 0, 0, 0))
def zW (ad : Nat → Nat) (aC : Nat → ClassId) (M : zMM) : va_W := (List.range 175).map (fun i => (ad i, zE ad aC (M.1 i) (M.2 i) (zshp i)))
def zty (aC : Nat → ClassId) : List (ClassId × FieldType) := [(aC 0, .int), (aC 1, .byte), (aC 2, .boolean), (aC 3, .long), (aC 4, .array .int), (aC 5, .object "RingedPage$Leaf")]
def lf (b : Nat) : Prop := ∃ j : Nat, j < 12 ∧ b = 10 * j
theorem lf_shp {b : Nat} (h : lf b) (k : Nat) (hk : k < 10) : zshp (b + k) = zleaf b k := by
  obtain ⟨j, hj, rfl⟩ := h
  unfold zshp
  rw [if_pos (by omega), show (10 * j + k) % 10 = k by omega, show 10 * j + k - k = 10 * j by omega]
theorem lf_lt {b : Nat} (h : lf b) (k : Nat) (hk : k < 10) : b + k < 175 := by
  obtain ⟨j, hj, rfl⟩ := h
  omega
theorem lf_0 : lf 0 := ⟨0, by omega, rfl⟩
theorem lf_10 : lf 10 := ⟨1, by omega, rfl⟩
/-- a place of the memory is written -/
def wr (M : zMM) (c j : Nat) (v : Int32) : zMM := (fun c' => if c' = c then (fun j' => if j' = j then v else M.1 c j') else M.1 c', M.2)
def wrL (M : zMM) (c j : Nat) (v : Int64) : zMM := (M.1, fun c' => if c' = c then (fun j' => if j' = j then v else M.2 c j') else M.2 c')
def cpy (M : zMM) (c0 c1 sp dp n : Nat) : zMM := (fun c' => if c' = c1 then va_cpy (M.1 c0) (M.1 c1) sp dp n else M.1 c', M.2)
abbrev oob (i : Int32) (n : Nat) : Prop := i < 0 ∨ n ≤ i.toNatClampNeg
theorem zW_get (ad : Nat → Nat) (aC : Nat → ClassId) (M : zMM) {i : Nat} (h : i < 175) : (zW ad aC M)[i]? = some (ad i, zE ad aC (M.1 i) (M.2 i) (zshp i)) := by
  unfold zW
  rw [List.getElem?_map, List.getElem?_range h]
  rfl
theorem zW_set {ad : Nat → Nat} {aC : Nat → ClassId} {M M' : zMM} {i : Nat} (h : i < 175) {e : va_E} (h1 : zE ad aC (M'.1 i) (M'.2 i) (zshp i) = e) (h2 : ∀ j, j ≠ i → M'.1 j = M.1 j ∧ M'.2 j = M.2 j) : (zW ad aC M).set i (ad i, e) = zW ad aC M' := by
  apply List.ext_getElem?
  intro k
  by_cases hk : k = i
  · subst hk
    rw [List.getElem?_set_self (by simp [zW]; exact h), zW_get ad aC M' h, h1]
  · rw [List.getElem?_set_ne (Ne.symm hk)]
    unfold zW
    rw [List.getElem?_map, List.getElem?_map]
    by_cases hl : k < 175
    · rw [List.getElem?_range hl]
      simp only [Option.map_some, (h2 k hk).1, (h2 k hk).2]
    · rw [List.getElem?_eq_none (by simp; omega)]
      rfl
theorem zD_any {A : Nat → Prop} {ad : Nat → Nat} {aC : Nat → ClassId} {M M' : zMM} (h : va_D A (zW ad aC M)) : va_D A (zW ad aC M') := by
  have key : ∀ (k : Nat) (q : Nat × va_E), (zW ad aC M')[k]? = some q → ∃ q', (zW ad aC M)[k]? = some q' ∧ q'.1 = q.1 := by
    intro k q hq
    have hl : k < 175 := by
      have := (List.getElem?_eq_some_iff.mp hq).1
      simpa [zW] using this
    rw [zW_get ad aC M' hl] at hq
    cases hq
    exact ⟨_, zW_get ad aC M hl, rfl⟩
  refine ⟨fun i j p q hi hj hpq => ?_, fun k q hk => ?_⟩
  · obtain ⟨p', h1, h2⟩ := key i p hi
    obtain ⟨q', h3, h4⟩ := key j q hj
    exact h.1 i j p' q' h1 h3 (h2.trans (hpq.trans h4.symm))
  · obtain ⟨q', h1, h2⟩ := key k q hk
    rw [← h2]
    exact h.2 k q' h1
theorem zfld_get {ad : Nat → Nat} {f : Nat → Int32} {fs : List (Option Nat)} {k : Nat} {o : Option Nat} (h : fs[k]? = some o) : (zfld ad f fs)[k]? = some (zfv ad f k o) := by
  unfold zfld
  rw [List.getElem?_mapIdx, h]
  rfl
theorem zfld_set {ad : Nat → Nat} {f : Nat → Int32} {fs : List (Option Nat)} {k : Nat} {v : Int32} (h : fs[k]? = some none) : zfld ad (fun j => if j = k then v else f j) fs = (zfld ad f fs).set k (.int v) := by
  have hl : k < fs.length := (List.getElem?_eq_some_iff.mp h).1
  apply List.ext_getElem?
  intro j
  unfold zfld
  by_cases hj : j = k
  · subst hj
    rw [List.getElem?_set_self (by rw [List.length_mapIdx]; exact hl), List.getElem?_mapIdx, h]
    simp [zfv]
  · rw [List.getElem?_set_ne (Ne.symm hj), List.getElem?_mapIdx, List.getElem?_mapIdx]
    cases fs[j]? with
    | none => rfl
    | some o => cases o <;> simp [zfv, hj]
theorem wr_ne {M : zMM} {c j : Nat} {v : Int32} : ∀ q, q ≠ c → (wr M c j v).1 q = M.1 q ∧ (wr M c j v).2 q = M.2 q := fun q h => ⟨by simp [wr, h], rfl⟩
theorem wrL_ne {M : zMM} {c j : Nat} {v : Int64} : ∀ q, q ≠ c → (wrL M c j v).1 q = M.1 q ∧ (wrL M c j v).2 q = M.2 q := fun q h => ⟨rfl, by simp [wrL, h]⟩
theorem wr_at {M : zMM} {c j : Nat} {v : Int32} : (wr M c j v).1 c = fun j' => if j' = j then v else M.1 c j' := by simp [wr]
theorem wrL_at {M : zMM} {c j : Nat} {v : Int64} : (wrL M c j v).2 c = fun j' => if j' = j then v else M.2 c j' := by simp [wrL]
/-- the static rows of the class, by number -/
def zsn (k : Nat) : String := match k with
  | 0 => "LEAST_MEASURE"
  | 1 => "MOST_MEASURE"
  | 2 => "MOST_WEIGHT"
  | 3 => "CROWN_MOVES"
  | 4 => "INNER_MOVES"
  | _ => "OUTER_MOVES"
def zsl (k : Nat) : Nat := if k < 3 then 3 else 6
def zst (k : Nat) : Nat → Int32 := fun j => match k with
  | 0 => if j = 0 then 29 else if j = 1 then 3 else 1
  | 1 => if j = 0 then 60 else if j = 1 then 40 else 4
  | 2 => if j = 2 then 100 else 10000
  | 3 => if j = 0 then -1 else if j = 1 then 1 else 0
  | 4 => if j = 2 then -1 else if j = 3 then 1 else 0
  | _ => if j = 4 then -1 else if j = 5 then 1 else 0
def zNW : List Cond := [.fieldLinkNest RX3 61 "RingedPage" "CROWN_MOVES" "[I" "RingedPage", .fieldLinkNest RX3 65 "RingedPage" "INNER_MOVES" "[I" "RingedPage", .fieldLinkNest RX3 68 "RingedPage" "OUTER_MOVES" "[I" "RingedPage"]
def zNM : List (String × Nat × MethodName) := [(RX0, 68, yX6_isText), (RX4, 114, yX6_isBroken)]
def zNSE : String := "java/util/NoSuchElementException"
/-- the letters of the acts, as the model's text has them -/
def zsb (j : Nat) : Int32 := match j with
  | 0 => 119
  | 1 => 104
  | 2 => 112
  | 3 => 99
  | 4 => 103
  | 5 => 98
  | 6 => 117
  | _ => 120
def zS (ad : Nat → Nat) (A : Nat → Prop) (U : State) (H : Heap) : Prop :=
  (∀ k, k < 6 → va_Z "RingedPage" (zsn k) "[I" (.ref (ad (1000 + k))) A U H ∧ va_T .int (ad (1000 + k)) (zsl k) (fun j => .int (zst k j)) A U H) ∧
  (va_Nw (.fieldLinkNest RX3 61 "RingedPage" "CROWN_MOVES" "[I" "RingedPage") U ∧ va_Nw (.fieldLinkNest RX3 65 "RingedPage" "INNER_MOVES" "[I" "RingedPage") U ∧ va_Nw (.fieldLinkNest RX3 68 "RingedPage" "OUTER_MOVES" "[I" "RingedPage") U) ∧
  (va_Nw (.methodLinkNest RX0 68 yX6_isText "RingedPage") U ∧ va_Nw (.methodLinkNest RX4 114 yX6_isBroken "RingedPage") U) ∧
  ((vx_Zq Bundle.tN "UNASSIGNED_STACK" Bundle.steD A U H ∧ vx_Zq Bundle.tN "SUPPRESSED_SENTINEL" Bundle.listD A U H ∧ va_Nw (.castable zNSE zNSE) U ∧ va_Nw (.declares (Bundle.init0 "java/lang/RuntimeException")) U ∧ va_Nw (.declares (Bundle.init0 "java/lang/Exception")) U ∧ va_Nw (.declares (Bundle.init0 Bundle.tN)) U) ∧
   vk_R RX7 300 "whpcgbux" (ad 2001) U ∧ va_O "java/lang/String" (ad 2001) A U H ∧ va_OF "java/lang/String" "coder" "B" (.int 0) (ad 2001) A U H ∧ va_OF "java/lang/String" "value" "[B" (.ref (ad 2002)) (ad 2001) A U H ∧ va_T .byte (ad 2002) 8 (fun j => .int (zsb j)) A U H ∧ va_Z "java/lang/String" "COMPACT_STRINGS" "Z" (.int 1) A U H)
theorem zS.warm {ad : Nat → Nat} {A : Nat → Prop} {s U : State} {H H1 : Heap} (h : zS ad A s H) (hW : s.WarmedH U.vm) (hq : ∀ a : Nat, a < H.size → ¬ A a → H1[a]? = H[a]?) : zS ad A U H1 := by
  obtain ⟨h1, ⟨h2, h3, h4⟩, ⟨h5, h6⟩, ⟨x1, x2, x3, x4, x5, x6⟩, k1, k2, k3, k4, k5, k6⟩ := h
  exact ⟨fun k hk => ⟨((h1 k hk).1.moved hW.alike).kept hq, ((h1 k hk).2.moved hW.alike).kept hq⟩, ⟨h2.warmF hW, h3.warmF hW, h4.warmF hW⟩, ⟨h5.warmM hW, h6.warmM hW⟩, ⟨(x1.moved hW.alike).kept hq, (x2.moved hW.alike).kept hq, x3.warmC hW, x4.warmD hW, x5.warmD hW, x6.warmD hW⟩, k1.warm hW, (k2.moved hW.alike).kept hq, (k3.moved hW.alike).kept hq, (k4.moved hW.alike).kept hq, (k5.moved hW.alike).kept hq, (k6.moved hW.alike).kept hq⟩
theorem zS.call {ad : Nat → Nat} {A : Nat → Prop} {U : State} {g : JFrame} {mk : MethodId} {a : Array Value} (h : zS ad A U U.heap) : zS ad A (U.calling g mk a) (U.calling g mk a).heap :=
  h.warm (State.WarmedH.refl U) (fun _ _ _ => rfl)
/-- the words of the tables that all methods here stand on -/
def zWS : List Cond := lw_tbl.filter goodWord
theorem zin {w : Cond} (h : w ∈ lw_tbl) (g : goodWord w = true) : w ∈ zWS := List.mem_filter.mpr ⟨h, g⟩
theorem zWS_good : ∀ w ∈ zWS, (w.onTables && w.keeps) = true ∨ ∃ ty, w = .arrayClass ty := fun w h => good_of_word (List.mem_filter.mp h).2
def zCX (mi : zMI) (cells slots : Nat) (p : Program) (l : Launch) (R : Room) (s : State) (m : MethodId) (args : Array Value) (meth : Method) (c : Code) (D : va_G) (ad : Nat → Nat) (aC : Nat → ClassId) (A : Nat → Prop) : Prop :=
  p.tables.exec = Jvm.exec ∧ c.code = mi.2.1 ∧ meth.sig.returnType = mi.2.2.2.1 ∧ c.maxLocals = mi.2.2.1 ∧ s.vm.findClass mi.1 = some m.cls ∧ meth.locks = false ∧ (∀ w ∈ zWS, w.before args s = true) ∧ mi.2.2.2.2.1 ≤ R.frames ∧ mi.2.2.2.2.2 ≤ R.locals ∧ cells ≤ R.cells ∧ slots ≤ R.slots ∧ va_K D vwCl (zty aC) s ∧ zS ad A s s.heap ∧ (∀ q : Nat, s.heap.size ≤ q → A q) ∧ l.stackTraces = false ∧ (mi.1 = RX6 → ∀ x ∈ c.exceptionTable.toList, False) ∧ (mi.1 = RL → 601024 ≤ R.cells ∧ 7293034 ≤ R.slots)
abbrev zZ : Type := va_G → (Nat → Nat) → (Nat → ClassId) → (Nat → Prop) → List Frame → Array Value → State → State → Prop
/-- from here, with these locals, this stack, this memory, the machine comes to Z -/
def zEV (mi : zMI) (cells slots : Nat) (Z : zZ) (pc : Nat) (L : List (Nat × zAV)) (st : List zAV) (M : zMM) : Prop :=
  ∀ (p : Program) (l : Launch) (e : Env) (R : Room) (s : State) (m : MethodId) (args : Array Value) (below : List Frame) (meth : Method) (c : Code) (H : Heap) (locs : List Loc) (D : va_G) (ad : Nat → Nat) (aC : Nat → ClassId) (A : Nat → Prop) (ls : Array Slot),
    zCX mi cells slots p l R s m args meth c D ad aC A → va_P D vwCl (zW ad aC M) H → va_D A (zW ad aC M) → va_S A s.heap H locs → lv_has ls mi.2.2.1 (L.map (zcl ad)) → W p l e R s m args below meth c H locs (cells - 1) (slots - 6) (Z D ad aC A below args s) (F0 m pc ls (st.map (zcv ad)))
def zPre (D : va_G) (ad : Nat → Nat) (aC : Nat → ClassId) (A : Nat → Prop) (M : zMM) (U : State) : Prop := va_P D vwCl (zW ad aC M) U.heap ∧ va_D A (zW ad aC M) ∧ va_K D vwCl (zty aC) U ∧ zS ad A U U.heap ∧ ∀ q : Nat, U.heap.size ≤ q → A q
def zPost (D : va_G) (ad : Nat → Nat) (aC : Nat → ClassId) (A : Nat → Prop) (o : Option zAV × zMM) : Array Value → State → Outcome → State → Prop := fun _ st oc t => oc = .returned (o.1.map (zcv ad)) ∧ va_P D vwCl (zW ad aC o.2) t.heap ∧ va_F A st t
/-- what a method that makes nothing does: from these arguments and this memory it answers o.1, and the memory is o.2 -/
def zCN (y : MethodName) (mi : zMI) (av : List zAV) (M : zMM) (o : Option zAV × zMM) : Prop :=
  ∀ (l : Launch), l.stackTraces = false → ∀ (D : va_G) (ad : Nat → Nat) (aC : Nat → ClassId) (A : Nat → Prop), Met l y (.code y mi.2.1 mi.2.2.1 mi.2.2.2.1 :: zWS) { frames := mi.2.2.2.2.1, cells := 0, slots := 0, locals := mi.2.2.2.2.2 } (va_Pc (av.map (zcv ad)) (zPre D ad aC A M)) (zPost D ad aC A o) 0 0 A
def zZO (o : Option zAV × zMM) : zZ := fun D ad aC A below args s => MQ below (zPost D ad aC A o) args s 0 0 A
def zargs : Nat → List zAV → List (Nat × zAV)
  | _, [] => []
  | i, v :: vs => (i, v) :: zargs (if zcat v = 2 then i + 2 else i + 1) vs
theorem zargs_eq (ad : Nat → Nat) : ∀ (vs : List zAV) (i : Nat), lv_args i (vs.map (zcv ad)) = (zargs i vs).map (zcl ad)
  | [], i => rfl
  | v :: vs, i => by
    show (i, zcv ad v) :: lv_args _ (vs.map (zcv ad)) = (i, zcv ad v) :: (zargs _ vs).map (zcl ad)
    rw [zcv_cat, zargs_eq ad vs]
theorem zsl_len (ad : Nat → Nat) : ∀ (vs : List zAV), (lg_sl (vs.map (zcv ad))).length = (vs.map zcat).sum
  | [] => rfl
  | v :: vs => by
    have ih := zsl_len ad vs
    unfold lg_sl at ih ⊢
    simp only [List.map_cons, List.flatMap_cons, List.length_append, List.sum_cons, ih, zcv_cat]
    rcases v with i | x | c <;> rfl
