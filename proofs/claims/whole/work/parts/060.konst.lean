/-! CONSTRUCTORS: a world that grows. Cells have numbers of their own here: 0 is the object that is made. -/
abbrev zSG : Type := (Nat × List (Option (Option Nat))) ⊕ (Nat × Nat × List (Option Nat))
abbrev zBB : Type := List (Nat × zSG)
def zfg (ad : Nat → Nat) (f : Nat → Int32) (k : Nat) (o : Option (Option Nat)) : Value := match o with
  | none => .int (f k)
  | some none => .null
  | some (some t) => .ref (ad t)
def zEg (ad : Nat → Nat) (aC : Nat → ClassId) (f : Nat → Int32) (g : Nat → Int64) (sh : zSG) : va_E := match sh with
  | .inl (ci, fs) => .inr (ci, fs.mapIdx (zfg ad f))
  | .inr (ty, n, r) => .inl (aC ty, n, if ty = 3 then .inr (.inl g) else if ty < 3 then .inl f else .inr (.inr (.inr (.inr (fun j => (r.getD j none).map ad)))))
def zcc (ad : Nat → Nat) (aC : Nat → ClassId) (M : zMM) (q : Nat × zSG) : Nat × va_E := (ad q.1, zEg ad aC (M.1 q.1) (M.2 q.1) q.2)
def zWB (B : zBB) (ad : Nat → Nat) (aC : Nat → ClassId) (M : zMM) : va_W := B.map (zcc ad aC M)
def zids (B : zBB) : List Nat := B.map Prod.fst
def zgo (G : List Nat) (sh : zSG) : Bool := match sh with
  | .inl (_, fs) => fs.all (fun o => match o with
    | some (some t) => G.contains t
    | _ => true)
  | .inr (_, _, r) => r.all (fun o => match o with
    | some t => G.contains t
    | none => true)
/-- no pointer leads out of it -/
def zcls (B : zBB) : Bool := B.all (fun q => zgo (zids B) q.2)
def zrin (G : List Nat) (v : zAV) : Bool := match v with
  | .inr (.inr c) => G.contains c
  | _ => true
theorem zEg_congr {ad ad' : Nat → Nat} {aC : Nat → ClassId} {f : Nat → Int32} {g : Nat → Int64} {sh : zSG} {G : List Nat} (h : zgo G sh = true) (ha : ∀ t ∈ G, ad' t = ad t) : zEg ad' aC f g sh = zEg ad aC f g sh := by
  rcases sh with ⟨ci, fs⟩ | ⟨ty, n, r⟩
  · simp only [zEg]
    congr 2
    apply List.ext_getElem?
    intro k
    rw [List.getElem?_mapIdx, List.getElem?_mapIdx]
    cases ho : fs[k]? with
    | none => rfl
    | some o =>
      have h1 := List.all_eq_true.mp h o (List.mem_of_getElem? ho)
      rcases o with _ | _ | t
      · rfl
      · rfl
      · simp only [Option.map_some, zfg, ha t (by simpa using h1)]
  · simp only [zEg]
    have hr : (fun j => (r.getD j none).map ad') = fun j => (r.getD j none).map ad := by
      funext j
      rw [List.getD_eq_getElem?_getD]
      cases ho : r[j]? with
      | none => rfl
      | some o =>
        have h1 := List.all_eq_true.mp h o (List.mem_of_getElem? ho)
        rcases o with _ | t
        · rfl
        · simp only [Option.getD_some, Option.map_some, ha t (by simpa using h1)]
    rw [hr]
theorem zWB_congr {B : zBB} {ad ad' : Nat → Nat} {aC : Nat → ClassId} {M M' : zMM} (h : zcls B = true) (ha : ∀ t ∈ zids B, ad' t = ad t) (hM : ∀ t ∈ zids B, M'.1 t = M.1 t ∧ M'.2 t = M.2 t) : zWB B ad' aC M' = zWB B ad aC M := by
  unfold zWB
  apply List.map_congr_left
  intro q hq
  have hi : q.1 ∈ zids B := List.mem_map.mpr ⟨q, hq, rfl⟩
  unfold zcc
  rw [ha _ hi, (hM _ hi).1, (hM _ hi).2, zEg_congr (List.all_eq_true.mp h q hq) ha]
theorem zst_congr {ad ad' : Nat → Nat} {G : List Nat} (ha : ∀ t ∈ G, ad' t = ad t) {st : List zAV} (h : st.all (zrin G) = true) : st.map (zcv ad') = st.map (zcv ad) := by
  apply List.map_congr_left
  intro v hv
  have h1 := List.all_eq_true.mp h v hv
  rcases v with i | x | c
  · rfl
  · rfl
  · simp only [zcv, ha c (by simpa [zrin] using h1)]
theorem zL_congr {ad ad' : Nat → Nat} {G : List Nat} (ha : ∀ t ∈ G, ad' t = ad t) {L : List (Nat × zAV)} (h : L.all (fun q => zrin G q.2) = true) : L.map (zcl ad') = L.map (zcl ad) := by
  apply List.map_congr_left
  intro q hq
  have h1 := List.all_eq_true.mp h q hq
  obtain ⟨i, v⟩ := q
  rcases v with x | x | c
  · rfl
  · rfl
  · simp only [zcl, zcv, ha c (by simpa [zrin] using h1)]
theorem zWB_get (B1 : zBB) (x : Nat × zSG) (B2 : zBB) (ad : Nat → Nat) (aC : Nat → ClassId) (M : zMM) : (zWB (B1 ++ x :: B2) ad aC M)[B1.length]? = some (zcc ad aC M x) := by
  unfold zWB
  rw [List.getElem?_map, List.getElem?_append_right (Nat.le_refl _), Nat.sub_self]
  rfl
theorem zWB_set {B1 : zBB} {x x' : Nat × zSG} {B2 : zBB} {ad : Nat → Nat} {aC : Nat → ClassId} {M M' : zMM} {e : Nat × va_E} (h : zcc ad aC M' x' = e) (ho : ∀ y ∈ B1 ++ B2, zcc ad aC M' y = zcc ad aC M y) : (zWB (B1 ++ x :: B2) ad aC M).set B1.length e = zWB (B1 ++ x' :: B2) ad aC M' := by
  unfold zWB
  rw [List.map_append, List.map_append, List.map_cons, List.map_cons, List.set_append_right _ _ (by rw [List.length_map]; exact Nat.le_refl _), List.length_map, Nat.sub_self, List.set_cons_zero, h]
  congr 1
  · exact List.map_congr_left (fun y hy => (ho y (List.mem_append_left _ hy)).symm)
  · congr 1
    exact List.map_congr_left (fun y hy => (ho y (List.mem_append_right _ hy)).symm)
theorem zWB_dis {B1 : zBB} {x : Nat × zSG} {B2 : zBB} {ad : Nat → Nat} {aC : Nat → ClassId} {M : zMM} {A : Nat → Prop} (h : va_D A (zWB (B1 ++ x :: B2) ad aC M)) : ∀ y ∈ B1 ++ B2, y.1 ≠ x.1 := by
  intro y hy e
  have hx := zWB_get B1 x B2 ad aC M
  rcases List.mem_append.mp hy with hy | hy
  · obtain ⟨k, hk⟩ := List.getElem?_of_mem hy
    have hl := (List.getElem?_eq_some_iff.mp hk).1
    have hy2 : (zWB (B1 ++ x :: B2) ad aC M)[k]? = some (zcc ad aC M y) := by
      unfold zWB
      rw [List.getElem?_map, List.getElem?_append_left hl, hk]
      rfl
    have := h.1 k B1.length _ _ hy2 hx (by simp only [zcc, e])
    omega
  · obtain ⟨k, hk⟩ := List.getElem?_of_mem hy
    have hy2 : (zWB (B1 ++ x :: B2) ad aC M)[B1.length + 1 + k]? = some (zcc ad aC M y) := by
      unfold zWB
      rw [List.getElem?_map, List.getElem?_append_right (by omega), show B1.length + 1 + k - B1.length = k + 1 by omega, List.getElem?_cons_succ, hk]
      rfl
    have := h.1 _ B1.length _ _ hy2 hx (by simp only [zcc, e])
    omega
/-- words that are no good words: the nest's constructors, the classes of the rows -/
def zNG (U : State) : Prop := (va_Nw (.methodLinkNest RX6 11 yX0_init "RingedPage") U ∧ va_Nw (.methodLinkNest RX6 21 yX4_init "RingedPage") U ∧ va_Nw (.methodLinkNest RX6 28 yX3_init "RingedPage") U ∧ va_Nw (.methodLinkNest RX6 50 yX5_init "RingedPage") U ∧ va_Nw (.methodLinkNest RX6 57 yX2_init "RingedPage") U ∧ va_Nw (.methodLinkNest RX1 24 yX0_init "RingedPage") U) ∧ va_AOA .int U ∧ va_AO "RingedPage$Leaf" U
theorem zNG.warm {s U : State} (h : zNG s) (hW : s.WarmedH U.vm) : zNG U := by
  obtain ⟨⟨h1, h2, h3, h4, h5, h6⟩, h7, h8⟩ := h
  exact ⟨⟨h1.warmM hW, h2.warmM hW, h3.warmM hW, h4.warmM hW, h5.warmM hW, h6.warmM hW⟩, Jvm.Stand.arrayOver_alikeB hW.alike h7, h8.moved hW.alike⟩
def zCK (mi : zMI) (mc ms : Nat) (p : Program) (R : Room) (s : State) (m : MethodId) (args : Array Value) (meth : Method) (c : Code) (D : va_G) (aC : Nat → ClassId) (A : Nat → Prop) : Prop :=
  p.tables.exec = Jvm.exec ∧ c.code = mi.2.1 ∧ meth.sig.returnType = mi.2.2.2.1 ∧ c.maxLocals = mi.2.2.1 ∧ s.vm.findClass mi.1 = some m.cls ∧ meth.locks = false ∧ (∀ w ∈ zWS, w.before args s = true) ∧ mi.2.2.2.2.1 ≤ R.frames ∧ mi.2.2.2.2.2 ≤ R.locals ∧ mc ≤ R.cells ∧ ms ≤ R.slots ∧ va_K D vwCl (zty aC) s ∧ zNG s ∧ (∀ q : Nat, s.heap.size ≤ q → A q) ∧ meth.name = "<init>"
def zPK (D : va_G) (ad : Nat → Nat) (aC : Nat → ClassId) (A : Nat → Prop) (o : zBB × zMM) : Array Value → State → Outcome → State → Prop := fun _ st oc t => oc = .returned none ∧ va_F A st t ∧ ∃ ad' : Nat → Nat, ad' 0 = ad 0 ∧ va_P D vwCl (zWB o.1 ad' aC o.2) t.heap ∧ va_D A (zWB o.1 ad' aC o.2)
def zEK (mi : zMI) (mc ms : Nat) (o : zBB × zMM) (pc : Nat) (L : List (Nat × zAV)) (st : List zAV) (cells slots : Nat) (B : zBB) (M : zMM) : Prop :=
  ∀ (p : Program) (l : Launch) (e : Env) (R : Room) (s : State) (m : MethodId) (args : Array Value) (below : List Frame) (meth : Method) (c : Code) (H : Heap) (locs : List Loc) (D : va_G) (ad : Nat → Nat) (aC : Nat → ClassId) (A : Nat → Prop) (ls : Array Slot),
    zCK mi mc ms p R s m args meth c D aC A → va_P D vwCl (zWB B ad aC M) H → va_D A (zWB B ad aC M) → va_S A s.heap H locs → lv_has ls mi.2.2.1 (L.map (zcl ad)) → W p l e R s m args below meth c H locs cells slots (MQ below (zPK D ad aC A o) args s mc ms A) (F0 m pc ls (st.map (zcv ad)))
def zPreK (D : va_G) (ad : Nat → Nat) (aC : Nat → ClassId) (A : Nat → Prop) (B : zBB) (M : zMM) (U : State) : Prop := va_P D vwCl (zWB B ad aC M) U.heap ∧ va_D A (zWB B ad aC M) ∧ va_K D vwCl (zty aC) U ∧ zNG U ∧ ∀ q : Nat, U.heap.size ≤ q → A q
/-- a constructor without arguments: cell 0 is blank, then the world o.1 with the memory o.2 -/
def zKN (y : MethodName) (mi : zMI) (mc ms : Nat) (B : zBB) (M : zMM) (o : zBB × zMM) : Prop :=
  ∀ (l : Launch) (D : va_G) (ad : Nat → Nat) (aC : Nat → ClassId) (A : Nat → Prop), Met l y (.code y mi.2.1 mi.2.2.1 mi.2.2.2.1 :: zWS) { frames := mi.2.2.2.2.1, cells := mc, slots := ms, locals := mi.2.2.2.2.2 } (va_Pc [.ref (ad 0)] (zPreK D ad aC A B M)) (zPK D ad aC A o) mc ms A
section ZK
variable {mi : zMI} {mc ms cs ss : Nat} {o : zBB × zMM} {pc : Nat} {L : List (Nat × zAV)} {st : List zAV} {B : zBB} {M : zMM}
theorem zEK.iconst {n : Int} {v : Int32} (hd : decode mi.2.1 pc = .ok (.iconst n, 1)) (hv : Int32.ofInt n = v) (k : zEK mi mc ms o (pc + 1) L (.inl v :: st) cs ss B M) : zEK mi mc ms o pc L (st) cs ss B M := by
  intro p l e R s m args below meth c H locs D ad aC A ls C hP hD hS hl
  exact lv_iconst C.1 C.2.1 hd hv (k p l e R s m args below meth c H locs D ad aC A ls C hP hD hS hl)
theorem zEK.bipush {n : Int} {v : Int32} (hd : decode mi.2.1 pc = .ok (.bipush n, 2)) (hv : (Int8.ofInt n).toInt32 = v) (k : zEK mi mc ms o (pc + 2) L (.inl v :: st) cs ss B M) : zEK mi mc ms o pc L (st) cs ss B M := by
  intro p l e R s m args below meth c H locs D ad aC A ls C hP hD hS hl
  exact lv_bipush C.1 C.2.1 hd hv (k p l e R s m args below meth c H locs D ad aC A ls C hP hD hS hl)
theorem zEK.sipush {n : Int} {v : Int32} (hd : decode mi.2.1 pc = .ok (.sipush n, 3)) (hv : (Int16.ofInt n).toInt32 = v) (k : zEK mi mc ms o (pc + 3) L (.inl v :: st) cs ss B M) : zEK mi mc ms o pc L (st) cs ss B M := by
  intro p l e R s m args below meth c H locs D ad aC A ls C hP hD hS hl
  exact lv_sipush C.1 C.2.1 hd hv (k p l e R s m args below meth c H locs D ad aC A ls C hP hD hS hl)
theorem zEK.aload_n {i : Fin 4} {j : Nat} {x : Nat} (hd : decode mi.2.1 pc = .ok (.aload_n i, 1)) (hi : (i : Nat) = j) (q : Nat) (hq : L[q]? = some (j, .inr (.inr x))) (k : zEK mi mc ms o (pc + 1) L (.inr (.inr x) :: st) cs ss B M) : zEK mi mc ms o pc L (st) cs ss B M := by
  intro p l e R s m args below meth c H locs D ad aC A ls C hP hD hS hl
  exact lv_aload_n C.1 C.2.1 hd hi (zhl hl q hq) (k p l e R s m args below meth c H locs D ad aC A ls C hP hD hS hl)
theorem zEK.iload_n {i : Fin 4} {j : Nat} {x : Int32} (hd : decode mi.2.1 pc = .ok (.iload_n i, 1)) (hi : (i : Nat) = j) (q : Nat) (hq : L[q]? = some (j, .inl x)) (k : zEK mi mc ms o (pc + 1) L (.inl x :: st) cs ss B M) : zEK mi mc ms o pc L (st) cs ss B M := by
  intro p l e R s m args below meth c H locs D ad aC A ls C hP hD hS hl
  exact lv_iload_n C.1 C.2.1 hd hi (zhl hl q hq) (k p l e R s m args below meth c H locs D ad aC A ls C hP hD hS hl)
theorem zEK.istore_n {i : Nat} {x : Int32} {kk : Fin 4} {L' : List (Nat × zAV)} (hd : decode mi.2.1 pc = .ok (.istore_n kk, 1)) (hi : (kk : Nat) = i) (hn : i < mi.2.2.1) (hL : (i, .inl x) :: L.filter (fun q => !(q.1 == i) && !(q.1 + 1 == i && zcat q.2 == 2)) = L') (k : zEK mi mc ms o (pc + 1) L' st cs ss B M) : zEK mi mc ms o pc L (.inl x :: st) cs ss B M := by
  intro p l e R s m args below meth c H locs D ad aC A ls C hP hD hS hl
  subst hL
  exact lv_istore_n (lv' := ((i, (.inl x : zAV)) :: L.filter (fun q => !(q.1 == i) && !(q.1 + 1 == i && zcat q.2 == 2))).map (zcl ad)) C.1 C.2.1 hd hi hl hn (by rw [zfil]; rfl) (fun ls' hl' => k p l e R s m args below meth c H locs D ad aC A ls' C hP hD hS hl')
theorem zEK.iinc {i : Nat} {n : Int} {x v : Int32} {L' : List (Nat × zAV)} (hd : decode mi.2.1 pc = .ok (.iinc i n, 3)) (q : Nat) (hq : L[q]? = some (i, .inl x)) (hv : x + Int32.ofInt n = v) (hn : i < mi.2.2.1) (hL : (i, .inl v) :: L.filter (fun q => !(q.1 == i) && !(q.1 + 1 == i && zcat q.2 == 2)) = L') (k : zEK mi mc ms o (pc + 3) L' st cs ss B M) : zEK mi mc ms o pc L st cs ss B M := by
  intro p l e R s m args below meth c H locs D ad aC A ls C hP hD hS hl
  subst hL
  exact lv_iinc (v := v) (k := q) (lv' := ((i, (.inl v : zAV)) :: L.filter (fun q => !(q.1 == i) && !(q.1 + 1 == i && zcat q.2 == 2))).map (zcl ad)) C.1 C.2.1 hd hl (by rw [List.getElem?_map, hq]; rfl) hv hn (by rw [zfil]; rfl) (fun ls' hl' => k p l e R s m args below meth c H locs D ad aC A ls' C hP hD hS hl')
theorem zEK.dup {a : zAV} (hd : decode mi.2.1 pc = .ok (.dup, 1)) (ha : zcat a = 1) (k : zEK mi mc ms o (pc + 1) L (a :: a :: st) cs ss B M) : zEK mi mc ms o pc L (a :: st) cs ss B M := by
  intro p l e R s m args below meth c H locs D ad aC A ls C hP hD hS hl
  exact lv_dup C.1 C.2.1 hd ((zcv_cat _ _).trans ha) (k p l e R s m args below meth c H locs D ad aC A ls C hP hD hS hl)
theorem zEK.goto {off : Int} (tgt : Nat) (hd : decode mi.2.1 pc = .ok (.goto off, 3)) (ht : (pc : Int) + off = (tgt : Int)) (k : zEK mi mc ms o tgt L st cs ss B M) : zEK mi mc ms o pc L st cs ss B M := by
  intro p l e R s m args below meth c H locs D ad aC A ls C hP hD hS hl
  exact lv_goto C.1 C.2.1 hd ht (k p l e R s m args below meth c H locs D ad aC A ls C hP hD hS hl)
theorem zEK.icmp_ge {x y : Int32} {off : Int} (tgt : Nat) (hd : decode mi.2.1 pc = .ok (.if_icmp .ge off, 3)) (ht : (pc : Int) + off = (tgt : Int)) (kt : y ≤ x → zEK mi mc ms o tgt L st cs ss B M) (kf : ¬ y ≤ x → zEK mi mc ms o (pc + 3) L st cs ss B M) : zEK mi mc ms o pc L (.inl y :: .inl x :: st) cs ss B M := by
  intro p l e R s m args below meth c H locs D ad aC A ls C hP hD hS hl
  exact lv_icmp_ge C.1 C.2.1 hd ht (fun h => kt h p l e R s m args below meth c H locs D ad aC A ls C hP hD hS hl) (fun h => kf h p l e R s m args below meth c H locs D ad aC A ls C hP hD hS hl)
theorem zEK.obj {idx : Nat} {x : Nat} (hw : Cond.methodLink mi.1 idx objectInit ∈ zWS) (h1 : Cond.instanceMethod objectInit ∈ zWS ∧ Cond.code objectInit ⟨#[0xb1]⟩ 1 none ∈ zWS) (hr : 1 ≤ mi.2.2.2.2.1 ∧ (st.map zcat).sum + 12 ≤ mi.2.2.2.2.2) (hd : decode mi.2.1 pc = .ok (.invokespecial idx, 3)) (k : zEK mi mc ms o (pc + 3) L st cs ss B M) : zEK mi mc ms o pc L (.inr (.inr x) :: st) cs ss B M := by
  intro p l e R s m args below meth c H locs D ad aC A ls C hP hD hS hl
  have hcat : ((st.map (zcv ad)).map fun v => v.category).sum = (st.map zcat).sum := by rw [List.map_map]; congr 1; apply List.map_congr_left; intro v _; exact zcv_cat ad v
  have hts := C.2.2.2.2.2.2.1
  exact W.objInit C.1 C.2.1 C.2.2.2.2.1 (hts _ hw) (hts _ h1.1) (hts _ h1.2) rfl (by rw [C.2.2.2.1]; exact hl.1) rfl hd (Nat.le_trans hr.1 C.2.2.2.2.2.2.2.1) (by show 2 * 0 + _ + 12 ≤ _; rw [hcat]; have := Nat.le_trans hr.2 C.2.2.2.2.2.2.2.2.1; omega) (k p l e R s m args below meth c H locs D ad aC A ls C hP hD hS hl)
/-- this.x = an int -/
theorem zEK.pfi {ci : Nat} {C0 : String} {T : u_T} {N idx i : Nat} {fs : List (Option (Option Nat))} {v : Int32} (B1 B2 : zBB) (hB : B = B1 ++ (i, .inl (ci, fs)) :: B2) (hc : vwCl[ci]? = some (C0, T, N)) (hin : ∀ w ∈ u_ws C0 T N, w ∈ zWS) (ty0 : Nat → FieldType) (hty : ∀ k, k < N → parseFieldDescriptor (T k).2.2.1 = some (ty0 k)) (hnm : ∀ a, a < N → ∀ b, b < N → a ≠ b → (T a).2.1 ≠ (T b).2.1) (k : Nat) (hk : k < N) (hw : Cond.fieldLink mi.1 idx (T k).1 (T k).2.1 (T k).2.2.1 ∈ zWS) (hfin : (T k).2.2.2 = false) (hd0 : parseFieldDescriptor (T k).2.2.1 = some .int) (hf : fs[k]? = some none) (hd : decode mi.2.1 pc = .ok (.putfield idx, 3)) (kk : zEK mi mc ms o (pc + 3) L st cs ss B (wr M i k v)) : zEK mi mc ms o pc L (.inl v :: .inr (.inr i) :: st) cs ss B M := by
  intro p l e R s m args below meth c H locs D ad aC A ls C hP hD hS hl
  subst hB
  have he := zWB_get B1 (i, .inl (ci, fs)) B2 ad aC M
  have hlen : k < (fs.mapIdx (zfg ad (M.1 i))).length := by rw [List.length_mapIdx]; exact (List.getElem?_eq_some_iff.mp hf).1
  have hset : (zWB (B1 ++ (i, .inl (ci, fs)) :: B2) ad aC M).set B1.length (ad i, .inr (ci, (fs.mapIdx (zfg ad (M.1 i))).set k (.int v))) = zWB (B1 ++ (i, .inl (ci, fs)) :: B2) ad aC (wr M i k v) := by
    refine zWB_set ?_ (fun y hy => ?_)
    · simp only [zcc, zEg, wr_at]
      congr 3
      apply List.ext_getElem?
      intro j
      by_cases hj : j = k
      · subst hj
        rw [List.getElem?_set_self hlen, List.getElem?_mapIdx, hf]
        simp [zfg]
      · rw [List.getElem?_set_ne (Ne.symm hj), List.getElem?_mapIdx, List.getElem?_mapIdx]
        cases fs[j]? with
        | none => rfl
        | some q => rcases q with _ | _ | t <;> simp [zfg, hj]
    · have hne := zWB_dis hD y hy
      simp only [zcc, (wr_ne (M := M) (c := i) (j := k) (v := v) y.1 hne).1, (wr_ne (M := M) (c := i) (j := k) (v := v) y.1 hne).2]
  refine va_put (v := .int v) C.1 C.2.1 C.2.2.2.2.2.2.1 hin ty0 hty hnm C.2.2.2.2.1 C.2.2.2.2.2.2.2.2.2.2.2.1 hP hD hS B1.length he hc k hk (C.2.2.2.2.2.2.1 _ hw) (fun _ h => h) hfin hd0 (vp_nar_int v) rfl hlen hd (fun H1 locs1 hP1 hD1 hS1 => ?_)
  rw [hset] at hP1 hD1
  exact kk p l e R s m args below meth c H1 locs1 D ad aC A ls C hP1 hD1 hS1 hl
/-- this.x = a cell, a final field -/
theorem zEK.pfr {ci : Nat} {C0 : String} {T : u_T} {N idx i t : Nat} {fs : List (Option (Option Nat))} (B1 B2 : zBB) (hB : B = B1 ++ (i, .inl (ci, fs)) :: B2) (hc : vwCl[ci]? = some (C0, T, N)) (hin : ∀ w ∈ u_ws C0 T N, w ∈ zWS) (ty0 : Nat → FieldType) (hty : ∀ k, k < N → parseFieldDescriptor (T k).2.2.1 = some (ty0 k)) (hnm : ∀ a, a < N → ∀ b, b < N → a ≠ b → (T a).2.1 ≠ (T b).2.1) (k : Nat) (hk : k < N) (hw : Cond.fieldLink mi.1 idx (T k).1 (T k).2.1 (T k).2.2.1 ∈ zWS) (hfin : (T k).2.2.2 = true) (hdecl : (T k).1 = mi.1) {ty : FieldType} (hd0 : parseFieldDescriptor (T k).2.2.1 = some ty) (hrt : ty.isReference = true) (hf : fs[k]? = some (some none)) (hd : decode mi.2.1 pc = .ok (.putfield idx, 3)) (kk : zEK mi mc ms o (pc + 3) L st cs ss (B1 ++ (i, .inl (ci, fs.set k (some (some t)))) :: B2) M) : zEK mi mc ms o pc L (.inr (.inr t) :: .inr (.inr i) :: st) cs ss B M := by
  intro p l e R s m args below meth c H locs D ad aC A ls C hP hD hS hl
  subst hB
  have he := zWB_get B1 (i, .inl (ci, fs)) B2 ad aC M
  have hlt := (List.getElem?_eq_some_iff.mp hf).1
  have hlen : k < (fs.mapIdx (zfg ad (M.1 i))).length := by rw [List.length_mapIdx]; exact hlt
  have hset : (zWB (B1 ++ (i, .inl (ci, fs)) :: B2) ad aC M).set B1.length (ad i, .inr (ci, (fs.mapIdx (zfg ad (M.1 i))).set k (.ref (ad t)))) = zWB (B1 ++ (i, .inl (ci, fs.set k (some (some t)))) :: B2) ad aC M := by
    refine zWB_set ?_ (fun y hy => rfl)
    simp only [zcc, zEg]
    congr 3
    apply List.ext_getElem?
    intro j
    by_cases hj : j = k
    · subst hj
      rw [List.getElem?_set_self hlen, List.getElem?_mapIdx, List.getElem?_set_self hlt]
      rfl
    · rw [List.getElem?_set_ne (Ne.symm hj), List.getElem?_mapIdx, List.getElem?_mapIdx, List.getElem?_set_ne (Ne.symm hj)]
  have hn : narrow ty (.ref (ad t)) = .ref (ad t) := by cases ty <;> first | rfl | cases hrt
  have hfit : fits ty (.ref (ad t)) = true := by cases ty <;> first | rfl | cases hrt
  refine va_putF (v := .ref (ad t)) C.1 C.2.1 C.2.2.2.2.2.2.1 hin ty0 hty hnm C.2.2.2.2.1 C.2.2.2.2.2.2.2.2.2.2.2.1 hP hD hS B1.length he hc k hk (C.2.2.2.2.2.2.1 _ hw) (fun _ h => h) hfin C.2.2.2.2.2.2.2.2.2.2.2.2.2.2 hdecl hd0 hn hfit hlen hd (fun H1 locs1 hP1 hD1 hS1 => ?_)
  rw [hset] at hP1 hD1
  exact kk p l e R s m args below meth c H1 locs1 D ad aC A ls C hP1 hD1 hS1 hl
theorem zEK.iast {i n j : Nat} {r : List (Option Nat)} {x v : Int32} (B1 B2 : zBB) (hB : B = B1 ++ (i, .inr (0, n, r)) :: B2) (hb : ¬ oob x n) (hj : x.toNatClampNeg = j) (hd : decode mi.2.1 pc = .ok (.iastore, 1)) (kk : zEK mi mc ms o (pc + 1) L st cs ss B (wr M i j v)) : zEK mi mc ms o pc L (.inl v :: .inl x :: .inr (.inr i) :: st) cs ss B M := by
  intro p l e R s m args below meth c H locs D ad aC A ls C hP hD hS hl
  subst hB
  subst hj
  have he := zWB_get B1 (i, .inr (0, n, r)) B2 ad aC M
  have hset : (zWB (B1 ++ (i, .inr (0, n, r)) :: B2) ad aC M).set B1.length (ad i, .inl (aC 0, n, .inl (upd (M.1 i) x.toNatClampNeg v))) = zWB (B1 ++ (i, .inr (0, n, r)) :: B2) ad aC (wr M i x.toNatClampNeg v) := by
    refine zWB_set ?_ (fun y hy => ?_)
    · simp only [zcc, zEg, wr_at]
      rfl
    · have hne := zWB_dis hD y hy
      simp only [zcc, (wr_ne (M := M) (c := i) (j := x.toNatClampNeg) (v := v) y.1 hne).1, (wr_ne (M := M) (c := i) (j := x.toNatClampNeg) (v := v) y.1 hne).2]
  refine va_iast C.1 C.2.1 C.2.2.2.2.2.2.2.2.2.2.2.1 hP hD hS B1.length 0 he rfl hb hd (fun H1 locs1 hP1 hD1 hS1 => ?_)
  rw [hset] at hP1 hD1
  exact kk p l e R s m args below meth c H1 locs1 D ad aC A ls C hP1 hD1 hS1 hl
/-- a leaf's address goes into a row of leaves -/
theorem zEK.aast {i n j t : Nat} {r : List (Option Nat)} {fs : List (Option (Option Nat))} {x : Int32} (B1 B2 B3 B4 : zBB) (hB : B = B1 ++ (i, .inr (5, n, r)) :: B2) (hB2 : B = B3 ++ (t, .inl (0, fs)) :: B4) (hb : ¬ oob x n) (hj : x.toNatClampNeg = j) (hjr : j < r.length) (hd : decode mi.2.1 pc = .ok (.aastore, 1)) (kk : zEK mi mc ms o (pc + 1) L st cs ss (B1 ++ (i, .inr (5, n, r.set j (some t))) :: B2) M) : zEK mi mc ms o pc L (.inr (.inr t) :: .inl x :: .inr (.inr i) :: st) cs ss B M := by
  intro p l e R s m args below meth c H locs D ad aC A ls C hP hD hS hl
  have hv : (zWB B ad aC M)[B3.length]? = some (zcc ad aC M (t, .inl (0, fs))) := by rw [hB2]; exact zWB_get B3 _ B4 ad aC M
  subst hB
  subst hj
  have he := zWB_get B1 (i, .inr (5, n, r)) B2 ad aC M
  have hset : (zWB (B1 ++ (i, .inr (5, n, r)) :: B2) ad aC M).set B1.length (ad i, .inl (aC 5, n, .inr (.inr (.inr (.inr (va_up (fun j => (r.getD j none).map ad) x.toNatClampNeg (some (ad t)))))))) = zWB (B1 ++ (i, .inr (5, n, r.set x.toNatClampNeg (some t))) :: B2) ad aC M := by
    refine zWB_set ?_ (fun y hy => rfl)
    simp only [zcc, zEg]
    congr 2
    simp only [show ¬ (5 = 3) by decide, show ¬ (5 < 3) by decide, if_false]
    congr 6
    funext k
    unfold va_up
    by_cases hk : k = x.toNatClampNeg
    · subst hk
      rw [if_pos rfl, List.getD_eq_getElem?_getD, List.getElem?_set_self hjr]
      rfl
    · rw [if_neg hk, List.getD_eq_getElem?_getD, List.getElem?_set_ne (Ne.symm hk)]
      show _ = Option.map ad (r.getD k none)
      rw [List.getD_eq_getElem?_getD]
  refine va_astq (r := (RX0, TX0, 13)) C.1 C.2.1 C.2.2.2.2.2.2.2.2.2.2.2.1 hP hD hS B1.length 5 B3.length 0 he rfl hv rfl hb hd (fun H1 locs1 hP1 hD1 hS1 => ?_)
  rw [hset] at hP1 hD1
  exact kk p l e R s m args below meth c H1 locs1 D ad aC A ls C hP1 hD1 hS1 hl
theorem zEK.gfr {ci : Nat} {C0 : String} {T : u_T} {N idx i t : Nat} {fs : List (Option (Option Nat))} (B1 B2 : zBB) (hB : B = B1 ++ (i, .inl (ci, fs)) :: B2) (hc : vwCl[ci]? = some (C0, T, N)) (hin : ∀ w ∈ u_ws C0 T N, w ∈ zWS) (k : Nat) (hk : k < N) (hw : Cond.fieldLink mi.1 idx (T k).1 (T k).2.1 (T k).2.2.1 ∈ zWS) (hf : fs[k]? = some (some (some t))) (hd : decode mi.2.1 pc = .ok (.getfield idx, 3)) (kk : zEK mi mc ms o (pc + 3) L (.inr (.inr t) :: st) cs ss B M) : zEK mi mc ms o pc L (.inr (.inr i) :: st) cs ss B M := by
  intro p l e R s m args below meth c H locs D ad aC A ls C hP hD hS hl
  subst hB
  have he := zWB_get B1 (i, .inl (ci, fs)) B2 ad aC M
  exact va_get (v := .ref (ad t)) C.1 C.2.1 C.2.2.2.2.2.2.1 hin C.2.2.2.2.1 C.2.2.2.2.2.2.2.2.2.2.2.1 hP B1.length he hc k hk (C.2.2.2.2.2.2.1 _ hw) (fun _ h => h) (by rw [List.getElem?_mapIdx, hf]; rfl) hd (kk p l e R s m args below meth c H locs D ad aC A ls C hP hD hS hl)
/-- what a birth asks: nothing points out, 0 is there, the new number is not -/
def zok (B : zBB) (L : List (Nat × zAV)) (st : List zAV) (new : List Nat) : Bool := zcls B && (zids B).contains 0 && L.all (fun q => zrin (zids B) q.2) && st.all (zrin (zids B)) && new.all (fun i => !(zids B).contains i)
theorem zEK.born {p : Program} {l : Launch} {e : Env} {R : Room} {s : State} {m : MethodId} {args : Array Value} {below : List Frame} {meth : Method} {c : Code} {H1 : Heap} {locs : List Loc} {D : va_G} {ad ad' : Nat → Nat} {aC : Nat → ClassId} {A : Nat → Prop} {ls : Array Slot} {B1 : zBB} {M1 : zMM} {new : List Nat} {g : List zAV} {c2 s2 pc2 : Nat} {ws' : va_W}
    (hok : zok B L st new = true) (ha : ∀ t, t ∉ new → ad' t = ad t) (hM : ∀ t, t ∉ new → M1.1 t = M.1 t ∧ M1.2 t = M.2 t) (hw : ws' = zWB B1 ad' aC M1) (C : zCK mi mc ms p R s m args meth c D aC A) (hP : va_P D vwCl (zWB B ad aC M ++ ws') H1) (hD : va_D A (zWB B ad aC M ++ ws')) (hS : va_S A s.heap H1 locs) (hl : lv_has ls mi.2.2.1 (L.map (zcl ad)))
    (kk : zEK mi mc ms o pc2 L (g ++ st) c2 s2 (B ++ B1) M1) : W p l e R s m args below meth c H1 locs c2 s2 (MQ below (zPK D ad aC A o) args s mc ms A) (F0 m pc2 ls (g.map (zcv ad') ++ st.map (zcv ad))) := by
  simp only [zok, Bool.and_eq_true, List.all_eq_true] at hok
  obtain ⟨⟨⟨⟨h1, h2⟩, h3⟩, h4⟩, h5⟩ := hok
  have hag : ∀ t ∈ zids B, t ∉ new := by
    intro t ht hn
    have := h5 t hn
    simp [List.contains_iff_mem, ht] at this
  have hB : zWB B ad' aC M1 = zWB B ad aC M := zWB_congr h1 (fun t ht => ha t (hag t ht)) (fun t ht => hM t (hag t ht))
  have hL : L.map (zcl ad') = L.map (zcl ad) := zL_congr (fun t ht => ha t (hag t ht)) (List.all_eq_true.mpr h3)
  have hst : st.map (zcv ad') = st.map (zcv ad) := zst_congr (fun t ht => ha t (hag t ht)) (List.all_eq_true.mpr h4)
  have h0 : ad' 0 = ad 0 := ha 0 (hag 0 (by simpa [List.contains_iff_mem] using h2))
  have hWB : zWB (B ++ B1) ad' aC M1 = zWB B ad aC M ++ ws' := by
    rw [hw, ← hB]
    unfold zWB
    rw [List.map_append]
  have k1 := kk p l e R s m args below meth c H1 locs D ad' aC A ls C (by rw [hWB]; exact hP) (by rw [hWB]; exact hD) hS (by rw [hL]; exact hl)
  rw [List.map_append, hst] at k1
  intro T hT X
  obtain ⟨t, a1, oc, b1, b2, ⟨c1, c3, ad2, c4, c5, c6⟩, b4⟩ := k1 T hT X
  exact ⟨t, a1, oc, b1, b2, ⟨c1, c3, ad2, c4.trans h0, c5, c6⟩, b4⟩
/-- the arrays' classes are one -/
theorem zaC {D : va_G} {aC : Nat → ClassId} {s : State} (hK : va_K D vwCl (zty aC) s) (k : Nat) {ty : FieldType} (hk : (zty aC)[k]? = some (aC k, ty)) {tys : List (ClassId × FieldType)} {cA : ClassId} (h : va_K D vwCl (tys ++ [(cA, ty)]) s) : cA = aC k := by
  have h1 := (hK.2 k _ hk).2
  have h2 := (h.2 tys.length (cA, ty) (by rw [List.getElem?_append_right (Nat.le_refl _), Nat.sub_self]; rfl)).2
  cases ty with
  | object C9 =>
    obtain ⟨-, -, -, -, -, e1⟩ := h1
    obtain ⟨-, -, -, -, -, e2⟩ := h2
    exact Option.some.inj (e2.symm.trans e1)
  | _ => exact Option.some.inj (h2.symm.trans h1)
def zup (ad : Nat → Nat) (i q : Nat) : Nat → Nat := fun t => if t = i then q else ad t
/-- new int[n] and its like -/
theorem zEK.newa {atype : ArrayType} {ty : FieldType} {i k N' : Nat} {n : Int32} (hty : newarray.typeOf atype = ty) (hk : ∀ aC, (zty aC)[k]? = some (aC k, ty)) (hkt : k = 0 ∨ k = 1 ∨ k = 2 ∨ k = 3) (hw : Cond.arrayClass ty ∈ zWS) (hok : zok B L st [i] = true) (hn : ¬ n < 0) (hN : n.toNatClampNeg = N') (hbytes : N' * componentBytes ty ≤ 536870912) (hcs : cs + 1 ≤ mc ∧ ss + N' ≤ ms) (hM0 : M.1 i = fun _ => 0) (hM1 : M.2 i = fun _ => 0) (hd : decode mi.2.1 pc = .ok (.newarray atype, 2))
    (kk : zEK mi mc ms o (pc + 2) L (.inr (.inr i) :: st) (cs + 1) (ss + N') (B ++ [(i, .inr (k, N', []))]) M) : zEK mi mc ms o pc L (.inl n :: st) cs ss B M := by
  intro p l e R s m args below meth c H locs D ad aC A ls C hP hD hS hl
  have hK := C.2.2.2.2.2.2.2.2.2.2.2.1
  have hcell : ∀ cA : ClassId, vp_cell cA (N', if k = 3 then .inr (.inl (M.2 i)) else if k < 3 then .inl (M.1 i) else .inr (.inr (.inr (.inr (fun j => (([] : List (Option Nat)).getD j none).map (zup ad i 0)))))) = arrV cA N' (fun _ => defaultValue ty) := by
    intro cA
    have hk2 := hk aC
    rw [hM0, hM1]
    rcases hkt with rfl | rfl | rfl | rfl
    · cases hk2; rfl
    · cases hk2; rfl
    · cases hk2; rfl
    · cases hk2; rfl
  refine va_newa (atype := atype) (ty := ty) C.1 C.2.1 (by rw [hty]; exact C.2.2.2.2.2.2.1 _ hw) hty hK hP hD hS C.2.2.2.2.2.2.2.2.2.2.2.2.2.1 hcell hn hN hbytes (Nat.le_trans hcs.1 C.2.2.2.2.2.2.2.2.2.1) (Nat.le_trans hcs.2 C.2.2.2.2.2.2.2.2.2.2.1) hd (fun q cA H1 hK1 hP1 hD1 hS1 => ?_)
  have hcA := zaC hK k (hk aC) hK1
  subst hcA
  refine zEK.born (g := [.inr (.inr i)]) (ad' := zup ad i q) (B1 := [(i, .inr (k, N', []))]) (M1 := M) hok (fun t ht => by simp at ht; simp [zup, ht]) (fun t _ => ⟨rfl, rfl⟩) ?_ C hP1 hD1 hS1 hl kk |> fun h => by
    simpa [zcv, zup] using h
  simp only [zWB, zcc, zEg, List.map_cons, List.map_nil, zup, if_true]
  rcases hkt with rfl | rfl | rfl | rfl <;> rfl
theorem zEK.vret (hr : mi.2.2.2.1 = none) (ho : o = (B, M)) (hc : cs ≤ mc) (hs : ss ≤ ms) (hd : decode mi.2.1 pc = .ok (.return_, 1)) : zEK mi mc ms o pc L [] cs ss B M := by
  intro p l e R s m args below meth c H locs D ad aC A ls C hP hD hS hl
  subst ho
  refine W.widen (k := mc) (n := ms) hc hs ?_
  exact W.vret C.1 C.2.1 (C.2.2.1.trans hr) (fun t ht hW => ⟨rfl, hS.F ht, ad, rfl, by rw [ht]; exact hP, hD⟩) hS.2.2 hd C.2.2.2.2.2.1
end ZK
