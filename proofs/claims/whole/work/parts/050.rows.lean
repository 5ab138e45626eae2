theorem zhl {L : List (Nat × zAV)} {ls : Array Slot} {n : Nat} {ad : Nat → Nat} (h : lv_has ls n (L.map (zcl ad))) (k : Nat) {i : Nat} {v : zAV} (hL : L[k]? = some (i, v)) : ls[i]? = some (.val (zcv ad v)) := h.2.2 (i, zcv ad v) (List.mem_map.mpr ⟨(i, v), List.mem_of_getElem? hL, rfl⟩)
theorem zfil (ad : Nat → Nat) (i : Nat) (L : List (Nat × zAV)) : (L.map (zcl ad)).filter (fun q => !(q.1 == i) && !(q.1 + 1 == i && q.2.category == 2)) = (L.filter (fun q => !(q.1 == i) && !(q.1 + 1 == i && zcat q.2 == 2))).map (zcl ad) := by
  rw [List.filter_map]
  congr 1
  apply List.filter_congr
  intro q _
  simp only [Function.comp, zcl, zcv_cat]
theorem zfil2 (ad : Nat → Nat) (i : Nat) (L : List (Nat × zAV)) : (L.map (zcl ad)).filter (fun q => !(q.1 == i) && (!(q.1 == i + 1) && !(q.1 + 1 == i && q.2.category == 2))) = (L.filter (fun q => !(q.1 == i) && (!(q.1 == i + 1) && !(q.1 + 1 == i && zcat q.2 == 2)))).map (zcl ad) := by
  rw [List.filter_map]
  congr 1
  apply List.filter_congr
  intro q _
  simp only [Function.comp, zcl, zcv_cat]
section ZR
variable {mi : zMI} {cs ss : Nat} {Z : zZ} {pc : Nat} {L : List (Nat × zAV)} {st : List zAV} {M : zMM}
/-- other locals, by their places -/
theorem zEV.perm {L2 : List (Nat × zAV)} (ps : List Nat) (h : ps.filterMap (fun k => L[k]?) = L2) (k : zEV mi cs ss Z pc L2 st M) : zEV mi cs ss Z pc L st M := by
  intro p l e R s m args below meth c H locs D ad aC A ls C hP hD hS hl
  refine k p l e R s m args below meth c H locs D ad aC A ls C hP hD hS ⟨hl.1, hl.2.1, fun q hq => ?_⟩
  obtain ⟨q0, h0, rfl⟩ := List.mem_map.mp hq
  subst h
  obtain ⟨i, -, hi⟩ := List.mem_filterMap.mp h0
  exact zhl hl i hi
theorem zEV.iadd {x y : Int32} (hd : decode mi.2.1 pc = .ok (.iadd, 1)) (k : zEV mi cs ss Z (pc + 1) L (.inl (x + y) :: st) M) : zEV mi cs ss Z pc L (.inl y :: .inl x :: st) M := by
  intro p l e R s m args below meth c H locs D ad aC A ls C hP hD hS hl
  exact lv_iadd C.1 C.2.1 hd (k p l e R s m args below meth c H locs D ad aC A ls C hP hD hS hl)
theorem zEV.isub {x y : Int32} (hd : decode mi.2.1 pc = .ok (.isub, 1)) (k : zEV mi cs ss Z (pc + 1) L (.inl (x - y) :: st) M) : zEV mi cs ss Z pc L (.inl y :: .inl x :: st) M := by
  intro p l e R s m args below meth c H locs D ad aC A ls C hP hD hS hl
  exact lv_isub C.1 C.2.1 hd (k p l e R s m args below meth c H locs D ad aC A ls C hP hD hS hl)
theorem zEV.imul {x y : Int32} (hd : decode mi.2.1 pc = .ok (.imul, 1)) (k : zEV mi cs ss Z (pc + 1) L (.inl (x * y) :: st) M) : zEV mi cs ss Z pc L (.inl y :: .inl x :: st) M := by
  intro p l e R s m args below meth c H locs D ad aC A ls C hP hD hS hl
  exact lv_imul C.1 C.2.1 hd (k p l e R s m args below meth c H locs D ad aC A ls C hP hD hS hl)
theorem zEV.iand {x y : Int32} (hd : decode mi.2.1 pc = .ok (.iand, 1)) (k : zEV mi cs ss Z (pc + 1) L (.inl (x &&& y) :: st) M) : zEV mi cs ss Z pc L (.inl y :: .inl x :: st) M := by
  intro p l e R s m args below meth c H locs D ad aC A ls C hP hD hS hl
  exact lv_iand C.1 C.2.1 hd (k p l e R s m args below meth c H locs D ad aC A ls C hP hD hS hl)
theorem zEV.ishr {x y : Int32} (hd : decode mi.2.1 pc = .ok (.ishr, 1)) (k : zEV mi cs ss Z (pc + 1) L (.inl (x >>> (y &&& 31)) :: st) M) : zEV mi cs ss Z pc L (.inl y :: .inl x :: st) M := by
  intro p l e R s m args below meth c H locs D ad aC A ls C hP hD hS hl
  exact lv_ishr C.1 C.2.1 hd (k p l e R s m args below meth c H locs D ad aC A ls C hP hD hS hl)
theorem zEV.idiv {x y : Int32} (hd : decode mi.2.1 pc = .ok (.idiv, 1)) (hne : ¬ y = 0) (k : zEV mi cs ss Z (pc + 1) L (.inl (x / y) :: st) M) : zEV mi cs ss Z pc L (.inl y :: .inl x :: st) M := by
  intro p l e R s m args below meth c H locs D ad aC A ls C hP hD hS hl
  exact lv_idiv C.1 C.2.1 hd hne (k p l e R s m args below meth c H locs D ad aC A ls C hP hD hS hl)
theorem zEV.irem {x y : Int32} (hd : decode mi.2.1 pc = .ok (.irem, 1)) (hne : ¬ y = 0) (k : zEV mi cs ss Z (pc + 1) L (.inl (x - x / y * y) :: st) M) : zEV mi cs ss Z pc L (.inl y :: .inl x :: st) M := by
  intro p l e R s m args below meth c H locs D ad aC A ls C hP hD hS hl
  exact lv_irem C.1 C.2.1 hd hne (k p l e R s m args below meth c H locs D ad aC A ls C hP hD hS hl)
theorem zEV.iushr {x y : Int32} (hd : decode mi.2.1 pc = .ok (.iushr, 1)) (k : zEV mi cs ss Z (pc + 1) L (.inl ((x.toUInt32 >>> (y.toUInt32 &&& Int32.toUInt32 31)).toInt32) :: st) M) : zEV mi cs ss Z pc L (.inl y :: .inl x :: st) M := by
  intro p l e R s m args below meth c H locs D ad aC A ls C hP hD hS hl
  exact lv_iushr C.1 C.2.1 hd rfl (k p l e R s m args below meth c H locs D ad aC A ls C hP hD hS hl)
theorem zEV.i2l {x : Int32} (hd : decode mi.2.1 pc = .ok (.i2l, 1)) (k : zEV mi cs ss Z (pc + 1) L (.inr (.inl x.toInt64) :: st) M) : zEV mi cs ss Z pc L (.inl x :: st) M := by
  intro p l e R s m args below meth c H locs D ad aC A ls C hP hD hS hl
  exact lv_i2l C.1 C.2.1 hd rfl (k p l e R s m args below meth c H locs D ad aC A ls C hP hD hS hl)
theorem zEV.i2b {x : Int32} (hd : decode mi.2.1 pc = .ok (.i2b, 1)) (k : zEV mi cs ss Z (pc + 1) L (.inl x.toInt8.toInt32 :: st) M) : zEV mi cs ss Z pc L (.inl x :: st) M := by
  intro p l e R s m args below meth c H locs D ad aC A ls C hP hD hS hl
  exact lv_i2b C.1 C.2.1 hd rfl (k p l e R s m args below meth c H locs D ad aC A ls C hP hD hS hl)
theorem zEV.i2s {x : Int32} (hd : decode mi.2.1 pc = .ok (.i2s, 1)) (k : zEV mi cs ss Z (pc + 1) L (.inl x.toInt16.toInt32 :: st) M) : zEV mi cs ss Z pc L (.inl x :: st) M := by
  intro p l e R s m args below meth c H locs D ad aC A ls C hP hD hS hl
  exact lv_i2s C.1 C.2.1 hd rfl (k p l e R s m args below meth c H locs D ad aC A ls C hP hD hS hl)
theorem zEV.i2c {x : Int32} (hd : decode mi.2.1 pc = .ok (.i2c, 1)) (k : zEV mi cs ss Z (pc + 1) L (.inl (x.toUInt32 % 65536).toInt32 :: st) M) : zEV mi cs ss Z pc L (.inl x :: st) M := by
  intro p l e R s m args below meth c H locs D ad aC A ls C hP hD hS hl
  exact lv_i2c C.1 C.2.1 hd rfl (k p l e R s m args below meth c H locs D ad aC A ls C hP hD hS hl)
theorem zEV.ladd {x y : Int64} (hd : decode mi.2.1 pc = .ok (.ladd, 1)) (k : zEV mi cs ss Z (pc + 1) L (.inr (.inl (x + y)) :: st) M) : zEV mi cs ss Z pc L (.inr (.inl y) :: .inr (.inl x) :: st) M := by
  intro p l e R s m args below meth c H locs D ad aC A ls C hP hD hS hl
  exact lv_ladd C.1 C.2.1 hd (k p l e R s m args below meth c H locs D ad aC A ls C hP hD hS hl)
theorem zEV.lcmp {x y : Int64} (hd : decode mi.2.1 pc = .ok (.lcmp, 1)) (k : zEV mi cs ss Z (pc + 1) L (.inl (lg_cmp x y) :: st) M) : zEV mi cs ss Z pc L (.inr (.inl y) :: .inr (.inl x) :: st) M := by
  intro p l e R s m args below meth c H locs D ad aC A ls C hP hD hS hl
  exact W.lcmp C.1 C.2.1 hd (k p l e R s m args below meth c H locs D ad aC A ls C hP hD hS hl)
theorem zEV.iconst {n : Int} {v : Int32} (hd : decode mi.2.1 pc = .ok (.iconst n, 1)) (hv : Int32.ofInt n = v) (k : zEV mi cs ss Z (pc + 1) L (.inl v :: st) M) : zEV mi cs ss Z pc L (st) M := by
  intro p l e R s m args below meth c H locs D ad aC A ls C hP hD hS hl
  exact lv_iconst C.1 C.2.1 hd hv (k p l e R s m args below meth c H locs D ad aC A ls C hP hD hS hl)
theorem zEV.bipush {n : Int} {v : Int32} (hd : decode mi.2.1 pc = .ok (.bipush n, 2)) (hv : (Int8.ofInt n).toInt32 = v) (k : zEV mi cs ss Z (pc + 2) L (.inl v :: st) M) : zEV mi cs ss Z pc L (st) M := by
  intro p l e R s m args below meth c H locs D ad aC A ls C hP hD hS hl
  exact lv_bipush C.1 C.2.1 hd hv (k p l e R s m args below meth c H locs D ad aC A ls C hP hD hS hl)
theorem zEV.sipush {n : Int} {v : Int32} (hd : decode mi.2.1 pc = .ok (.sipush n, 3)) (hv : (Int16.ofInt n).toInt32 = v) (k : zEV mi cs ss Z (pc + 3) L (.inl v :: st) M) : zEV mi cs ss Z pc L (st) M := by
  intro p l e R s m args below meth c H locs D ad aC A ls C hP hD hS hl
  exact lv_sipush C.1 C.2.1 hd hv (k p l e R s m args below meth c H locs D ad aC A ls C hP hD hS hl)
theorem zEV.lconst {n : Fin 2} {v : Int64} (hd : decode mi.2.1 pc = .ok (.lconst n, 1)) (hv : Int64.ofNat (n : Nat) = v) (k : zEV mi cs ss Z (pc + 1) L (.inr (.inl v) :: st) M) : zEV mi cs ss Z pc L (st) M := by
  intro p l e R s m args below meth c H locs D ad aC A ls C hP hD hS hl
  exact lv_lconst C.1 C.2.1 hd hv (k p l e R s m args below meth c H locs D ad aC A ls C hP hD hS hl)
theorem zEV.iload {i : Nat} {x : Int32} (hd : decode mi.2.1 pc = .ok (.iload i, 2)) (q : Nat) (hq : L[q]? = some (i, .inl x)) (k : zEV mi cs ss Z (pc + 2) L (.inl x :: st) M) : zEV mi cs ss Z pc L (st) M := by
  intro p l e R s m args below meth c H locs D ad aC A ls C hP hD hS hl
  exact lv_iload C.1 C.2.1 hd (zhl hl q hq) (k p l e R s m args below meth c H locs D ad aC A ls C hP hD hS hl)
theorem zEV.iload_n {i : Fin 4} {j : Nat} {x : Int32} (hd : decode mi.2.1 pc = .ok (.iload_n i, 1)) (hi : (i : Nat) = j) (q : Nat) (hq : L[q]? = some (j, .inl x)) (k : zEV mi cs ss Z (pc + 1) L (.inl x :: st) M) : zEV mi cs ss Z pc L (st) M := by
  intro p l e R s m args below meth c H locs D ad aC A ls C hP hD hS hl
  exact lv_iload_n C.1 C.2.1 hd hi (zhl hl q hq) (k p l e R s m args below meth c H locs D ad aC A ls C hP hD hS hl)
theorem zEV.aload {i : Nat} {x : Nat} (hd : decode mi.2.1 pc = .ok (.aload i, 2)) (q : Nat) (hq : L[q]? = some (i, .inr (.inr x))) (k : zEV mi cs ss Z (pc + 2) L (.inr (.inr x) :: st) M) : zEV mi cs ss Z pc L (st) M := by
  intro p l e R s m args below meth c H locs D ad aC A ls C hP hD hS hl
  exact lv_aload C.1 C.2.1 hd (zhl hl q hq) (k p l e R s m args below meth c H locs D ad aC A ls C hP hD hS hl)
theorem zEV.aload_n {i : Fin 4} {j : Nat} {x : Nat} (hd : decode mi.2.1 pc = .ok (.aload_n i, 1)) (hi : (i : Nat) = j) (q : Nat) (hq : L[q]? = some (j, .inr (.inr x))) (k : zEV mi cs ss Z (pc + 1) L (.inr (.inr x) :: st) M) : zEV mi cs ss Z pc L (st) M := by
  intro p l e R s m args below meth c H locs D ad aC A ls C hP hD hS hl
  exact lv_aload_n C.1 C.2.1 hd hi (zhl hl q hq) (k p l e R s m args below meth c H locs D ad aC A ls C hP hD hS hl)
theorem zEV.lload {i : Nat} {x : Int64} (hd : decode mi.2.1 pc = .ok (.lload i, 2)) (q : Nat) (hq : L[q]? = some (i, .inr (.inl x))) (k : zEV mi cs ss Z (pc + 2) L (.inr (.inl x) :: st) M) : zEV mi cs ss Z pc L (st) M := by
  intro p l e R s m args below meth c H locs D ad aC A ls C hP hD hS hl
  exact lv_lload C.1 C.2.1 hd (zhl hl q hq) (k p l e R s m args below meth c H locs D ad aC A ls C hP hD hS hl)
theorem zEV.lload_n {i : Fin 4} {j : Nat} {x : Int64} (hd : decode mi.2.1 pc = .ok (.lload_n i, 1)) (hi : (i : Nat) = j) (q : Nat) (hq : L[q]? = some (j, .inr (.inl x))) (k : zEV mi cs ss Z (pc + 1) L (.inr (.inl x) :: st) M) : zEV mi cs ss Z pc L (st) M := by
  intro p l e R s m args below meth c H locs D ad aC A ls C hP hD hS hl
  exact lv_lload_n C.1 C.2.1 hd hi (zhl hl q hq) (k p l e R s m args below meth c H locs D ad aC A ls C hP hD hS hl)
theorem zEV.dup {a : zAV} (hd : decode mi.2.1 pc = .ok (.dup, 1)) (ha : zcat a = 1) (k : zEV mi cs ss Z (pc + 1) L (a :: a :: st) M) : zEV mi cs ss Z pc L (a :: st) M := by
  intro p l e R s m args below meth c H locs D ad aC A ls C hP hD hS hl
  exact lv_dup C.1 C.2.1 hd ((zcv_cat _ _).trans ha) (k p l e R s m args below meth c H locs D ad aC A ls C hP hD hS hl)
theorem zEV.pop {a : zAV} (hd : decode mi.2.1 pc = .ok (.pop, 1)) (ha : zcat a = 1) (k : zEV mi cs ss Z (pc + 1) L (st) M) : zEV mi cs ss Z pc L (a :: st) M := by
  intro p l e R s m args below meth c H locs D ad aC A ls C hP hD hS hl
  exact lv_pop C.1 C.2.1 hd ((zcv_cat _ _).trans ha) (k p l e R s m args below meth c H locs D ad aC A ls C hP hD hS hl)
theorem zEV.dup2 {a b : zAV} (hd : decode mi.2.1 pc = .ok (.dup2, 1)) (ha : zcat a = 1) (hb : zcat b = 1) (k : zEV mi cs ss Z (pc + 1) L (a :: b :: a :: b :: st) M) : zEV mi cs ss Z pc L (a :: b :: st) M := by
  intro p l e R s m args below meth c H locs D ad aC A ls C hP hD hS hl
  exact lv_dup2_11 C.1 C.2.1 hd ((zcv_cat _ _).trans ha) ((zcv_cat _ _).trans hb) (k p l e R s m args below meth c H locs D ad aC A ls C hP hD hS hl)
theorem zEV.dup_x1 {a b : zAV} (hd : decode mi.2.1 pc = .ok (.dup_x1, 1)) (ha : zcat a = 1) (hb : zcat b = 1) (k : zEV mi cs ss Z (pc + 1) L (a :: b :: a :: st) M) : zEV mi cs ss Z pc L (a :: b :: st) M := by
  intro p l e R s m args below meth c H locs D ad aC A ls C hP hD hS hl
  exact lv_dup_x1 C.1 C.2.1 hd ((zcv_cat _ _).trans ha) ((zcv_cat _ _).trans hb) (k p l e R s m args below meth c H locs D ad aC A ls C hP hD hS hl)
theorem zEV.ldc {idx : Nat} {v : Int32} (hd : decode mi.2.1 pc = .ok (.ldc idx, 2)) (hw : Cond.constant mi.1 idx v ∈ zWS) (k : zEV mi cs ss Z (pc + 2) L (.inl v :: st) M) : zEV mi cs ss Z pc L (st) M := by
  intro p l e R s m args below meth c H locs D ad aC A ls C hP hD hS hl
  exact lv_ldc C.1 C.2.1 C.2.2.2.2.1 (C.2.2.2.2.2.2.1 _ hw) hd (k p l e R s m args below meth c H locs D ad aC A ls C hP hD hS hl)
theorem zEV.istore {i : Nat} {x : Int32} {L' : List (Nat × zAV)} (hd : decode mi.2.1 pc = .ok (.istore i, 2)) (hn : i < mi.2.2.1) (hL : (i, .inl x) :: L.filter (fun q => !(q.1 == i) && !(q.1 + 1 == i && zcat q.2 == 2)) = L') (k : zEV mi cs ss Z (pc + 2) L' st M) : zEV mi cs ss Z pc L (.inl x :: st) M := by
  intro p l e R s m args below meth c H locs D ad aC A ls C hP hD hS hl
  subst hL
  exact lv_istore (lv' := ((i, (.inl x : zAV)) :: L.filter (fun q => !(q.1 == i) && !(q.1 + 1 == i && zcat q.2 == 2))).map (zcl ad)) C.1 C.2.1 hd hl hn (by rw [zfil]; rfl) (fun ls' hl' => k p l e R s m args below meth c H locs D ad aC A ls' C hP hD hS hl')
theorem zEV.istore_n {i : Nat} {x : Int32} {kk : Fin 4} {L' : List (Nat × zAV)} (hd : decode mi.2.1 pc = .ok (.istore_n kk, 1)) (hi : (kk : Nat) = i) (hn : i < mi.2.2.1) (hL : (i, .inl x) :: L.filter (fun q => !(q.1 == i) && !(q.1 + 1 == i && zcat q.2 == 2)) = L') (k : zEV mi cs ss Z (pc + 1) L' st M) : zEV mi cs ss Z pc L (.inl x :: st) M := by
  intro p l e R s m args below meth c H locs D ad aC A ls C hP hD hS hl
  subst hL
  exact lv_istore_n (lv' := ((i, (.inl x : zAV)) :: L.filter (fun q => !(q.1 == i) && !(q.1 + 1 == i && zcat q.2 == 2))).map (zcl ad)) C.1 C.2.1 hd hi hl hn (by rw [zfil]; rfl) (fun ls' hl' => k p l e R s m args below meth c H locs D ad aC A ls' C hP hD hS hl')
theorem zEV.astore {i : Nat} {x : Nat} {L' : List (Nat × zAV)} (hd : decode mi.2.1 pc = .ok (.astore i, 2)) (hn : i < mi.2.2.1) (hL : (i, .inr (.inr x)) :: L.filter (fun q => !(q.1 == i) && !(q.1 + 1 == i && zcat q.2 == 2)) = L') (k : zEV mi cs ss Z (pc + 2) L' st M) : zEV mi cs ss Z pc L (.inr (.inr x) :: st) M := by
  intro p l e R s m args below meth c H locs D ad aC A ls C hP hD hS hl
  subst hL
  exact lv_astore (lv' := ((i, (.inr (.inr x) : zAV)) :: L.filter (fun q => !(q.1 == i) && !(q.1 + 1 == i && zcat q.2 == 2))).map (zcl ad)) C.1 C.2.1 hd hl hn (by rw [zfil]; rfl) (fun ls' hl' => k p l e R s m args below meth c H locs D ad aC A ls' C hP hD hS hl')
theorem zEV.astore_n {i : Nat} {x : Nat} {kk : Fin 4} {L' : List (Nat × zAV)} (hd : decode mi.2.1 pc = .ok (.astore_n kk, 1)) (hi : (kk : Nat) = i) (hn : i < mi.2.2.1) (hL : (i, .inr (.inr x)) :: L.filter (fun q => !(q.1 == i) && !(q.1 + 1 == i && zcat q.2 == 2)) = L') (k : zEV mi cs ss Z (pc + 1) L' st M) : zEV mi cs ss Z pc L (.inr (.inr x) :: st) M := by
  intro p l e R s m args below meth c H locs D ad aC A ls C hP hD hS hl
  subst hL
  exact lv_astore_n (lv' := ((i, (.inr (.inr x) : zAV)) :: L.filter (fun q => !(q.1 == i) && !(q.1 + 1 == i && zcat q.2 == 2))).map (zcl ad)) C.1 C.2.1 hd hi hl hn (by rw [zfil]; rfl) (fun ls' hl' => k p l e R s m args below meth c H locs D ad aC A ls' C hP hD hS hl')
theorem zEV.lstore {i : Nat} {x : Int64} {L' : List (Nat × zAV)} (hd : decode mi.2.1 pc = .ok (.lstore i, 2)) (hn : i + 1 < mi.2.2.1) (hL : (i, .inr (.inl x)) :: L.filter (fun q => !(q.1 == i) && (!(q.1 == i + 1) && !(q.1 + 1 == i && zcat q.2 == 2))) = L') (k : zEV mi cs ss Z (pc + 2) L' st M) : zEV mi cs ss Z pc L (.inr (.inl x) :: st) M := by
  intro p l e R s m args below meth c H locs D ad aC A ls C hP hD hS hl
  subst hL
  exact lv_lstore (lv' := ((i, (.inr (.inl x) : zAV)) :: L.filter (fun q => !(q.1 == i) && (!(q.1 == i + 1) && !(q.1 + 1 == i && zcat q.2 == 2)))).map (zcl ad)) C.1 C.2.1 hd hl hn (by rw [zfil2]; rfl) (fun ls' hl' => k p l e R s m args below meth c H locs D ad aC A ls' C hP hD hS hl')
theorem zEV.iinc {i : Nat} {n : Int} {x v : Int32} {L' : List (Nat × zAV)} (hd : decode mi.2.1 pc = .ok (.iinc i n, 3)) (q : Nat) (hq : L[q]? = some (i, .inl x)) (hv : x + Int32.ofInt n = v) (hn : i < mi.2.2.1) (hL : (i, .inl v) :: L.filter (fun q => !(q.1 == i) && !(q.1 + 1 == i && zcat q.2 == 2)) = L') (k : zEV mi cs ss Z (pc + 3) L' st M) : zEV mi cs ss Z pc L st M := by
  intro p l e R s m args below meth c H locs D ad aC A ls C hP hD hS hl
  subst hL
  exact lv_iinc (v := v) (k := q) (lv' := ((i, (.inl v : zAV)) :: L.filter (fun q => !(q.1 == i) && !(q.1 + 1 == i && zcat q.2 == 2))).map (zcl ad)) C.1 C.2.1 hd hl (by rw [List.getElem?_map, hq]; rfl) hv hn (by rw [zfil]; rfl) (fun ls' hl' => k p l e R s m args below meth c H locs D ad aC A ls' C hP hD hS hl')
theorem zEV.icmp_eq {x y : Int32} {off : Int} (tgt : Nat) (hd : decode mi.2.1 pc = .ok (.if_icmp .eq off, 3)) (ht : (pc : Int) + off = (tgt : Int)) (kt : x = y → zEV mi cs ss Z tgt L st M) (kf : ¬ x = y → zEV mi cs ss Z (pc + 3) L st M) : zEV mi cs ss Z pc L (.inl y :: .inl x :: st) M := by
  intro p l e R s m args below meth c H locs D ad aC A ls C hP hD hS hl
  exact lv_icmp_eq C.1 C.2.1 hd ht (fun h => kt h p l e R s m args below meth c H locs D ad aC A ls C hP hD hS hl) (fun h => kf h p l e R s m args below meth c H locs D ad aC A ls C hP hD hS hl)
theorem zEV.if_eq {x : Int32} {off : Int} (tgt : Nat) (hd : decode mi.2.1 pc = .ok (.ifCond .eq off, 3)) (ht : (pc : Int) + off = (tgt : Int)) (kt : x = 0 → zEV mi cs ss Z tgt L st M) (kf : ¬ x = 0 → zEV mi cs ss Z (pc + 3) L st M) : zEV mi cs ss Z pc L (.inl x :: st) M := by
  intro p l e R s m args below meth c H locs D ad aC A ls C hP hD hS hl
  exact lv_if_eq C.1 C.2.1 hd ht (fun h => kt h p l e R s m args below meth c H locs D ad aC A ls C hP hD hS hl) (fun h => kf h p l e R s m args below meth c H locs D ad aC A ls C hP hD hS hl)
theorem zEV.icmp_ne {x y : Int32} {off : Int} (tgt : Nat) (hd : decode mi.2.1 pc = .ok (.if_icmp .ne off, 3)) (ht : (pc : Int) + off = (tgt : Int)) (kt : ¬ x = y → zEV mi cs ss Z tgt L st M) (kf : x = y → zEV mi cs ss Z (pc + 3) L st M) : zEV mi cs ss Z pc L (.inl y :: .inl x :: st) M := by
  intro p l e R s m args below meth c H locs D ad aC A ls C hP hD hS hl
  exact lv_icmp_ne C.1 C.2.1 hd ht (fun h => kt h p l e R s m args below meth c H locs D ad aC A ls C hP hD hS hl) (fun h => kf h p l e R s m args below meth c H locs D ad aC A ls C hP hD hS hl)
theorem zEV.if_ne {x : Int32} {off : Int} (tgt : Nat) (hd : decode mi.2.1 pc = .ok (.ifCond .ne off, 3)) (ht : (pc : Int) + off = (tgt : Int)) (kt : ¬ x = 0 → zEV mi cs ss Z tgt L st M) (kf : x = 0 → zEV mi cs ss Z (pc + 3) L st M) : zEV mi cs ss Z pc L (.inl x :: st) M := by
  intro p l e R s m args below meth c H locs D ad aC A ls C hP hD hS hl
  exact lv_if_ne C.1 C.2.1 hd ht (fun h => kt h p l e R s m args below meth c H locs D ad aC A ls C hP hD hS hl) (fun h => kf h p l e R s m args below meth c H locs D ad aC A ls C hP hD hS hl)
theorem zEV.icmp_lt {x y : Int32} {off : Int} (tgt : Nat) (hd : decode mi.2.1 pc = .ok (.if_icmp .lt off, 3)) (ht : (pc : Int) + off = (tgt : Int)) (kt : x < y → zEV mi cs ss Z tgt L st M) (kf : ¬ x < y → zEV mi cs ss Z (pc + 3) L st M) : zEV mi cs ss Z pc L (.inl y :: .inl x :: st) M := by
  intro p l e R s m args below meth c H locs D ad aC A ls C hP hD hS hl
  exact lv_icmp_lt C.1 C.2.1 hd ht (fun h => kt h p l e R s m args below meth c H locs D ad aC A ls C hP hD hS hl) (fun h => kf h p l e R s m args below meth c H locs D ad aC A ls C hP hD hS hl)
theorem zEV.if_lt {x : Int32} {off : Int} (tgt : Nat) (hd : decode mi.2.1 pc = .ok (.ifCond .lt off, 3)) (ht : (pc : Int) + off = (tgt : Int)) (kt : x < 0 → zEV mi cs ss Z tgt L st M) (kf : ¬ x < 0 → zEV mi cs ss Z (pc + 3) L st M) : zEV mi cs ss Z pc L (.inl x :: st) M := by
  intro p l e R s m args below meth c H locs D ad aC A ls C hP hD hS hl
  exact lv_if_lt C.1 C.2.1 hd ht (fun h => kt h p l e R s m args below meth c H locs D ad aC A ls C hP hD hS hl) (fun h => kf h p l e R s m args below meth c H locs D ad aC A ls C hP hD hS hl)
theorem zEV.icmp_ge {x y : Int32} {off : Int} (tgt : Nat) (hd : decode mi.2.1 pc = .ok (.if_icmp .ge off, 3)) (ht : (pc : Int) + off = (tgt : Int)) (kt : y ≤ x → zEV mi cs ss Z tgt L st M) (kf : ¬ y ≤ x → zEV mi cs ss Z (pc + 3) L st M) : zEV mi cs ss Z pc L (.inl y :: .inl x :: st) M := by
  intro p l e R s m args below meth c H locs D ad aC A ls C hP hD hS hl
  exact lv_icmp_ge C.1 C.2.1 hd ht (fun h => kt h p l e R s m args below meth c H locs D ad aC A ls C hP hD hS hl) (fun h => kf h p l e R s m args below meth c H locs D ad aC A ls C hP hD hS hl)
theorem zEV.if_ge {x : Int32} {off : Int} (tgt : Nat) (hd : decode mi.2.1 pc = .ok (.ifCond .ge off, 3)) (ht : (pc : Int) + off = (tgt : Int)) (kt : 0 ≤ x → zEV mi cs ss Z tgt L st M) (kf : ¬ 0 ≤ x → zEV mi cs ss Z (pc + 3) L st M) : zEV mi cs ss Z pc L (.inl x :: st) M := by
  intro p l e R s m args below meth c H locs D ad aC A ls C hP hD hS hl
  exact lv_if_ge C.1 C.2.1 hd ht (fun h => kt h p l e R s m args below meth c H locs D ad aC A ls C hP hD hS hl) (fun h => kf h p l e R s m args below meth c H locs D ad aC A ls C hP hD hS hl)
theorem zEV.icmp_gt {x y : Int32} {off : Int} (tgt : Nat) (hd : decode mi.2.1 pc = .ok (.if_icmp .gt off, 3)) (ht : (pc : Int) + off = (tgt : Int)) (kt : y < x → zEV mi cs ss Z tgt L st M) (kf : ¬ y < x → zEV mi cs ss Z (pc + 3) L st M) : zEV mi cs ss Z pc L (.inl y :: .inl x :: st) M := by
  intro p l e R s m args below meth c H locs D ad aC A ls C hP hD hS hl
  exact lv_icmp_gt C.1 C.2.1 hd ht (fun h => kt h p l e R s m args below meth c H locs D ad aC A ls C hP hD hS hl) (fun h => kf h p l e R s m args below meth c H locs D ad aC A ls C hP hD hS hl)
theorem zEV.if_gt {x : Int32} {off : Int} (tgt : Nat) (hd : decode mi.2.1 pc = .ok (.ifCond .gt off, 3)) (ht : (pc : Int) + off = (tgt : Int)) (kt : 0 < x → zEV mi cs ss Z tgt L st M) (kf : ¬ 0 < x → zEV mi cs ss Z (pc + 3) L st M) : zEV mi cs ss Z pc L (.inl x :: st) M := by
  intro p l e R s m args below meth c H locs D ad aC A ls C hP hD hS hl
  exact lv_if_gt C.1 C.2.1 hd ht (fun h => kt h p l e R s m args below meth c H locs D ad aC A ls C hP hD hS hl) (fun h => kf h p l e R s m args below meth c H locs D ad aC A ls C hP hD hS hl)
theorem zEV.icmp_le {x y : Int32} {off : Int} (tgt : Nat) (hd : decode mi.2.1 pc = .ok (.if_icmp .le off, 3)) (ht : (pc : Int) + off = (tgt : Int)) (kt : x ≤ y → zEV mi cs ss Z tgt L st M) (kf : ¬ x ≤ y → zEV mi cs ss Z (pc + 3) L st M) : zEV mi cs ss Z pc L (.inl y :: .inl x :: st) M := by
  intro p l e R s m args below meth c H locs D ad aC A ls C hP hD hS hl
  exact lv_icmp_le C.1 C.2.1 hd ht (fun h => kt h p l e R s m args below meth c H locs D ad aC A ls C hP hD hS hl) (fun h => kf h p l e R s m args below meth c H locs D ad aC A ls C hP hD hS hl)
theorem zEV.if_le {x : Int32} {off : Int} (tgt : Nat) (hd : decode mi.2.1 pc = .ok (.ifCond .le off, 3)) (ht : (pc : Int) + off = (tgt : Int)) (kt : x ≤ 0 → zEV mi cs ss Z tgt L st M) (kf : ¬ x ≤ 0 → zEV mi cs ss Z (pc + 3) L st M) : zEV mi cs ss Z pc L (.inl x :: st) M := by
  intro p l e R s m args below meth c H locs D ad aC A ls C hP hD hS hl
  exact lv_if_le C.1 C.2.1 hd ht (fun h => kt h p l e R s m args below meth c H locs D ad aC A ls C hP hD hS hl) (fun h => kf h p l e R s m args below meth c H locs D ad aC A ls C hP hD hS hl)
theorem zEV.goto {off : Int} (tgt : Nat) (hd : decode mi.2.1 pc = .ok (.goto off, 3)) (ht : (pc : Int) + off = (tgt : Int)) (k : zEV mi cs ss Z tgt L st M) : zEV mi cs ss Z pc L st M := by
  intro p l e R s m args below meth c H locs D ad aC A ls C hP hD hS hl
  exact lv_goto C.1 C.2.1 hd ht (k p l e R s m args below meth c H locs D ad aC A ls C hP hD hS hl)
theorem zEV.tabIn {dflt lo hi : Int} {offs : Array Int} {len : Nat} {x : Int32} {off : Int} (tgt : Nat) (hd : decode mi.2.1 pc = .ok (.tableswitch dflt lo hi offs, len)) (v : Int32) (hx : x = v) (h1 : ¬ v.toInt < lo) (h2 : ¬ hi < v.toInt) (ho : offs[(v.toInt - lo).toNat]? = some off) (ht : (pc : Int) + off = (tgt : Int)) (k : zEV mi cs ss Z tgt L st M) : zEV mi cs ss Z pc L (.inl x :: st) M := by
  intro p l e R s m args below meth c H locs D ad aC A ls C hP hD hS hl
  subst hx
  exact lv_tableIn C.1 C.2.1 hd h1 h2 ho ht (k p l e R s m args below meth c H locs D ad aC A ls C hP hD hS hl)
theorem ztab_out {x : Int32} {lo hi : Int} (n : Nat) (hlo : -2147483648 ≤ lo) (hhi : hi < 2147483648) (hn : hi = lo + n) (h : ∀ k : Nat, k ≤ n → ¬ x = Int32.ofInt (lo + k)) : x.toInt < lo ∨ hi < x.toInt := by
  by_cases h1 : x.toInt < lo
  · exact Or.inl h1
  · by_cases h2 : hi < x.toInt
    · exact Or.inr h2
    · exfalso
      have hk : (x.toInt - lo).toNat ≤ n := by omega
      refine h _ hk ?_
      rw [show lo + ((x.toInt - lo).toNat : Int) = x.toInt by omega, Int32.ofInt_toInt]
theorem zEV.tabOut {dflt lo hi : Int} {offs : Array Int} {len : Nat} {x : Int32} (tgt : Nat) (n : Nat) (hd : decode mi.2.1 pc = .ok (.tableswitch dflt lo hi offs, len)) (hlo : -2147483648 ≤ lo) (hhi : hi < 2147483648) (hn : hi = lo + n) (h : ∀ k : Nat, k ≤ n → ¬ x = Int32.ofInt (lo + k)) (ht : (pc : Int) + dflt = (tgt : Int)) (k : zEV mi cs ss Z tgt L st M) : zEV mi cs ss Z pc L (.inl x :: st) M := by
  intro p l e R s m args below meth c H locs D ad aC A ls C hP hD hS hl
  exact lv_tableOut C.1 C.2.1 hd (ztab_out n hlo hhi hn h) ht (k p l e R s m args below meth c H locs D ad aC A ls C hP hD hS hl)
/-- a field is read: an int -/
theorem zEV.gfi {ci : Nat} {C0 : String} {T : u_T} {N idx i : Nat} {fs : List (Option Nat)} (hc : vwCl[ci]? = some (C0, T, N)) (hin : ∀ w ∈ u_ws C0 T N, w ∈ zWS) (k : Nat) (hk : k < N) (hw : Cond.fieldLink mi.1 idx (T k).1 (T k).2.1 (T k).2.2.1 ∈ zWS) (hi : i < 175) (hs : zshp i = .inl (ci, fs)) (hf : fs[k]? = some none) (hd : decode mi.2.1 pc = .ok (.getfield idx, 3)) (kk : zEV mi cs ss Z (pc + 3) L (.inl (M.1 i k) :: st) M) : zEV mi cs ss Z pc L (.inr (.inr i) :: st) M := by
  intro p l e R s m args below meth c H locs D ad aC A ls C hP hD hS hl
  have he := zW_get ad aC M hi
  rw [hs] at he
  exact va_get C.1 C.2.1 C.2.2.2.2.2.2.1 hin C.2.2.2.2.1 C.2.2.2.2.2.2.2.2.2.2.2.1 hP i he hc k hk (C.2.2.2.2.2.2.1 _ hw) (fun _ h => h) (zfld_get hf) hd (kk p l e R s m args below meth c H locs D ad aC A ls C hP hD hS hl)
/-- a field is read: a cell -/
theorem zEV.gfr {ci : Nat} {C0 : String} {T : u_T} {N idx i t : Nat} {fs : List (Option Nat)} (hc : vwCl[ci]? = some (C0, T, N)) (hin : ∀ w ∈ u_ws C0 T N, w ∈ zWS) (k : Nat) (hk : k < N) (hw : Cond.fieldLink mi.1 idx (T k).1 (T k).2.1 (T k).2.2.1 ∈ zWS) (hi : i < 175) (hs : zshp i = .inl (ci, fs)) (hf : fs[k]? = some (some t)) (hd : decode mi.2.1 pc = .ok (.getfield idx, 3)) (kk : zEV mi cs ss Z (pc + 3) L (.inr (.inr t) :: st) M) : zEV mi cs ss Z pc L (.inr (.inr i) :: st) M := by
  intro p l e R s m args below meth c H locs D ad aC A ls C hP hD hS hl
  have he := zW_get ad aC M hi
  rw [hs] at he
  exact va_get C.1 C.2.1 C.2.2.2.2.2.2.1 hin C.2.2.2.2.1 C.2.2.2.2.2.2.2.2.2.2.2.1 hP i he hc k hk (C.2.2.2.2.2.2.1 _ hw) (fun _ h => h) (zfld_get hf) hd (kk p l e R s m args below meth c H locs D ad aC A ls C hP hD hS hl)
/-- a field is written: an int -/
theorem zEV.pfi {ci : Nat} {C0 : String} {T : u_T} {N idx i : Nat} {fs : List (Option Nat)} {v : Int32} (hc : vwCl[ci]? = some (C0, T, N)) (hin : ∀ w ∈ u_ws C0 T N, w ∈ zWS) (ty0 : Nat → FieldType) (hty : ∀ k, k < N → parseFieldDescriptor (T k).2.2.1 = some (ty0 k)) (hnm : ∀ a, a < N → ∀ b, b < N → a ≠ b → (T a).2.1 ≠ (T b).2.1) (k : Nat) (hk : k < N) (hw : Cond.fieldLink mi.1 idx (T k).1 (T k).2.1 (T k).2.2.1 ∈ zWS) (hfin : (T k).2.2.2 = false) (hd0 : parseFieldDescriptor (T k).2.2.1 = some .int) (hi : i < 175) (hs : zshp i = .inl (ci, fs)) (hf : fs[k]? = some none) (hd : decode mi.2.1 pc = .ok (.putfield idx, 3)) (kk : zEV mi cs ss Z (pc + 3) L st (wr M i k v)) : zEV mi cs ss Z pc L (.inl v :: .inr (.inr i) :: st) M := by
  intro p l e R s m args below meth c H locs D ad aC A ls C hP hD hS hl
  have he := zW_get ad aC M hi
  rw [hs] at he
  have hlen : k < (zfld ad (M.1 i) fs).length := by
    unfold zfld
    rw [List.length_mapIdx]
    exact (List.getElem?_eq_some_iff.mp hf).1
  have hset : (zW ad aC M).set i (ad i, .inr (ci, (zfld ad (M.1 i) fs).set k (.int v))) = zW ad aC (wr M i k v) := by
    refine zW_set hi ?_ wr_ne
    rw [hs, wr_at]
    show Sum.inr (ci, zfld ad (fun j' => if j' = k then v else M.1 i j') fs) = _
    rw [zfld_set hf]
  refine va_put (v := .int v) C.1 C.2.1 C.2.2.2.2.2.2.1 hin ty0 hty hnm C.2.2.2.2.1 C.2.2.2.2.2.2.2.2.2.2.2.1 hP hD hS i he hc k hk (C.2.2.2.2.2.2.1 _ hw) (fun _ h => h) hfin hd0 (vp_nar_int v) rfl hlen hd (fun H1 locs1 hP1 hD1 hS1 => ?_)
  rw [hset] at hP1 hD1
  exact kk p l e R s m args below meth c H1 locs1 D ad aC A ls C hP1 hD1 hS1 hl
/-- an element is read -/
theorem zEV.iald {i n t0 sd : Nat} {x : Int32} (hi : i < 175) (hs : zshp i = .inr (0, n, t0, sd)) (hb : ¬ oob x n) (hd : decode mi.2.1 pc = .ok (.iaload, 1)) (kk : zEV mi cs ss Z (pc + 1) L (.inl (M.1 i x.toNatClampNeg) :: st) M) : zEV mi cs ss Z pc L (.inl x :: .inr (.inr i) :: st) M := by
  intro p l e R s m args below meth c H locs D ad aC A ls C hP hD hS hl
  have he := zW_get ad aC M hi
  rw [hs] at he
  exact va_iald C.1 C.2.1 C.2.2.2.2.2.2.2.2.2.2.2.1 hP i 0 he rfl hb hd (kk p l e R s m args below meth c H locs D ad aC A ls C hP hD hS hl)
theorem zEV.bald {i n t0 sd : Nat} {x : Int32} (hi : i < 175) (hs : zshp i = .inr (1, n, t0, sd)) (hb : ¬ oob x n) (hd : decode mi.2.1 pc = .ok (.baload, 1)) (kk : zEV mi cs ss Z (pc + 1) L (.inl (M.1 i x.toNatClampNeg) :: st) M) : zEV mi cs ss Z pc L (.inl x :: .inr (.inr i) :: st) M := by
  intro p l e R s m args below meth c H locs D ad aC A ls C hP hD hS hl
  have he := zW_get ad aC M hi
  rw [hs] at he
  exact va_bald C.1 C.2.1 C.2.2.2.2.2.2.2.2.2.2.2.1 hP i 1 he rfl hb hd (kk p l e R s m args below meth c H locs D ad aC A ls C hP hD hS hl)
theorem zEV.zald {i n t0 sd : Nat} {x : Int32} (hi : i < 175) (hs : zshp i = .inr (2, n, t0, sd)) (hb : ¬ oob x n) (hd : decode mi.2.1 pc = .ok (.baload, 1)) (kk : zEV mi cs ss Z (pc + 1) L (.inl (M.1 i x.toNatClampNeg) :: st) M) : zEV mi cs ss Z pc L (.inl x :: .inr (.inr i) :: st) M := by
  intro p l e R s m args below meth c H locs D ad aC A ls C hP hD hS hl
  have he := zW_get ad aC M hi
  rw [hs] at he
  exact va_zald C.1 C.2.1 C.2.2.2.2.2.2.2.2.2.2.2.1 hP i 2 he rfl hb hd (kk p l e R s m args below meth c H locs D ad aC A ls C hP hD hS hl)
theorem zEV.lald {i n t0 sd : Nat} {x : Int32} (hi : i < 175) (hs : zshp i = .inr (3, n, t0, sd)) (hb : ¬ oob x n) (hd : decode mi.2.1 pc = .ok (.laload, 1)) (kk : zEV mi cs ss Z (pc + 1) L (.inr (.inl (M.2 i x.toNatClampNeg)) :: st) M) : zEV mi cs ss Z pc L (.inl x :: .inr (.inr i) :: st) M := by
  intro p l e R s m args below meth c H locs D ad aC A ls C hP hD hS hl
  have he := zW_get ad aC M hi
  rw [hs] at he
  exact va_lald C.1 C.2.1 C.2.2.2.2.2.2.2.2.2.2.2.1 hP i 3 he rfl hb hd (kk p l e R s m args below meth c H locs D ad aC A ls C hP hD hS hl)
/-- a row of a row of rows, a leaf of a row of leaves -/
theorem zEV.aald {ty i n t0 sd : Nat} {x : Int32} (hi : i < 175) (hty : ty = 4 ∨ ty = 5) (hs : zshp i = .inr (ty, n, t0, sd)) (hb : ¬ oob x n) (hd : decode mi.2.1 pc = .ok (.aaload, 1)) (kk : zEV mi cs ss Z (pc + 1) L (.inr (.inr (t0 + sd * x.toNatClampNeg)) :: st) M) : zEV mi cs ss Z pc L (.inl x :: .inr (.inr i) :: st) M := by
  intro p l e R s m args below meth c H locs D ad aC A ls C hP hD hS hl
  have he := zW_get ad aC M hi
  rw [hs] at he
  have hlt : x.toNatClampNeg < n := Nat.not_le.mp fun q => hb (Or.inr q)
  have k1 := kk p l e R s m args below meth c H locs D ad aC A ls C hP hD hS hl
  have hK := C.2.2.2.2.2.2.2.2.2.2.2.1
  rcases hty with rfl | rfl
  · exact W.aald (v := .ref (ad (t0 + sd * x.toNatClampNeg))) (ty := .array .int) C.1 C.2.1 (hP i _ he) ((hK.2 4 _ rfl).1 n (fun j => va_rf (some (ad (t0 + sd * j))))) rfl (fun q => by cases q) (by show ¬ (x < 0 ∨ (arrV _ _ _).slots.size ≤ _); rw [arrV_size]; exact hb) (by show (arrV _ _ _).slots[_]? = _; rw [arrV_read _ _ hlt]; rfl) rfl rfl hd k1
  · exact va_aldq C.1 C.2.1 hK hP i 5 he rfl hb hd k1
/-- an element is written -/
theorem zEV.iast {i n t0 sd : Nat} {x v : Int32} (hi : i < 175) (hs : zshp i = .inr (0, n, t0, sd)) (hb : ¬ oob x n) (hd : decode mi.2.1 pc = .ok (.iastore, 1)) (kk : zEV mi cs ss Z (pc + 1) L st (wr M i x.toNatClampNeg v)) : zEV mi cs ss Z pc L (.inl v :: .inl x :: .inr (.inr i) :: st) M := by
  intro p l e R s m args below meth c H locs D ad aC A ls C hP hD hS hl
  have he := zW_get ad aC M hi
  rw [hs] at he
  have hset : (zW ad aC M).set i (ad i, .inl (aC 0, n, .inl (upd (M.1 i) x.toNatClampNeg v))) = zW ad aC (wr M i x.toNatClampNeg v) := by
    refine zW_set hi ?_ wr_ne
    rw [hs, wr_at]
    rfl
  refine va_iast C.1 C.2.1 C.2.2.2.2.2.2.2.2.2.2.2.1 hP hD hS i 0 he rfl hb hd (fun H1 locs1 hP1 hD1 hS1 => ?_)
  rw [hset] at hP1 hD1
  exact kk p l e R s m args below meth c H1 locs1 D ad aC A ls C hP1 hD1 hS1 hl
theorem zEV.bast {i n t0 sd : Nat} {x v : Int32} (hi : i < 175) (hs : zshp i = .inr (1, n, t0, sd)) (hb : ¬ oob x n) (hd : decode mi.2.1 pc = .ok (.bastore, 1)) (kk : zEV mi cs ss Z (pc + 1) L st (wr M i x.toNatClampNeg (vp_nar .byte v))) : zEV mi cs ss Z pc L (.inl v :: .inl x :: .inr (.inr i) :: st) M := by
  intro p l e R s m args below meth c H locs D ad aC A ls C hP hD hS hl
  have he := zW_get ad aC M hi
  rw [hs] at he
  have hset : (zW ad aC M).set i (ad i, .inl (aC 1, n, .inl (upd (M.1 i) x.toNatClampNeg (vp_nar .byte v)))) = zW ad aC (wr M i x.toNatClampNeg (vp_nar .byte v)) := by
    refine zW_set hi ?_ wr_ne
    rw [hs, wr_at]
    rfl
  refine va_bast C.1 C.2.1 C.2.2.2.2.2.2.2.2.2.2.2.1 hP hD hS i 1 he rfl hb hd (fun H1 locs1 hP1 hD1 hS1 => ?_)
  rw [hset] at hP1 hD1
  exact kk p l e R s m args below meth c H1 locs1 D ad aC A ls C hP1 hD1 hS1 hl
theorem zEV.zast {i n t0 sd : Nat} {x v : Int32} (hi : i < 175) (hs : zshp i = .inr (2, n, t0, sd)) (hb : ¬ oob x n) (hd : decode mi.2.1 pc = .ok (.bastore, 1)) (kk : zEV mi cs ss Z (pc + 1) L st (wr M i x.toNatClampNeg (vp_nar .boolean v))) : zEV mi cs ss Z pc L (.inl v :: .inl x :: .inr (.inr i) :: st) M := by
  intro p l e R s m args below meth c H locs D ad aC A ls C hP hD hS hl
  have he := zW_get ad aC M hi
  rw [hs] at he
  have hset : (zW ad aC M).set i (ad i, .inl (aC 2, n, .inl (upd (M.1 i) x.toNatClampNeg (vp_nar .boolean v)))) = zW ad aC (wr M i x.toNatClampNeg (vp_nar .boolean v)) := by
    refine zW_set hi ?_ wr_ne
    rw [hs, wr_at]
    rfl
  refine va_zast C.1 C.2.1 C.2.2.2.2.2.2.2.2.2.2.2.1 hP hD hS i 2 he rfl hb hd (fun H1 locs1 hP1 hD1 hS1 => ?_)
  rw [hset] at hP1 hD1
  exact kk p l e R s m args below meth c H1 locs1 D ad aC A ls C hP1 hD1 hS1 hl
theorem zEV.last {i n t0 sd : Nat} {x : Int32} {v : Int64} (hi : i < 175) (hs : zshp i = .inr (3, n, t0, sd)) (hb : ¬ oob x n) (hd : decode mi.2.1 pc = .ok (.lastore, 1)) (kk : zEV mi cs ss Z (pc + 1) L st (wrL M i x.toNatClampNeg v)) : zEV mi cs ss Z pc L (.inr (.inl v) :: .inl x :: .inr (.inr i) :: st) M := by
  intro p l e R s m args below meth c H locs D ad aC A ls C hP hD hS hl
  have he := zW_get ad aC M hi
  rw [hs] at he
  have hset : (zW ad aC M).set i (ad i, .inl (aC 3, n, .inr (.inl (vp_updL (M.2 i) x.toNatClampNeg v)))) = zW ad aC (wrL M i x.toNatClampNeg v) := by
    refine zW_set hi ?_ wrL_ne
    rw [hs, wrL_at]
    rfl
  refine va_last C.1 C.2.1 C.2.2.2.2.2.2.2.2.2.2.2.1 hP hD hS i 3 he rfl hb hd (fun H1 locs1 hP1 hD1 hS1 => ?_)
  rw [hset] at hP1 hD1
  exact kk p l e R s m args below meth c H1 locs1 D ad aC A ls C hP1 hD1 hS1 hl
/-- a static row of the class, and its elements -/
theorem zEV.gets (k : Nat) (hk : k < 6) {idx : Nat} (hw : Cond.fieldLink mi.1 idx "RingedPage" (zsn k) "[I" ∈ zWS) (hd : decode mi.2.1 pc = .ok (.getstatic idx, 3)) (kk : zEV mi cs ss Z (pc + 3) L (.inr (.inr (1000 + k)) :: st) M) : zEV mi cs ss Z pc L st M := by
  intro p l e R s m args below meth c H locs D ad aC A ls C hP hD hS hl
  exact va_gets C.1 C.2.1 (C.2.2.2.2.2.2.2.2.2.2.2.2.1.1 k hk).1 hS C.2.2.2.2.1 (C.2.2.2.2.2.2.1 _ hw) (fun _ h => h) hd (kk p l e R s m args below meth c H locs D ad aC A ls C hP hD hS hl)
theorem zEV.getsN (k : Nat) (hk : k < 6) {idx : Nat} (hm : mi.1 = RX3) (hw : (k = 3 ∧ idx = 61) ∨ (k = 4 ∧ idx = 65) ∨ (k = 5 ∧ idx = 68)) (hd : decode mi.2.1 pc = .ok (.getstatic idx, 3)) (kk : zEV mi cs ss Z (pc + 3) L (.inr (.inr (1000 + k)) :: st) M) : zEV mi cs ss Z pc L st M := by
  intro p l e R s m args below meth c H locs D ad aC A ls C hP hD hS hl
  have hN := C.2.2.2.2.2.2.2.2.2.2.2.2.1.2.1
  have hown := C.2.2.2.2.1
  rw [hm] at hown
  rcases hw with ⟨rfl, rfl⟩ | ⟨rfl, rfl⟩ | ⟨rfl, rfl⟩
  · exact va_getsN C.1 C.2.1 (C.2.2.2.2.2.2.2.2.2.2.2.2.1.1 3 hk).1 hS hown (hN.1.use rfl) (fun _ h => h) hd (kk p l e R s m args below meth c H locs D ad aC A ls C hP hD hS hl)
  · exact va_getsN C.1 C.2.1 (C.2.2.2.2.2.2.2.2.2.2.2.2.1.1 4 hk).1 hS hown (hN.2.1.use rfl) (fun _ h => h) hd (kk p l e R s m args below meth c H locs D ad aC A ls C hP hD hS hl)
  · exact va_getsN C.1 C.2.1 (C.2.2.2.2.2.2.2.2.2.2.2.2.1.1 5 hk).1 hS hown (hN.2.2.use rfl) (fun _ h => h) hd (kk p l e R s m args below meth c H locs D ad aC A ls C hP hD hS hl)
theorem zEV.stld (k : Nat) (hk : k < 6) {x : Int32} (hb : ¬ oob x (zsl k)) (hd : decode mi.2.1 pc = .ok (.iaload, 1)) (kk : zEV mi cs ss Z (pc + 1) L (.inl (zst k x.toNatClampNeg) :: st) M) : zEV mi cs ss Z pc L (.inl x :: .inr (.inr (1000 + k)) :: st) M := by
  intro p l e R s m args below meth c H locs D ad aC A ls C hP hD hS hl
  exact va_ti C.1 C.2.1 (C.2.2.2.2.2.2.2.2.2.2.2.2.1.1 k hk).2 hS hb rfl hd (kk p l e R s m args below meth c H locs D ad aC A ls C hP hD hS hl)
/-- Math.max, Math.min, System.arraycopy -/
theorem zEV.mmax {idx : Nat} {x y : Int32} (hw : Cond.methodLink mi.1 idx Lib.Math.max.name ∈ zWS) (h1 : Cond.static Lib.Math.max.name ∈ zWS) (h2 : Cond.initialized "java/lang/Math" ∈ zWS) (h3 : Cond.code Lib.Math.max.name Lib.Math.max.code 2 (some .int) ∈ zWS) (hr : 1 ≤ mi.2.2.2.2.1 ∧ (st.map zcat).sum + 13 ≤ mi.2.2.2.2.2) (hd : decode mi.2.1 pc = .ok (.invokestatic idx, 3)) (kk : zEV mi cs ss Z (pc + 3) L (.inl (if x < y then y else x) :: st) M) : zEV mi cs ss Z pc L (.inl y :: .inl x :: st) M := by
  intro p l e R s m args below meth c H locs D ad aC A ls C hP hD hS hl
  have hcat : ((st.map (zcv ad)).map fun v => v.category).sum = (st.map zcat).sum := by rw [List.map_map]; congr 1; apply List.map_congr_left; intro v _; exact zcv_cat ad v
  exact va_mmax C.1 C.2.1 (C.2.2.2.1.trans hl.1.symm) C.2.2.2.2.1 (C.2.2.2.2.2.2.1 _ hw) (C.2.2.2.2.2.2.1 _ h1) (C.2.2.2.2.2.2.1 _ h2) (C.2.2.2.2.2.2.1 _ h3) (Nat.le_trans hr.1 C.2.2.2.2.2.2.2.1) (by rw [hcat]; exact Nat.le_trans hr.2 C.2.2.2.2.2.2.2.2.1) (Nat.le_trans (Nat.sub_le _ _) C.2.2.2.2.2.2.2.2.2.1) (Nat.le_trans (Nat.sub_le _ _) C.2.2.2.2.2.2.2.2.2.2.1) hd (kk p l e R s m args below meth c H locs D ad aC A ls C hP hD hS hl)
theorem zEV.mmin {idx : Nat} {x y : Int32} (hw : Cond.methodLink mi.1 idx Lib.Math.min.name ∈ zWS) (h1 : Cond.static Lib.Math.min.name ∈ zWS) (h2 : Cond.initialized "java/lang/Math" ∈ zWS) (h3 : Cond.code Lib.Math.min.name Lib.Math.min.code 2 (some .int) ∈ zWS) (hr : 1 ≤ mi.2.2.2.2.1 ∧ (st.map zcat).sum + 13 ≤ mi.2.2.2.2.2) (hd : decode mi.2.1 pc = .ok (.invokestatic idx, 3)) (kk : zEV mi cs ss Z (pc + 3) L (.inl (if y < x then y else x) :: st) M) : zEV mi cs ss Z pc L (.inl y :: .inl x :: st) M := by
  intro p l e R s m args below meth c H locs D ad aC A ls C hP hD hS hl
  have hcat : ((st.map (zcv ad)).map fun v => v.category).sum = (st.map zcat).sum := by rw [List.map_map]; congr 1; apply List.map_congr_left; intro v _; exact zcv_cat ad v
  exact va_mmin C.1 C.2.1 (C.2.2.2.1.trans hl.1.symm) C.2.2.2.2.1 (C.2.2.2.2.2.2.1 _ hw) (C.2.2.2.2.2.2.1 _ h1) (C.2.2.2.2.2.2.1 _ h2) (C.2.2.2.2.2.2.1 _ h3) (Nat.le_trans hr.1 C.2.2.2.2.2.2.2.1) (by rw [hcat]; exact Nat.le_trans hr.2 C.2.2.2.2.2.2.2.2.1) (Nat.le_trans (Nat.sub_le _ _) C.2.2.2.2.2.2.2.2.2.1) (Nat.le_trans (Nat.sub_le _ _) C.2.2.2.2.2.2.2.2.2.2.1) hd (kk p l e R s m args below meth c H locs D ad aC A ls C hP hD hS hl)
theorem zEV.copy {idx i0 i1 n0 n1 t0 t1 sd0 sd1 : Nat} {sp dp n : Int32} (hw : Cond.methodLink mi.1 idx arraycopyName ∈ zWS) (h1 : Cond.native arraycopyName ∈ zWS) (h2 : Cond.static arraycopyName ∈ zWS) (h3 : Cond.initialized "java/lang/System" ∈ zWS) (hr : 1 ≤ mi.2.2.2.2.1 ∧ (st.map zcat).sum + (nativeFrameWords "java/lang/System" "arraycopy" 5 + 11) ≤ mi.2.2.2.2.2) (hi0 : i0 < 175) (hi1 : i1 < 175) (hs0 : zshp i0 = .inr (0, n0, t0, sd0)) (hs1 : zshp i1 = .inr (0, n1, t1, sd1)) (hb : ¬ (sp < 0 ∨ dp < 0 ∨ n < 0 ∨ n0 < sp.toNatClampNeg + n.toNatClampNeg ∨ n1 < dp.toNatClampNeg + n.toNatClampNeg)) (hd : decode mi.2.1 pc = .ok (.invokestatic idx, 3)) (kk : zEV mi cs ss Z (pc + 3) L st (cpy M i0 i1 sp.toNatClampNeg dp.toNatClampNeg n.toNatClampNeg)) : zEV mi cs ss Z pc L (.inl n :: .inl dp :: .inr (.inr i1) :: .inl sp :: .inr (.inr i0) :: st) M := by
  intro p l e R s m args below meth c H locs D ad aC A ls C hP hD hS hl
  have hcat : ((st.map (zcv ad)).map fun v => v.category).sum = (st.map zcat).sum := by rw [List.map_map]; congr 1; apply List.map_congr_left; intro v _; exact zcv_cat ad v
  have he0 := zW_get ad aC M hi0
  rw [hs0] at he0
  have he1 := zW_get ad aC M hi1
  rw [hs1] at he1
  have hset : (zW ad aC M).set i1 (ad i1, .inl (aC 0, n1, .inl (va_cpy (M.1 i0) (M.1 i1) sp.toNatClampNeg dp.toNatClampNeg n.toNatClampNeg))) = zW ad aC (cpy M i0 i1 sp.toNatClampNeg dp.toNatClampNeg n.toNatClampNeg) := by
    refine zW_set hi1 ?_ (fun q h => ⟨by simp [cpy, h], rfl⟩)
    rw [hs1]
    simp [cpy, zE]
  refine va_copyi C.1 C.2.1 (C.2.2.2.1.trans hl.1.symm) C.2.2.2.2.1 (C.2.2.2.2.2.2.1 _ hw) (C.2.2.2.2.2.2.1 _ h1) (C.2.2.2.2.2.2.1 _ h2) (C.2.2.2.2.2.2.1 _ h3) C.2.2.2.2.2.2.2.2.2.2.2.1 hP hD hS i0 i1 0 0 he0 he1 rfl rfl rfl (fun q => hb (Or.inl q)) (fun q => hb (Or.inr (Or.inl q))) (fun q => hb (Or.inr (Or.inr (Or.inl q)))) (Nat.not_lt.mp fun q => hb (Or.inr (Or.inr (Or.inr (Or.inl q))))) (Nat.not_lt.mp fun q => hb (Or.inr (Or.inr (Or.inr (Or.inr q))))) (fun _ _ => rfl) (Nat.le_trans hr.1 C.2.2.2.2.2.2.2.1) (by rw [hcat]; exact Nat.le_trans hr.2 C.2.2.2.2.2.2.2.2.1) hd (fun H1 locs1 hP1 hD1 hS1 => ?_)
  rw [hset] at hP1 hD1
  exact kk p l e R s m args below meth c H1 locs1 D ad aC A ls C hP1 hD1 hS1 hl
/-- behind a call -/
theorem zEV.back {p : Program} {l : Launch} {e : Env} {R : Room} {s : State} {m : MethodId} {args : Array Value} {below : List Frame} {meth : Method} {c : Code} {H : Heap} {locs : List Loc} {D : va_G} {ad : Nat → Nat} {aC : Nat → ClassId} {A : Nat → Prop} {ls : Array Slot} {st0 : List Value} {a9 : Array Value} {r : Option zAV} {M1 : zMM}
    (C : zCX mi cs ss p l R s m args meth c D ad aC A) (hD : va_D A (zW ad aC M)) (hS : va_S A s.heap H locs) (hl : lv_has ls mi.2.2.1 (L.map (zcl ad))) (hr : va_Run p l e R s m args below meth c H locs (cs - 1) (ss - 6) 0 0 (F0 m pc ls st0) (st.map (zcv ad)) (zPost D ad aC A (r, M1) a9) A) (kk : zEV mi cs ss Z (pc + 3) L (r.toList ++ st) M1) : W p l e R s m args below meth c H locs (cs - 1) (ss - 6) (Z D ad aC A below args s) (F0 m pc ls st0) := by
  intro T hT X
  obtain ⟨v, st₀, t, T', L9, h0, X', hL9, e1, e2, ⟨hv, hP1, hz, hk⟩, go⟩ := hr T hT X
  cases hv
  rw [h0] at hz hk
  have k1 := kk p l e R s m args below meth c T'.heap (locs ++ L9) D ad aC A ls C (by rw [e1]; exact hP1) (zD_any hD) ⟨Nat.le_trans hS.1 (by rw [e1]; exact hz), fun q h1 h2 => by rw [e1, hk q (Nat.lt_of_lt_of_le h1 hS.1) h2]; exact hS.2.1 q h1 h2, fun q hq => by
      rcases List.mem_append.mp hq with h | h
      · exact hS.2.2 q h
      · exact hL9 q h⟩ hl
  obtain ⟨t2, a1, b1⟩ := k1 T' rfl X'
  refine ⟨t2, go t2 ?_, b1⟩
  have e3 : (r.toList ++ st).map (zcv ad) = (r.map (zcv ad)).toList ++ st.map (zcv ad) := by cases r <;> simp
  rw [e3] at a1
  exact a1
theorem zPre.blind {D : va_G} {ad : Nat → Nat} {aC : Nat → ClassId} {A : Nat → Prop} {av : List Value} {M : zMM} : FrameBlind (va_Pc av (zPre D ad aC A M)) := by
  intro a U g mk q
  obtain ⟨q0, qP, qD, qK, qS, qA⟩ := q
  exact ⟨q0, qP, qD, va_K.moved (u := U) (U := U.calling g mk a) (Vm.Alike.refl U.vm) qK, qS.call, qA⟩
theorem zPre.at {p : Program} {l : Launch} {R : Room} {s : State} {m : MethodId} {args : Array Value} {meth : Method} {c : Code} {D : va_G} {ad : Nat → Nat} {aC : Nat → ClassId} {A : Nat → Prop} {H : Heap} {locs : List Loc} (C : zCX mi cs ss p l R s m args meth c D ad aC A) (hP : va_P D vwCl (zW ad aC M) H) (hD : va_D A (zW ad aC M)) (hS : va_S A s.heap H locs) (U : State) (hU : U.heap = H) (hW : s.WarmedH U.vm) : zPre D ad aC A M U := by
  subst hU
  exact ⟨hP, hD, va_K.moved hW.alike C.2.2.2.2.2.2.2.2.2.2.2.1, C.2.2.2.2.2.2.2.2.2.2.2.2.1.warm hW hS.2.1, fun q hq => C.2.2.2.2.2.2.2.2.2.2.2.2.2.1 q (Nat.le_trans hS.1 hq)⟩
theorem zgood {x : MethodName} {mj : zMI} (h : Cond.code x mj.2.1 mj.2.2.1 mj.2.2.2.1 ∈ zWS) : GoodIn zWS (.code x mj.2.1 mj.2.2.1 mj.2.2.2.1 :: zWS) := by
  intro w hw
  have h1 : w ∈ zWS := by
    rcases List.mem_cons.mp hw with rfl | h1
    · exact h
    · exact h1
  exact ⟨h1, zWS_good w h1⟩
/-- a call of an object's method -/
theorem zEV.callV {y : MethodName} {mj : zMI} {idx i ci n : Nat} {q : vw_C} {fs : List (Option Nat)} {As stk : List zAV} {r : Option zAV} {M1 : zMM} (hC : zCN y mj (.inr (.inr i) :: As) M (r, M1)) (hi : i < 175) (hs : zshp i = .inl (ci, fs)) (hc : vwCl[ci]? = some q)
    (hw : Cond.methodLink mi.1 idx y ∈ zWS) (h1 : Cond.instanceMethod y ∈ zWS ∧ Cond.selects q.1 y y ∈ zWS ∧ Cond.initialized y.cls ∈ zWS ∧ Cond.code y mj.2.1 mj.2.2.1 mj.2.2.2.1 ∈ zWS)
    (hy : y.cls ≠ "java/lang/invoke/MethodHandle" ∧ y.cls ≠ "java/lang/invoke/VarHandle" ∧ (parseMethodDescriptor y.desc).map (fun d => d.parameters.length) = some n) (hn : As.length = n) (hR : mj.2.2.2.2.1 + 1 ≤ mi.2.2.2.2.1 ∧ 8 + (mj.2.2.1 + 11) + mj.2.2.2.2.2 ≤ mi.2.2.2.2.2)
    (hst : stk = As.reverse ++ .inr (.inr i) :: st) (h8 : (st.map zcat).sum ≤ 8) (hd : decode mi.2.1 pc = .ok (.invokevirtual idx, 3)) (kk : zEV mi cs ss Z (pc + 3) L (r.toList ++ st) M1) : zEV mi cs ss Z pc L stk M := by
  intro p l e R s m args below meth c H locs D ad aC A ls C hP hD hS hl
  have hcat : ((st.map (zcv ad)).map fun v => v.category).sum = (st.map zcat).sum := by rw [List.map_map]; congr 1; apply List.map_congr_left; intro v _; exact zcv_cat ad v
  have he := zW_get ad aC M hi
  rw [hs] at he
  subst hst
  have hts := C.2.2.2.2.2.2.1
  refine zEV.back C hD hS hl (va_runV (As := As.map (zcv ad)) (n := n) ⟨C.1, C.2.1, C.2.2.2.1, C.2.2.2.2.1, hts⟩ (hC l C.2.2.2.2.2.2.2.2.2.2.2.2.2.2.1 D ad aC A) ⟨callB_of n hts (zgood h1.2.2.2) rfl rfl rfl (hts _ h1.2.2.1) (hts _ hw) hy ⟨Nat.le_trans hR.1 C.2.2.2.2.2.2.2.1, Nat.le_trans hR.2 C.2.2.2.2.2.2.2.2.1⟩, hts _ h1.1, hts _ h1.2.1⟩ ⟨zPre.blind, va_recv C.2.2.2.2.2.2.2.2.2.2.2.1 hP hc he, fun U hU hW => ⟨rfl, zPre.at C hP hD hS U hU hW⟩⟩ rfl (by rw [List.length_map]; exact hn) hl.1 ?_ (lv_room (by rw [hcat]; exact h8)) hd ⟨Nat.le_trans (Nat.sub_le _ _) C.2.2.2.2.2.2.2.2.2.1, Nat.le_trans (Nat.sub_le _ _) C.2.2.2.2.2.2.2.2.2.2.1⟩) kk
  show (As.reverse ++ .inr (.inr i) :: st).map (zcv ad) = _
  rw [List.map_append, List.map_reverse]
  rfl
/-- a call of a static method -/
theorem zEV.callS {y : MethodName} {mj : zMI} {idx n : Nat} {As stk : List zAV} {r : Option zAV} {M1 : zMM} (hC : zCN y mj As M (r, M1))
    (hw : Cond.methodLink mi.1 idx y ∈ zWS) (h1 : Cond.static y ∈ zWS ∧ Cond.initialized y.cls ∈ zWS ∧ Cond.code y mj.2.1 mj.2.2.1 mj.2.2.2.1 ∈ zWS)
    (hy : y.cls ≠ "java/lang/invoke/MethodHandle" ∧ y.cls ≠ "java/lang/invoke/VarHandle" ∧ (parseMethodDescriptor y.desc).map (fun d => d.parameters.length) = some n) (hn : As.length = n) (hR : mj.2.2.2.2.1 + 1 ≤ mi.2.2.2.2.1 ∧ 8 + (mj.2.2.1 + 11) + mj.2.2.2.2.2 ≤ mi.2.2.2.2.2)
    (hst : stk = As.reverse ++ st) (h8 : (st.map zcat).sum ≤ 8) (hd : decode mi.2.1 pc = .ok (.invokestatic idx, 3)) (kk : zEV mi cs ss Z (pc + 3) L (r.toList ++ st) M1) : zEV mi cs ss Z pc L stk M := by
  intro p l e R s m args below meth c H locs D ad aC A ls C hP hD hS hl
  have hcat : ((st.map (zcv ad)).map fun v => v.category).sum = (st.map zcat).sum := by rw [List.map_map]; congr 1; apply List.map_congr_left; intro v _; exact zcv_cat ad v
  subst hst
  have hts := C.2.2.2.2.2.2.1
  refine zEV.back C hD hS hl (va_runS (As := As.map (zcv ad)) (n := n) ⟨C.1, C.2.1, C.2.2.2.1, C.2.2.2.2.1, hts⟩ (hC l C.2.2.2.2.2.2.2.2.2.2.2.2.2.2.1 D ad aC A) ⟨callB_of n hts (zgood h1.2.2) rfl rfl rfl (hts _ h1.2.1) (hts _ hw) hy ⟨Nat.le_trans hR.1 C.2.2.2.2.2.2.2.1, Nat.le_trans hR.2 C.2.2.2.2.2.2.2.2.1⟩, hts _ h1.1⟩ ⟨zPre.blind, fun U hU hW => ⟨rfl, zPre.at C hP hD hS U hU hW⟩⟩ rfl (by rw [List.length_map]; exact hn) hl.1 ?_ (lv_room (by rw [hcat]; exact h8)) hd ⟨Nat.le_trans (Nat.sub_le _ _) C.2.2.2.2.2.2.2.2.2.1, Nat.le_trans (Nat.sub_le _ _) C.2.2.2.2.2.2.2.2.2.2.1⟩) kk
  show (As.reverse ++ st).map (zcv ad) = _
  rw [List.map_append, List.map_reverse]
/-- a call of a static method of the nest's host -/
theorem zEV.callSN {y : MethodName} {mj : zMI} {idx n : Nat} {As stk : List zAV} {r : Option zAV} {M1 : zMM} (hC : zCN y mj As M (r, M1))
    (hw : (mi.1 = RX0 ∧ idx = 68 ∧ y = yX6_isText) ∨ (mi.1 = RX4 ∧ idx = 114 ∧ y = yX6_isBroken)) (h1 : Cond.static y ∈ zWS ∧ Cond.initialized y.cls ∈ zWS ∧ Cond.code y mj.2.1 mj.2.2.1 mj.2.2.2.1 ∈ zWS)
    (hy : y.cls ≠ "java/lang/invoke/MethodHandle" ∧ y.cls ≠ "java/lang/invoke/VarHandle" ∧ (parseMethodDescriptor y.desc).map (fun d => d.parameters.length) = some n) (hn : As.length = n) (hR : mj.2.2.2.2.1 + 1 ≤ mi.2.2.2.2.1 ∧ 8 + (mj.2.2.1 + 11) + mj.2.2.2.2.2 ≤ mi.2.2.2.2.2)
    (hst : stk = As.reverse ++ st) (h8 : (st.map zcat).sum ≤ 8) (hd : decode mi.2.1 pc = .ok (.invokestatic idx, 3)) (kk : zEV mi cs ss Z (pc + 3) L (r.toList ++ st) M1) : zEV mi cs ss Z pc L stk M := by
  intro p l e R s m args below meth c H locs D ad aC A ls C hP hD hS hl
  have hcat : ((st.map (zcv ad)).map fun v => v.category).sum = (st.map zcat).sum := by rw [List.map_map]; congr 1; apply List.map_congr_left; intro v _; exact zcv_cat ad v
  subst hst
  have hts := C.2.2.2.2.2.2.1
  have hN := C.2.2.2.2.2.2.2.2.2.2.2.2.1.2.2.1
  have hnest : va_Nw (.methodLinkNest mi.1 idx y "RingedPage") s := by
    rcases hw with ⟨e1, rfl, rfl⟩ | ⟨e1, rfl, rfl⟩
    · rw [e1]; exact hN.1
    · rw [e1]; exact hN.2
  refine zEV.back C hD hS hl (va_runSN (host := "RingedPage") (As := As.map (zcv ad)) (n := n) ⟨C.1, C.2.1, C.2.2.2.1, C.2.2.2.2.1, hts⟩ (hC l C.2.2.2.2.2.2.2.2.2.2.2.2.2.2.1 D ad aC A) ⟨va_cnB n hts (zgood h1.2.2) rfl rfl rfl hnest (hts _ h1.2.1) hy ⟨Nat.le_trans hR.1 C.2.2.2.2.2.2.2.1, Nat.le_trans hR.2 C.2.2.2.2.2.2.2.2.1⟩, hts _ h1.1, trivial⟩ ⟨zPre.blind, fun U hU hW => ⟨rfl, zPre.at C hP hD hS U hU hW⟩⟩ rfl (by rw [List.length_map]; exact hn) hl.1 ?_ (lv_room (by rw [hcat]; exact h8)) hd ⟨Nat.le_trans (Nat.sub_le _ _) C.2.2.2.2.2.2.2.2.2.1, Nat.le_trans (Nat.sub_le _ _) C.2.2.2.2.2.2.2.2.2.2.1⟩) kk
  show (As.reverse ++ st).map (zcv ad) = _
  rw [List.map_append, List.map_reverse]
/-- the ends -/
theorem zEV.iret {v : Int32} (hr : mi.2.2.2.1 = some .int) (hd : decode mi.2.1 pc = .ok (.ireturn, 1)) : zEV mi 0 0 (zZO (some (.inl v), M)) pc L [.inl v] M := by
  intro p l e R s m args below meth c H locs D ad aC A ls C hP hD hS hl
  exact W.iret (v := v) C.1 C.2.1 (C.2.2.1.trans hr) (fun t ht hW => ⟨rfl, by rw [ht]; exact hP, hS.F ht⟩) hS.2.2 hd C.2.2.2.2.2.1
theorem zEV.zret {v : Int32} (hr : mi.2.2.2.1 = some .boolean) (hv : v = 0 ∨ v = 1) (hd : decode mi.2.1 pc = .ok (.ireturn, 1)) : zEV mi 0 0 (zZO (some (.inl v), M)) pc L [.inl v] M := by
  intro p l e R s m args below meth c H locs D ad aC A ls C hP hD hS hl
  exact W.zret (v := v) C.1 C.2.1 (C.2.2.1.trans hr) (by rcases hv with rfl | rfl <;> rfl) (fun t ht hW => ⟨rfl, by rw [ht]; exact hP, hS.F ht⟩) hS.2.2 hd C.2.2.2.2.2.1
theorem zEV.lret {v : Int64} (hr : mi.2.2.2.1 = some .long) (hd : decode mi.2.1 pc = .ok (.lreturn, 1)) : zEV mi 0 0 (zZO (some (.inr (.inl v)), M)) pc L [.inr (.inl v)] M := by
  intro p l e R s m args below meth c H locs D ad aC A ls C hP hD hS hl
  exact W.lret (v := v) C.1 C.2.1 (C.2.2.1.trans hr) (fun t ht hW => ⟨rfl, by rw [ht]; exact hP, hS.F ht⟩) hS.2.2 hd C.2.2.2.2.2.1
theorem zEV.vret (hr : mi.2.2.2.1 = none) (hd : decode mi.2.1 pc = .ok (.return_, 1)) : zEV mi 0 0 (zZO (none, M)) pc L [] M := by
  intro p l e R s m args below meth c H locs D ad aC A ls C hP hD hS hl
  exact W.vret C.1 C.2.1 (C.2.2.1.trans hr) (fun t ht hW => ⟨rfl, by rw [ht]; exact hP, hS.F ht⟩) hS.2.2 hd C.2.2.2.2.2.1
end ZR
/-- a method out of its walk -/
theorem zCN.of {y : MethodName} {mi : zMI} {av : List zAV} {M : zMM} {o : Option zAV × zMM} {L : List (Nat × zAV)} (hy : plainName y.cls = true ∧ y.cls ≠ RL) (hm : mi.1 = y.cls) (hL : zargs 0 av = L) (hn : (av.map zcat).sum ≤ mi.2.2.1) (h : zEV mi 0 0 (zZO o) 0 L [] M) : zCN y mi av M o := by
  intro l htr D ad aC A
  refine Met.ofW (cc := mi.2.1) (maxL := mi.2.2.1) (ret := mi.2.2.2.1) hy.1 rfl ?_
  intro p e s m args below meth c s₁ B hml hv
  obtain ⟨rfl, hP, hD, hK, hS9, hA⟩ := hv
  have hts := atoms_spec (ws := (.code y mi.2.1 mi.2.2.1 mi.2.2.2.1 :: zWS : List Cond)) B.pre
  have hown : s.vm.findClass mi.1 = some m.cls := by rw [hm]; exact findClass_of_methodNamed B.named
  have htb : ∀ x ∈ c.exceptionTable.toList, False := by
    obtain ⟨meth9, c9, h1, h2, -, -, -, -, h7, -⟩ := Cond.code_spec B.named (hts _ List.mem_cons_self)
    cases Option.some.inj (h1.symm.trans B.method)
    cases Option.some.inj (h2.symm.trans (Stand.of_body B).code)
    intro x hx
    rw [Array.isEmpty_iff.mp h7] at hx
    cases hx
  have hl := lv_entry (av.map (zcv ad)) (n := mi.2.2.1) (by rw [zsl_len]; exact hn)
  rw [zargs_eq, hL] at hl
  rw [lg_entry_eq]
  exact h p l e _ s m _ below meth c s.heap [] D ad aC A _ ⟨B.exec, B.bytes, B.returns, hml, hown, B.notSynchronized, fun w hw => hts w (List.mem_cons_of_mem _ hw), Nat.le_refl _, Nat.le_refl _, Nat.zero_le _, Nat.zero_le _, hK, hS9, hA, htr, fun _ => htb, fun h9 => absurd (hm.symm.trans h9) hy.2⟩ hP hD va_S.rf hl
theorem ite_no {α : Type} {p : Prop} [Decidable p] {x : Option α} {y : α} (h : (if p then none else x) = some y) : ¬ p ∧ x = some y := by
  by_cases hp : p
  · rw [if_pos hp] at h; cases h
  · rw [if_neg hp] at h; exact ⟨hp, h⟩
theorem ite_yes {α : Type} {p : Prop} [Decidable p] {x : Option α} {y : α} (h : (if p then x else none) = some y) : p ∧ x = some y := by
  by_cases hp : p
  · rw [if_pos hp] at h; exact ⟨hp, h⟩
  · rw [if_neg hp] at h; cases h
theorem bind_yes {α β : Type} {x : Option α} {f : α → Option β} {y : β} (h : x.bind f = some y) : ∃ q, x = some q ∧ f q = some y := Option.bind_eq_some_iff.mp h

