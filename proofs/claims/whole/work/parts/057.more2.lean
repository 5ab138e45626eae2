section ZR3
variable {mi : zMI} {cs ss : Nat} {Z : zZ} {pc : Nat} {L : List (Nat × zAV)} {st : List zAV} {M : zMM}
/-! the same, at a place that is a number -/
theorem zEV.ialdL {i n t0 sd j : Nat} {x : Int32} (hi : i < 175) (hs : zshp i = .inr (0, n, t0, sd)) (hb : ¬ oob x n) (hj : x.toNatClampNeg = j) (hd : decode mi.2.1 pc = .ok (.iaload, 1)) (kk : zEV mi cs ss Z (pc + 1) L (.inl (M.1 i j) :: st) M) : zEV mi cs ss Z pc L (.inl x :: .inr (.inr i) :: st) M := by
  subst hj
  exact zEV.iald hi hs hb hd kk
theorem zEV.baldL {i n t0 sd j : Nat} {x : Int32} (hi : i < 175) (hs : zshp i = .inr (1, n, t0, sd)) (hb : ¬ oob x n) (hj : x.toNatClampNeg = j) (hd : decode mi.2.1 pc = .ok (.baload, 1)) (kk : zEV mi cs ss Z (pc + 1) L (.inl (M.1 i j) :: st) M) : zEV mi cs ss Z pc L (.inl x :: .inr (.inr i) :: st) M := by
  subst hj
  exact zEV.bald hi hs hb hd kk
theorem zEV.zaldL {i n t0 sd j : Nat} {x : Int32} (hi : i < 175) (hs : zshp i = .inr (2, n, t0, sd)) (hb : ¬ oob x n) (hj : x.toNatClampNeg = j) (hd : decode mi.2.1 pc = .ok (.baload, 1)) (kk : zEV mi cs ss Z (pc + 1) L (.inl (M.1 i j) :: st) M) : zEV mi cs ss Z pc L (.inl x :: .inr (.inr i) :: st) M := by
  subst hj
  exact zEV.zald hi hs hb hd kk
theorem zEV.laldL {i n t0 sd j : Nat} {x : Int32} (hi : i < 175) (hs : zshp i = .inr (3, n, t0, sd)) (hb : ¬ oob x n) (hj : x.toNatClampNeg = j) (hd : decode mi.2.1 pc = .ok (.laload, 1)) (kk : zEV mi cs ss Z (pc + 1) L (.inr (.inl (M.2 i j)) :: st) M) : zEV mi cs ss Z pc L (.inl x :: .inr (.inr i) :: st) M := by
  subst hj
  exact zEV.lald hi hs hb hd kk
theorem zEV.aaldL {ty i n t0 sd r : Nat} {x : Int32} (hi : i < 175) (hty : ty = 4 ∨ ty = 5) (hs : zshp i = .inr (ty, n, t0, sd)) (hb : ¬ oob x n) (hr : t0 + sd * x.toNatClampNeg = r) (hd : decode mi.2.1 pc = .ok (.aaload, 1)) (kk : zEV mi cs ss Z (pc + 1) L (.inr (.inr r) :: st) M) : zEV mi cs ss Z pc L (.inl x :: .inr (.inr i) :: st) M := by
  subst hr
  exact zEV.aald hi hty hs hb hd kk
theorem zEV.iastL {i n t0 sd j : Nat} {x v : Int32} (hi : i < 175) (hs : zshp i = .inr (0, n, t0, sd)) (hb : ¬ oob x n) (hj : x.toNatClampNeg = j) (hd : decode mi.2.1 pc = .ok (.iastore, 1)) (kk : zEV mi cs ss Z (pc + 1) L st (wr M i j v)) : zEV mi cs ss Z pc L (.inl v :: .inl x :: .inr (.inr i) :: st) M := by
  subst hj
  exact zEV.iast hi hs hb hd kk
theorem zEV.bastL {i n t0 sd j : Nat} {x v : Int32} (hi : i < 175) (hs : zshp i = .inr (1, n, t0, sd)) (hb : ¬ oob x n) (hj : x.toNatClampNeg = j) (hd : decode mi.2.1 pc = .ok (.bastore, 1)) (kk : zEV mi cs ss Z (pc + 1) L st (wr M i j (vp_nar .byte v))) : zEV mi cs ss Z pc L (.inl v :: .inl x :: .inr (.inr i) :: st) M := by
  subst hj
  exact zEV.bast hi hs hb hd kk
theorem zEV.zastL {i n t0 sd j : Nat} {x v : Int32} (hi : i < 175) (hs : zshp i = .inr (2, n, t0, sd)) (hb : ¬ oob x n) (hj : x.toNatClampNeg = j) (hd : decode mi.2.1 pc = .ok (.bastore, 1)) (kk : zEV mi cs ss Z (pc + 1) L st (wr M i j (vp_nar .boolean v))) : zEV mi cs ss Z pc L (.inl v :: .inl x :: .inr (.inr i) :: st) M := by
  subst hj
  exact zEV.zast hi hs hb hd kk
theorem zEV.lastL {i n t0 sd j : Nat} {x : Int32} {v : Int64} (hi : i < 175) (hs : zshp i = .inr (3, n, t0, sd)) (hb : ¬ oob x n) (hj : x.toNatClampNeg = j) (hd : decode mi.2.1 pc = .ok (.lastore, 1)) (kk : zEV mi cs ss Z (pc + 1) L st (wrL M i j v)) : zEV mi cs ss Z pc L (.inr (.inl v) :: .inl x :: .inr (.inr i) :: st) M := by
  subst hj
  exact zEV.last hi hs hb hd kk
/-! the model's text of letters: cell 2001, its bytes 2002 -/
theorem zldcwS {p : Program} {l : Launch} {e : Env} {R : Room} {s : State} {m : MethodId} {args : Array Value} {below : List Frame} {meth : Method} {c : Code} {T : State} {locs : List Loc} {cells slots : Nat}
    (X : Stand p l e R s m args below meth c T locs cells slots) (hexec : p.tables.exec = Jvm.exec) {own text : String} {index : Nat} {a : Addr} (hown : s.vm.findClass own = some m.cls)
    (hconst : (Cond.stringRef own index text).before args s = true) (hev : (Term.string own index).eval args s none [] s = some (.ref a)) {g : JFrame} (hg : g.method = m) (hdg : decode c.code g.pc = .ok (.ldc_w index, 3)) :
    ∀ target, Steps p.tables e below (T.setTop { g with pc := g.pc + 3, stack := .ref a :: g.stack }) target → Steps p.tables e below (T.setTop g) target := by
  obtain ⟨k, cf, i, a', hk, hcf, hcp, -, hr, hev'⟩ := Cond.stringRef_spec hown hconst
  cases hev.symm.trans hev'
  obtain ⟨k', hk', he⟩ := X.warmed.alike.2.2 _ _ hk
  have hr' : k'.resolved[index]? = some (some (.string a)) := by
    rcases X.warmed.entry hk hk' index with h | ⟨h, -⟩
    · rw [h]; exact hr
    · rw [hr] at h; cases h
  intro target hrest
  subst hg
  jvm_step X.here [hexec, hdg, ldc_w.wp_string (e := e) (s := T) (f := g) X.here.top hk' (by rw [he]; exact hcf) hcp hr']
  exact hrest
theorem zEV.ldcS (hm : mi.1 = RX7) (hd : decode mi.2.1 pc = .ok (.ldc_w 300, 3)) (k : zEV mi cs ss Z (pc + 3) L (.inr (.inr 2001) :: st) M) : zEV mi cs ss Z pc L st M := by
  intro p l e R s m args below meth c H locs D ad aC A ls C hP hD hS hl
  intro T hT X
  obtain ⟨t, a1, b1⟩ := k p l e R s m args below meth c H locs D ad aC A ls C hP hD hS hl T hT X
  have hZ := C.2.2.2.2.2.2.2.2.2.2.2.2.1.2.2.2.2.1
  have hown := C.2.2.2.2.1
  rw [hm] at hown
  exact ⟨t, zldcwS X C.1 hown (text := "whpcgbux") (a := ad 2001) hZ.1 hZ.2 (g := F0 m pc ls (st.map (zcv ad))) rfl (by rw [C.2.1]; exact hd) t a1, b1⟩
theorem zEV.gSv {idx : Nat} (hw : Cond.fieldLink mi.1 idx "java/lang/String" "value" "[B" ∈ zWS) (hd : decode mi.2.1 pc = .ok (.getfield idx, 3)) (k : zEV mi cs ss Z (pc + 3) L (.inr (.inr 2002) :: st) M) : zEV mi cs ss Z pc L (.inr (.inr 2001) :: st) M := by
  intro p l e R s m args below meth c H locs D ad aC A ls C hP hD hS hl
  exact vk_getf C.1 C.2.1 C.2.2.2.2.2.2.2.2.2.2.2.2.1.2.2.2.2.2.2.2.1 hS C.2.2.2.2.1 (C.2.2.2.2.2.2.1 _ hw) (fun _ h => h) hd (k p l e R s m args below meth c H locs D ad aC A ls C hP hD hS hl)
theorem zEV.gSc {idx : Nat} (hw : Cond.fieldLink mi.1 idx "java/lang/String" "coder" "B" ∈ zWS) (hd : decode mi.2.1 pc = .ok (.getfield idx, 3)) (k : zEV mi cs ss Z (pc + 3) L (.inl 0 :: st) M) : zEV mi cs ss Z pc L (.inr (.inr 2001) :: st) M := by
  intro p l e R s m args below meth c H locs D ad aC A ls C hP hD hS hl
  exact vk_getf C.1 C.2.1 C.2.2.2.2.2.2.2.2.2.2.2.2.1.2.2.2.2.2.2.1 hS C.2.2.2.2.1 (C.2.2.2.2.2.2.1 _ hw) (fun _ h => h) hd (k p l e R s m args below meth c H locs D ad aC A ls C hP hD hS hl)
theorem zEV.gSk {idx : Nat} (hw : Cond.fieldLink mi.1 idx "java/lang/String" "COMPACT_STRINGS" "Z" ∈ zWS) (hd : decode mi.2.1 pc = .ok (.getstatic idx, 3)) (k : zEV mi cs ss Z (pc + 3) L (.inl 1 :: st) M) : zEV mi cs ss Z pc L st M := by
  intro p l e R s m args below meth c H locs D ad aC A ls C hP hD hS hl
  exact va_gets C.1 C.2.1 C.2.2.2.2.2.2.2.2.2.2.2.2.1.2.2.2.2.2.2.2.2.2 hS C.2.2.2.2.1 (C.2.2.2.2.2.2.1 _ hw) (fun _ h => h) hd (k p l e R s m args below meth c H locs D ad aC A ls C hP hD hS hl)
theorem zEV.Slen (hd : decode mi.2.1 pc = .ok (.arraylength, 1)) (k : zEV mi cs ss Z (pc + 1) L (.inl 8 :: st) M) : zEV mi cs ss Z pc L (.inr (.inr 2002) :: st) M := by
  intro p l e R s m args below meth c H locs D ad aC A ls C hP hD hS hl
  obtain ⟨cell, h1, h2, h3, h4, h5, h6, h7⟩ := C.2.2.2.2.2.2.2.2.2.2.2.2.1.2.2.2.2.2.2.2.2.1.kept hS.2.1
  exact W.alen (n := 8) C.1 C.2.1 h1 h2 (by rw [h5]; rfl) rfl rfl hd (k p l e R s m args below meth c H locs D ad aC A ls C hP hD hS hl)
theorem zEV.Sbald {x : Int32} (hb : ¬ oob x 8) (hd : decode mi.2.1 pc = .ok (.baload, 1)) (k : zEV mi cs ss Z (pc + 1) L (.inl (zsb x.toNatClampNeg) :: st) M) : zEV mi cs ss Z pc L (.inl x :: .inr (.inr 2002) :: st) M := by
  intro p l e R s m args below meth c H locs D ad aC A ls C hP hD hS hl
  exact va_tb C.1 C.2.1 C.2.2.2.2.2.2.2.2.2.2.2.2.1.2.2.2.2.2.2.2.2.1 hS hb rfl hd (k p l e R s m args below meth c H locs D ad aC A ls C hP hD hS hl)
theorem zEV.callVS {y : MethodName} {mj : zMI} {idx n : Nat} {As stk : List zAV} {r : Int32} {M1 : zMM} (hC : zCN y mj (.inr (.inr 2001) :: As) M (some (.inl r), M1))
    (hw : Cond.methodLink mi.1 idx y ∈ zWS) (h1 : Cond.instanceMethod y ∈ zWS ∧ Cond.selects "java/lang/String" y y ∈ zWS ∧ Cond.initialized y.cls ∈ zWS ∧ Cond.code y mj.2.1 mj.2.2.1 mj.2.2.2.1 ∈ zWS)
    (hy : y.cls ≠ "java/lang/invoke/MethodHandle" ∧ y.cls ≠ "java/lang/invoke/VarHandle" ∧ (parseMethodDescriptor y.desc).map (fun d => d.parameters.length) = some n) (hn : As.length = n) (hR : mj.2.2.2.2.1 + 1 ≤ mi.2.2.2.2.1 ∧ 8 + (mj.2.2.1 + 11) + mj.2.2.2.2.2 ≤ mi.2.2.2.2.2)
    (hst : stk = As.reverse ++ .inr (.inr 2001) :: st) (h8 : (st.map zcat).sum ≤ 8) (hd : decode mi.2.1 pc = .ok (.invokevirtual idx, 3)) (kk : zEV mi cs ss Z (pc + 3) L (.inl r :: st) M1) : zEV mi cs ss Z pc L stk M := by
  intro p l e R s m args below meth c H locs D ad aC A ls C hP hD hS hl
  have hcat : ((st.map (zcv ad)).map fun v => v.category).sum = (st.map zcat).sum := by rw [List.map_map]; congr 1; apply List.map_congr_left; intro v _; exact zcv_cat ad v
  subst hst
  have hts := C.2.2.2.2.2.2.1
  obtain ⟨cell, g1, g2, g3, g4⟩ := C.2.2.2.2.2.2.2.2.2.2.2.2.1.2.2.2.2.2.1.kept hS.2.1
  refine zEV.back C hD hS hl (va_runV (As := As.map (zcv ad)) (n := n) ⟨C.1, C.2.1, C.2.2.2.1, C.2.2.2.2.1, hts⟩ (hC l C.2.2.2.2.2.2.2.2.2.2.2.2.2.2.1 D ad aC A) ⟨callB_of n hts (zgood h1.2.2.2) rfl rfl rfl (hts _ h1.2.2.1) (hts _ hw) hy ⟨Nat.le_trans hR.1 C.2.2.2.2.2.2.2.1, Nat.le_trans hR.2 C.2.2.2.2.2.2.2.2.1⟩, hts _ h1.1, hts _ h1.2.1⟩ ⟨zPre.blind, ⟨cell, g1, g2, g3⟩, fun U hU hW => ⟨rfl, zPre.at C hP hD hS U hU hW⟩⟩ rfl (by rw [List.length_map]; exact hn) hl.1 ?_ (lv_room (by rw [hcat]; exact h8)) hd ⟨Nat.le_trans (Nat.sub_le _ _) C.2.2.2.2.2.2.2.2.2.1, Nat.le_trans (Nat.sub_le _ _) C.2.2.2.2.2.2.2.2.2.2.1⟩) kk
  show (As.reverse ++ .inr (.inr 2001) :: st).map (zcv ad) = _
  rw [List.map_append, List.map_reverse]
  rfl
/-- a byte is answered -/
theorem zEV.bret {v : Int32} (hr : mi.2.2.2.1 = some .byte) (hv : narrow .byte (.int v) = .int v) (hd : decode mi.2.1 pc = .ok (.ireturn, 1)) : zEV mi 0 0 (zZO (some (.inl v), M)) pc L [.inl v] M := by
  intro p l e R s m args below meth c H locs D ad aC A ls C hP hD hS hl
  exact W.zret (v := v) C.1 C.2.1 (C.2.2.1.trans hr) hv (fun t ht hW => ⟨rfl, by rw [ht]; exact hP, hS.F ht⟩) hS.2.2 hd C.2.2.2.2.2.1
end ZR3
