section ZK2
variable {mi : zMI} {mc ms cs ss : Nat} {o : zBB × zMM} {pc : Nat} {L : List (Nat × zAV)} {st : List zAV} {B : zBB} {M : zMM}
/-- new Leaf[n] -/
theorem zEK.newq {idx i N' : Nat} {n : Int32} (hw : Cond.classLink mi.1 idx "RingedPage$Leaf" ∈ zWS) (hok : zok B L st [i] = true) (hn : ¬ n < 0) (hN : n.toNatClampNeg = N') (hbytes : N' * 4 ≤ 536870912) (hcs : cs + 1 ≤ mc ∧ ss + N' ≤ ms) (hd : decode mi.2.1 pc = .ok (.anewarray idx, 3))
    (kk : zEK mi mc ms o (pc + 3) L (.inr (.inr i) :: st) (cs + 1) (ss + N') (B ++ [(i, .inr (5, N', List.replicate N' none))]) M) : zEK mi mc ms o pc L (.inl n :: st) cs ss B M := by
  intro p l e R s m args below meth c H locs D ad aC A ls C hP hD hS hl
  have hK := C.2.2.2.2.2.2.2.2.2.2.2.1
  refine va_newq C.1 C.2.1 C.2.2.2.2.1 (C.2.2.2.2.2.2.1 _ hw) C.2.2.2.2.2.2.2.2.2.2.2.2.1.2.2 hK hP hD hS C.2.2.2.2.2.2.2.2.2.2.2.2.2.1 hn hN hbytes (Nat.le_trans hcs.1 C.2.2.2.2.2.2.2.2.2.1) (Nat.le_trans hcs.2 C.2.2.2.2.2.2.2.2.2.2.1) hd (fun q cA H1 hK1 hP1 hD1 hS1 => ?_)
  have hcA := zaC hK 5 rfl hK1
  subst hcA
  refine zEK.born (g := [.inr (.inr i)]) (ad' := zup ad i q) (B1 := [(i, .inr (5, N', List.replicate N' none))]) (M1 := M) hok (fun t ht => by simp at ht; simp [zup, ht]) (fun t _ => ⟨rfl, rfl⟩) ?_ C hP1 hD1 hS1 hl kk |> fun h => by
    simpa [zcv, zup] using h
  have hr : (fun j => ((List.replicate N' (none : Option Nat)).getD j none).map (zup ad i q)) = fun _ => none := by
    funext j
    rw [List.getD_eq_getElem?_getD, List.getElem?_replicate]
    by_cases h : j < N' <;> simp [h]
  simp only [zWB, zcc, zEg, List.map_cons, List.map_nil, hr]
  simp [zup]
/-- new int[3][n] -/
theorem zEK.mna {idx i i1 i2 i3 K' : Nat} {k : Int32} (hw : Cond.classLink mi.1 idx "[[I" ∈ zWS) (ha : Cond.arrayClass .int ∈ zWS) (hok : zok B L st [i, i1, i2, i3] = true) (hne : i ≠ i1 ∧ i ≠ i2 ∧ i ≠ i3 ∧ i1 ≠ i2 ∧ i1 ≠ i3 ∧ i2 ≠ i3) (hk : ¬ k < 0) (hKk : k.toNatClampNeg = K') (hb : K' ≤ 1000) (hcs : cs + 4 ≤ mc ∧ ss + (3 + 3 * K') ≤ ms) (hM : ∀ t ∈ [i1, i2, i3], M.1 t = fun _ => 0) (hd : decode mi.2.1 pc = .ok (.multianewarray idx 2, 4))
    (kk : zEK mi mc ms o (pc + 4) L (.inr (.inr i) :: st) (cs + 4) (ss + (3 + 3 * K')) (B ++ [(i, .inr (4, 3, [some i1, some i2, some i3])), (i1, .inr (0, K', [])), (i2, .inr (0, K', [])), (i3, .inr (0, K', []))]) M) : zEK mi mc ms o pc L (.inl k :: .inl 3 :: st) cs ss B M := by
  intro p l e R s m args below meth c H locs D ad aC A ls C hP hD hS hl
  have hK := C.2.2.2.2.2.2.2.2.2.2.2.1
  have hcy : s.vm.findClass (FieldType.array .int).toString = some (aC 0) := (hK.2 0 _ rfl).2
  have hcs1 := Nat.le_trans hcs.1 C.2.2.2.2.2.2.2.2.2.1
  have hcs2 := Nat.le_trans hcs.2 C.2.2.2.2.2.2.2.2.2.2.1
  refine va_mna (X := zWB B ad aC M) (L := []) (f := fun _ => .inr (0, [])) (ty := .int) (N' := 3) (K' := K') (z := (K', .inl (fun _ => 0))) C.1 C.2.1 C.2.2.2.2.1 (C.2.2.2.2.2.2.1 _ hw) C.2.2.2.2.2.2.2.2.2.2.2.2.1.2.1 (C.2.2.2.2.2.2.1 _ ha) hcy hK (by simpa [va_pl] using hP) (by simpa [va_pl] using hD) hS C.2.2.2.2.2.2.2.2.2.2.2.2.2.1 (by decide) hk (by decide) hKk (by decide) (by show K' * 4 ≤ _; omega) (by omega) rfl rfl (by omega) (by omega) (fun c9 => arrV_new c9 K' (.int 0)) hd (fun q r cA H1 hinj hnl hK1 hP1 hD1 hS1 => ?_)
  have hcA := zaC hK 4 rfl hK1
  subst hcA
  have hws : (zWB B ad aC M ++ [(q, .inl (aC 4, 3, .inr (.inr (.inr (.inr (fun i => if i < 3 then some (r i) else none))))))]) ++ va_pl ([] ++ (List.range 3).map r) (vr_up (fun _ => .inr (0, [])) ((List.range 3).map r) (.inl (aC 0, K', .inl (fun _ => 0)))) = zWB B ad aC M ++ [(q, .inl (aC 4, 3, .inr (.inr (.inr (.inr (fun i => if i < 3 then some (r i) else none)))))), (r 0, .inl (aC 0, K', .inl (fun _ => 0))), (r 1, .inl (aC 0, K', .inl (fun _ => 0))), (r 2, .inl (aC 0, K', .inl (fun _ => 0)))] := by
    simp [va_pl, vr_up, List.range, List.range.loop]
  rw [hws] at hP1 hD1
  obtain ⟨n1, n2, n3, n4, n5, n6⟩ := hne
  refine W.eq (g2 := F0 m (pc + 4) ls (([.inr (.inr i)] : List zAV).map (zcv (zup (zup (zup (zup ad i q) i1 (r 0)) i2 (r 1)) i3 (r 2))) ++ st.map (zcv ad))) ?_ ?_
  · simp [zcv, zup, n1, n2, n3]
  refine W.widen (k := cs + 4) (n := ss + (3 + 3 * K')) (by omega) (by omega) ?_
  refine zEK.born (g := [.inr (.inr i)]) (B1 := [(i, .inr (4, 3, [some i1, some i2, some i3])), (i1, .inr (0, K', [])), (i2, .inr (0, K', [])), (i3, .inr (0, K', []))]) (M1 := M) hok (fun t ht => ?_) (fun t _ => ⟨rfl, rfl⟩) ?_ C hP1 hD1 hS1 hl kk
  · simp only [List.mem_cons, List.not_mem_nil, or_false, not_or] at ht
    simp [zup, ht.1, ht.2.1, ht.2.2.1, ht.2.2.2]
  · have hr : (fun j => (([some i1, some i2, some i3] : List (Option Nat)).getD j none).map (zup (zup (zup (zup ad i q) i1 (r 0)) i2 (r 1)) i3 (r 2))) = fun j => if j < 3 then some (r j) else none := by
      funext j
      match j with
      | 0 => simp [zup, n4, n5]
      | 1 => simp [zup, n6]
      | 2 => simp [zup]
      | j + 3 => simp
    simp only [zWB, zcc, zEg, List.map_cons, List.map_nil, hr, hM i1 (by simp), hM i2 (by simp), hM i3 (by simp)]
    simp [zup, n1, n2, n3, n4, n5, n6]
theorem zblank {N : Nat} {fs : List (Option (Option Nat))} {ty : Nat → FieldType} (h : ∀ j, j < N → (fs[j]? = some none ∧ ty j = .int) ∨ (fs[j]? = some (some none) ∧ (ty j).isReference = true)) (ad : Nat → Nat) : ∀ j, j < N → defaultValue (ty j) = vp_V (fs.mapIdx (zfg ad (fun _ => 0))) j := by
  intro j hj
  unfold vp_V
  rw [List.getD_eq_getElem?_getD, List.getElem?_mapIdx]
  rcases h j hj with ⟨h1, h2⟩ | ⟨h1, h2⟩
  · rw [h1, h2]; rfl
  · rw [h1]
    show defaultValue (ty j) = .null
    cases hty : ty j <;> first | rfl | (rw [hty] at h2; cases h2)
/-- new C -/
theorem zEK.new {ci i N idx : Nat} {C0 : String} {T : u_T} {fs : List (Option (Option Nat))} {M1 : zMM} (hc : vwCl[ci]? = some (C0, T, N)) (hin : ∀ w ∈ u_ws C0 T N, w ∈ zWS) (ty0 : Nat → FieldType) (hty : ∀ k, k < N → parseFieldDescriptor (T k).2.2.1 = some (ty0 k)) (hw : Cond.classLink mi.1 idx C0 ∈ zWS ∧ Cond.instantiable C0 N ∈ zWS ∧ Cond.initialized C0 ∈ zWS) (hbl : ∀ j, j < N → (fs[j]? = some none ∧ ty0 j = .int) ∨ (fs[j]? = some (some none) ∧ (ty0 j).isReference = true)) (hok : zok B L st [i] = true) (hcs : cs + 1 ≤ mc ∧ ss + N ≤ ms) (hM0 : M1.1 i = fun _ => 0) (hM1 : ∀ t, t ∉ [i] → M1.1 t = M.1 t ∧ M1.2 t = M.2 t) (hd : decode mi.2.1 pc = .ok (.new idx, 3))
    (hnp : fs.all (fun q => match q with | some (some _) => false | _ => true) = true)
    (kk : zEK mi mc ms o (pc + 3) L (.inr (.inr i) :: st) (cs + 1) (ss + N) (B ++ [(i, .inl (ci, fs))]) M1) : zEK mi mc ms o pc L st cs ss B M := by
  intro p l e R s m args below meth c H locs D ad aC A ls C hP hD hS hl
  have hts := C.2.2.2.2.2.2.1
  refine va_new (fs := fs.mapIdx (zfg ad (fun _ => 0))) C.1 C.2.1 hts hin ty0 hty C.2.2.2.2.1 (hts _ hw.1) (hts _ hw.2.1) (hts _ hw.2.2) C.2.2.2.2.2.2.2.2.2.2.2.1 hP hD hS C.2.2.2.2.2.2.2.2.2.2.2.2.2.1 hc (zblank hbl ad) (Nat.le_trans hcs.1 C.2.2.2.2.2.2.2.2.2.1) (Nat.le_trans hcs.2 C.2.2.2.2.2.2.2.2.2.2.1) hd (fun q H1 hP1 hD1 hS1 => ?_)
  refine zEK.born (g := [.inr (.inr i)]) (ad' := zup ad i q) (B1 := [(i, .inl (ci, fs))]) (M1 := M1) hok (fun t ht => by simp at ht; simp [zup, ht]) hM1 ?_ C hP1 hD1 hS1 hl kk |> fun h => by
    simpa [zcv, zup] using h
  have he : fs.mapIdx (zfg (zup ad i q) (fun _ => 0)) = fs.mapIdx (zfg ad (fun _ => 0)) := by
    apply List.ext_getElem?
    intro j
    rw [List.getElem?_mapIdx, List.getElem?_mapIdx]
    cases hj : fs[j]? with
    | none => rfl
    | some x =>
      have := List.all_eq_true.mp hnp x (List.mem_of_getElem? hj)
      rcases x with _ | _ | t
      · rfl
      · rfl
      · simp at this
  simp only [zWB, zcc, zEg, List.map_cons, List.map_nil, hM0, he]
  simp [zup]
/-- pointers by other numbers -/
def zrn (f : Nat → Nat) (sh : zSG) : zSG := match sh with
  | .inl (ci, fs) => .inl (ci, fs.map (fun o => o.map (fun q => q.map f)))
  | .inr (ty, n, r) => .inr (ty, n, r.map (fun q => q.map f))
def zren (f : Nat → Nat) (B : zBB) : zBB := B.map (fun q => (f q.1, zrn f q.2))
theorem zrn_E {ad ad2 : Nat → Nat} {aC : Nat → ClassId} {f : Nat → Int32} {g : Nat → Int64} {h : Nat → Nat} {G : List Nat} {sh : zSG} (hg : zgo G sh = true) (ha : ∀ t ∈ G, ad (h t) = ad2 t) : zEg ad aC f g (zrn h sh) = zEg ad2 aC f g sh := by
  rcases sh with ⟨ci, fs⟩ | ⟨ty, n, r⟩
  · simp only [zEg, zrn]
    congr 2
    apply List.ext_getElem?
    intro k
    rw [List.getElem?_mapIdx, List.getElem?_mapIdx, List.getElem?_map]
    cases ho : fs[k]? with
    | none => rfl
    | some o =>
      have h1 := List.all_eq_true.mp hg o (List.mem_of_getElem? ho)
      rcases o with _ | _ | t
      · rfl
      · rfl
      · simp only [Option.map_some, zfg, ha t (by simpa using h1)]
  · simp only [zEg, zrn]
    have hr : (fun j => ((r.map (fun q => q.map h)).getD j none).map ad) = fun j => (r.getD j none).map ad2 := by
      funext j
      rw [List.getD_eq_getElem?_getD, List.getD_eq_getElem?_getD, List.getElem?_map]
      cases ho : r[j]? with
      | none => rfl
      | some o =>
        have h1 := List.all_eq_true.mp hg o (List.mem_of_getElem? ho)
        rcases o with _ | t
        · rfl
        · simp only [Option.map_some, Option.getD_some, ha t (by simpa using h1)]
    rw [hr]
/-- a constructor is called on the cell that was made last -/
theorem zEK.call {y : MethodName} {mj : zMI} {mc' ms' idx i ci : Nat} {fs : List (Option (Option Nat))} {Bl : zBB} {Ml Mz M1 : zMM} {Bc : zBB} (f : Nat → Nat) (hC : zKN y mj mc' ms' [(0, .inl (ci, fs))] Mz (Bl, Ml)) (hB : B = Bc ++ [(i, .inl (ci, fs))]) (hf0 : f 0 = i) (hbl : zgo [] (.inl (ci, fs)) = true) (hMz : Mz.1 0 = M.1 i ∧ Mz.2 0 = M.2 i)
    (hok : zok B L st ((zids Bl).tail.map f) = true) (hcl : zcls Bl = true) (hids : (zids Bl).head? = some 0) (hinj : ∀ a ∈ zids Bl, ∀ b ∈ zids Bl, f a = f b → a = b) (hMl : ∀ k ∈ zids Bl, M1.1 (f k) = Ml.1 k ∧ M1.2 (f k) = Ml.2 k) (hMo : ∀ t ∈ zids Bc, M1.1 t = M.1 t ∧ M1.2 t = M.2 t) (hcc : zcls Bc = true)
    (hw : (Cond.methodLink mi.1 idx y ∈ zWS) ∨ (∀ U, zNG U → va_Nw (.methodLinkNest mi.1 idx y "RingedPage") U)) (h1 : Cond.instanceMethod y ∈ zWS ∧ Cond.initialized y.cls ∈ zWS ∧ Cond.code y mj.2.1 mj.2.2.1 mj.2.2.2.1 ∈ zWS) (hyn : y.name = "<init>") (hmr : mj.2.2.2.1 = none)
    (hy : y.cls ≠ "java/lang/invoke/MethodHandle" ∧ y.cls ≠ "java/lang/invoke/VarHandle" ∧ (parseMethodDescriptor y.desc).map (fun d => d.parameters.length) = some 0) (hR : mj.2.2.2.2.1 + 1 ≤ mi.2.2.2.2.1 ∧ 8 + (mj.2.2.1 + 11) + mj.2.2.2.2.2 ≤ mi.2.2.2.2.2) (hcs : cs + mc' ≤ mc ∧ ss + ms' ≤ ms) (h8 : (st.map zcat).sum ≤ 8) (hd : decode mi.2.1 pc = .ok (.invokespecial idx, 3))
    (kk : zEK mi mc ms o (pc + 3) L st (cs + mc') (ss + ms') (Bc ++ zren f Bl) M1) : zEK mi mc ms o pc L (.inr (.inr i) :: st) cs ss B M := by
  intro p l e R s m args below meth c H locs D ad aC A ls C hP hD hS hl
  have hcat : ((st.map (zcv ad)).map fun v => v.category).sum = (st.map zcat).sum := by rw [List.map_map]; congr 1; apply List.map_congr_left; intro v _; exact zcv_cat ad v
  have hts := C.2.2.2.2.2.2.1
  have hNG := C.2.2.2.2.2.2.2.2.2.2.2.2.1
  have hA := C.2.2.2.2.2.2.2.2.2.2.2.2.2.1
  have hK := C.2.2.2.2.2.2.2.2.2.2.2.1
  subst hB
  have hWB : zWB (Bc ++ [(i, .inl (ci, fs))]) ad aC M = zWB Bc ad aC M ++ [zcc ad aC M (i, .inl (ci, fs))] := by
    unfold zWB
    rw [List.map_append]
    rfl
  have hone : zWB [(0, .inl (ci, fs))] (fun k => ad (f k)) aC Mz = [zcc ad aC M (i, .inl (ci, fs))] := by
    simp only [zWB, zcc, List.map_cons, List.map_nil, hf0, hMz.1, hMz.2]
    rw [zEg_congr (ad := ad) (ad' := fun k => ad (f k)) hbl (fun t ht => by cases ht)]
  have hPi : va_at D vwCl (zcc ad aC M (i, .inl (ci, fs))) H := hP (zWB Bc ad aC M).length _ (by rw [hWB, List.getElem?_append_right (Nat.le_refl _), Nat.sub_self]; rfl)
  have hsz := hPi.lt
  have hAi : A (ad i) := hD.2 (zWB Bc ad aC M).length _ (by rw [hWB, List.getElem?_append_right (Nat.le_refl _), Nat.sub_self]; rfl)
  have hPc : va_P D vwCl (zWB Bc ad aC M) H := fun k q hk => hP k q (by rw [hWB, List.getElem?_append_left (List.getElem?_eq_some_iff.mp hk).1]; exact hk)
  have hDc : va_D A (zWB Bc ad aC M) := ⟨fun a b x y hx hy hxy => hD.1 a b x y (by rw [hWB, List.getElem?_append_left (List.getElem?_eq_some_iff.mp hx).1]; exact hx) (by rw [hWB, List.getElem?_append_left (List.getElem?_eq_some_iff.mp hy).1]; exact hy) hxy, fun k q hk => hD.2 k q (by rw [hWB, List.getElem?_append_left (List.getElem?_eq_some_iff.mp hk).1]; exact hk)⟩
  have hci : ∀ (k : Nat) (q : Nat × va_E), (zWB Bc ad aC M)[k]? = some q → q.1 ≠ ad i := by
    intro k q hk e9
    have hl9 := (List.getElem?_eq_some_iff.mp hk).1
    have h9 := hD.1 k (zWB Bc ad aC M).length q (zcc ad aC M (i, .inl (ci, fs))) (by rw [hWB, List.getElem?_append_left hl9]; exact hk) (by rw [hWB, List.getElem?_append_right (Nat.le_refl _), Nat.sub_self]; rfl) e9
    omega
  have hpre : ∀ U : State, U.heap = H → s.WarmedH U.vm → zPreK D (fun k => ad (f k)) aC (fun q => q = ad i ∨ H.size ≤ q) [(0, .inl (ci, fs))] Mz U := by
    intro U hU hW
    refine ⟨?_, ?_, va_K.moved hW.alike hK, hNG.warm hW, fun q hq => Or.inr (by rw [hU] at hq; exact hq)⟩
    · rw [hone, hU]
      intro k q hk
      match k, hk with
      | 0, hk => cases hk; exact hPi
    · rw [hone]
      refine ⟨fun a b x y hx hy _ => ?_, fun k q hk => ?_⟩
      · match a, b, hx, hy with
        | 0, 0, _, _ => rfl
      · match k, hk with
        | 0, hk => cases hk; exact Or.inl rfl
  have hblind : FrameBlind (va_Pc [Value.ref (ad (f 0))] (zPreK D (fun k => ad (f k)) aC (fun q => q = ad i ∨ H.size ≤ q) [(0, .inl (ci, fs))] Mz)) := by
    intro a U g mk q
    obtain ⟨q0, qP, qD, qK, qN, qA⟩ := q
    exact ⟨q0, qP, qD, va_K.moved (u := U) (U := U.calling g mk a) (Vm.Alike.refl U.vm) qK, qN.warm (State.WarmedH.refl U), qA⟩
  have hM := hC l D (fun k => ad (f k)) aC (fun q => q = ad i ∨ H.size ≤ q)
  have hrm : mc' = mc' := rfl
  have hRR : mj.2.2.2.2.1 + 1 ≤ R.frames ∧ 8 + (mj.2.2.1 + 11) + mj.2.2.2.2.2 ≤ R.locals := ⟨Nat.le_trans hR.1 C.2.2.2.2.2.2.2.1, Nat.le_trans hR.2 C.2.2.2.2.2.2.2.2.1⟩
  have hroom : cs + mc' ≤ R.cells ∧ ss + ms' ≤ R.slots := ⟨Nat.le_trans hcs.1 C.2.2.2.2.2.2.2.2.2.1, Nat.le_trans hcs.2 C.2.2.2.2.2.2.2.2.2.2.1⟩
  have hps : PreS s H (va_Pc [Value.ref (ad (f 0))] (zPreK D (fun k => ad (f k)) aC (fun q => q = ad i ∨ H.size ≤ q) [(0, .inl (ci, fs))] Mz)) [Value.ref (ad i)] := ⟨hblind, fun U hU hW => ⟨by rw [hf0], hpre U hU hW⟩⟩
  have hrun : va_Run p l e R s m args below meth c H locs cs ss mc' ms' (F0 m pc ls (.ref (ad i) :: st.map (zcv ad))) (st.map (zcv ad)) (zPK D (fun k => ad (f k)) aC (fun q => q = ad i ∨ H.size ≤ q) (Bl, Ml) (Value.ref (ad i) :: []).toArray) (fun q => q = ad i ∨ H.size ≤ q) := by
    rw [hmr] at hM h1
    rcases hw with hw | hw
    · exact va_runI (As := []) (n := 0) (bytes := mj.2.1) (maxL := mj.2.2.1) ⟨C.1, C.2.1, C.2.2.2.1, C.2.2.2.2.1, hts⟩ hM ⟨callB_of 0 hts (fun w h9 => by
        have h8 : w ∈ zWS := by
          rcases List.mem_cons.mp h9 with rfl | h8
          · exact h1.2.2
          · exact h8
        exact ⟨h8, zWS_good w h8⟩) rfl rfl rfl (hts _ h1.2.1) (hts _ hw) hy hRR, hyn, hts _ h1.1⟩ hps rfl rfl hl.1 rfl (lv_room (by rw [hcat]; exact h8)) hd hroom
    · exact va_runIN (host := "RingedPage") (As := []) (n := 0) (bytes := mj.2.1) (maxL := mj.2.2.1) ⟨C.1, C.2.1, C.2.2.2.1, C.2.2.2.2.1, hts⟩ hM ⟨va_cnB 0 hts (fun w h9 => by
        have h8 : w ∈ zWS := by
          rcases List.mem_cons.mp h9 with rfl | h8
          · exact h1.2.2
          · exact h8
        exact ⟨h8, zWS_good w h8⟩) rfl rfl rfl (hw s hNG) (hts _ h1.2.1) hy hRR, hyn, hts _ h1.1⟩ hps rfl rfl hl.1 rfl (lv_room (by rw [hcat]; exact h8)) hd hroom
  intro T hT X
  obtain ⟨v, st₀, t, T', L9, h0, X', hL9, e1, e2, ⟨hv, hF, ad2, hz, hP2, hD2⟩, go⟩ := hrun T hT X
  cases hv
  rw [va_F, h0] at hF
  -- the addresses behind the call
  obtain ⟨ad', had⟩ : ∃ ad' : Nat → Nat, (∀ k ∈ zids Bl, ad' (f k) = ad2 k) ∧ ∀ q, q ∉ (zids Bl).map f → ad' q = ad q := by
    refine ⟨fun q => match (zids Bl).find? (fun k => f k == q) with
      | some k => ad2 k
      | none => ad q, fun k hk => ?_, fun q hq => ?_⟩
    · show (match (zids Bl).find? (fun k9 => f k9 == f k) with | some k => ad2 k | none => ad (f k)) = ad2 k
      cases hfd : (zids Bl).find? (fun k9 => f k9 == f k) with
      | none => exact absurd (beq_self_eq_true (f k)) (by simpa using List.find?_eq_none.mp hfd k hk)
      | some k2 =>
        have g1 := List.find?_some hfd
        have g2 := List.mem_of_find?_eq_some hfd
        rw [hinj k2 g2 k hk (by simpa using g1)]
    · show (match (zids Bl).find? (fun k9 => f k9 == q) with | some k => ad2 k | none => ad q) = ad q
      cases hfd : (zids Bl).find? (fun k9 => f k9 == q) with
      | none => rfl
      | some k2 =>
        have g1 := List.find?_some hfd
        have g2 := List.mem_of_find?_eq_some hfd
        exact absurd (List.mem_map.mpr ⟨k2, g2, by simpa using g1⟩) hq
  have h0i : ad2 0 = ad i := hz.trans (by show ad (f 0) = ad i; rw [hf0])
  have h0m : (0 : Nat) ∈ zids Bl := List.mem_of_mem_head? hids
  simp only [zok, Bool.and_eq_true, List.all_eq_true] at hok
  obtain ⟨⟨⟨⟨k1, k2⟩, k3⟩, k4⟩, k5⟩ := hok
  have hsame : ∀ q ∈ zids (Bc ++ [(i, Sum.inl (ci, fs))]), ad' q = ad q := by
    intro q hq
    by_cases hqi : q = i
    · rw [hqi, ← hf0, had.1 0 h0m, h0i, hf0]
    · refine had.2 q (fun hm9 => ?_)
      obtain ⟨k9, hk9, rfl⟩ := List.mem_map.mp hm9
      have hne : k9 ≠ 0 := fun e9 => hqi (by rw [e9, hf0])
      have htl : k9 ∈ (zids Bl).tail := by
        cases hzl : zids Bl with
        | nil => rw [hzl] at hids; cases hids
        | cons a r =>
          rw [hzl] at hids hk9
          cases hids
          rcases List.mem_cons.mp hk9 with rfl | h9
          · exact absurd rfl hne
          · exact h9
      have := k5 (f k9) (List.mem_map.mpr ⟨k9, htl, rfl⟩)
      simp [List.contains_iff_mem, hq] at this
  have hsc : ∀ q ∈ zids Bc, ad' q = ad q := fun q hq => hsame q (by unfold zids; rw [List.map_append]; exact List.mem_append_left _ hq)
  have hBc : zWB Bc ad' aC M1 = zWB Bc ad aC M := zWB_congr hcc hsc hMo
  have hBl : zWB (zren f Bl) ad' aC M1 = zWB Bl ad2 aC Ml := by
    unfold zWB zren
    rw [List.map_map]
    apply List.map_congr_left
    intro q hq
    have hqi : q.1 ∈ zids Bl := List.mem_map.mpr ⟨q, hq, rfl⟩
    simp only [Function.comp, zcc]
    rw [had.1 _ hqi, (hMl _ hqi).1, (hMl _ hqi).2, zrn_E (List.all_eq_true.mp hcl q hq) had.1]
  have hall : zWB (Bc ++ zren f Bl) ad' aC M1 = zWB Bc ad aC M ++ zWB Bl ad2 aC Ml := by
    rw [← hBc, ← hBl]
    unfold zWB
    rw [List.map_append]
  have hLL : L.map (zcl ad') = L.map (zcl ad) := zL_congr hsame (List.all_eq_true.mpr k3)
  have hSS : st.map (zcv ad') = st.map (zcv ad) := zst_congr hsame (List.all_eq_true.mpr k4)
  have h00 : ad' 0 = ad 0 := hsame 0 (by simpa [List.contains_iff_mem] using k2)
  have hPc2 : va_P D vwCl (zWB Bc ad aC M) T'.heap := hPc.kept (fun k q hk => by
    rw [e1]
    refine hF.2 q.1 (hPc k q hk).lt (fun h9 => ?_)
    rcases h9 with h9 | h9
    · exact hci k q hk h9
    · exact absurd (hPc k q hk).lt (by omega))
  have hsub : ∀ q : Nat, (q = ad i ∨ H.size ≤ q) → A q := fun q hq => by
    rcases hq with rfl | hq
    · exact hAi
    · exact hA q (Nat.le_trans hS.1 hq)
  have k9 := kk p l e R s m args below meth c T'.heap (locs ++ L9) D ad' aC A ls C (by rw [hall]; exact hPc2.app (by rw [e1]; exact hP2)) (by
      rw [hall]
      refine hDc.app (hD2.weaken (fun k q _ h => hsub q.1 h)) (fun a b x y hx hy hxy => ?_)
      rcases hD2.2 b y hy with h9 | h9
      · exact hci a x hx (hxy.trans h9)
      · exact absurd (hPc a x hx).lt (by rw [hxy]; omega))
    ⟨Nat.le_trans hS.1 (by rw [e1]; exact hF.1), fun q g1 g2 => by
      rw [e1, hF.2 q (Nat.lt_of_lt_of_le g1 hS.1) (fun h9 => g2 (hsub q h9))]
      exact hS.2.1 q g1 g2, fun q hq => by
      rcases List.mem_append.mp hq with h | h
      · exact hS.2.2 q h
      · exact hsub _ (hL9 q h)⟩ (by rw [hLL]; exact hl)
  rw [hSS] at k9
  obtain ⟨t2, a1, oc, b1, b2, ⟨c1, c3, ad3, c4, c5, c6⟩, b4⟩ := k9 T' rfl X'
  exact ⟨t2, go t2 a1, oc, b1, b2, ⟨c1, c3, ad3, c4.trans h00, c5, c6⟩, b4⟩
end ZK2
/-- a constructor out of its walk -/
theorem zKN.of {y : MethodName} {mi : zMI} {mc ms : Nat} {B : zBB} {M : zMM} {o : zBB × zMM} (hy : plainName y.cls = true) (hm : mi.1 = y.cls) (hn : 1 ≤ mi.2.2.1) (hyn : y.name = "<init>") (h : zEK mi mc ms o 0 [(0, .inr (.inr 0))] [] 0 0 B M) : zKN y mi mc ms B M o := by
  intro l D ad aC A
  refine Met.ofW (cc := mi.2.1) (maxL := mi.2.2.1) (ret := mi.2.2.2.1) hy rfl ?_
  intro p e s m args below meth c s₁ Bd hml hv
  obtain ⟨rfl, hP, hD, hK, hN, hA⟩ := hv
  have hts := atoms_spec (ws := (.code y mi.2.1 mi.2.2.1 mi.2.2.2.1 :: zWS : List Cond)) Bd.pre
  have hown : s.vm.findClass mi.1 = some m.cls := by rw [hm]; exact findClass_of_methodNamed Bd.named
  have hin : meth.name = "<init>" := by rw [(name_of_methodNamed Bd.named Bd.method).1]; exact hyn
  have hl := lv_entry ([Value.ref (ad 0)]) (n := mi.2.2.1) hn
  rw [lg_entry_eq]
  exact h p l e _ s m _ below meth c s.heap [] D ad aC A _ ⟨Bd.exec, Bd.bytes, Bd.returns, hml, hown, Bd.notSynchronized, fun w hw => hts w (List.mem_cons_of_mem _ hw), Nat.le_refl _, Nat.le_refl _, Nat.le_refl _, Nat.le_refl _, hK, hN, hA, hin⟩ hP hD va_S.rf hl
