/-- a method of the law's that may make an exception, and catches it -/
def zCN1 (y : MethodName) (mi : zMI) (hh : List (Nat × Nat × Nat × Nat)) (av : List zAV) (M : zMM) (o : Option zAV × zMM) : Prop :=
  ∀ (l : Launch), l.stackTraces = false → ∀ (D : va_G) (ad : Nat → Nat) (aC : Nat → ClassId) (A : Nat → Prop), vx_Met l y (.codeWith y mi.2.1 mi.2.2.1 mi.2.2.2.1 hh :: zWS) { frames := mi.2.2.2.2.1, cells := 1, slots := 6, locals := mi.2.2.2.2.2 } (va_Pc (av.map (zcv ad)) (zPre D ad aC A M)) (zPost D ad aC A o) (fun _ _ _ => False) 1 6 A

theorem wlc13 : Cond.classLink RL 13 zNSE ∈ zWS := zt4 55 rfl rfl
theorem wl_word : Cond.instanceMethod yX6_word ∈ zWS ∧ Cond.selects RX6 yX6_word yX6_word ∈ zWS ∧ Cond.initialized yX6_word.cls ∈ zWS ∧ Cond.code yX6_word iX6_word.2.1 iX6_word.2.2.1 iX6_word.2.2.2.1 ∈ zWS := ⟨zt4 57 rfl rfl, zt4 58 rfl rfl, zt1 1 rfl rfl, zt4 59 rfl rfl⟩
theorem wlk_word : Cond.methodLink RL 7 yX6_word ∈ zWS := zt4 56 rfl rfl
def fL_word (a1 a2 a3 : Int32) (M : zMM) : Option (Int32 × zMM) := (fX6_word a1 a2 a3 M).bind fun q => match q.1 with
  | some r => some (0, wrL q.2 174 0 r.toInt64)
  | none => some (1, q.2)
abbrev iL_word : zMI := (RL, cL_word, 6, some .int, 7, 113)
set_option maxHeartbeats 4000000 in
set_option maxRecDepth 100000 in
theorem kL_word (a1 a2 a3 : Int32) (M : zMM) (q : Int32 × zMM) (h : fL_word a1 a2 a3 M = some q) : zCN1 yL_word iL_word [(0, 12, 15, 13)] [.inr (.inr 157), .inl a1, .inl a2, .inl a3, .inr (.inr 174)] M (some (.inl q.1), q.2) := by
  obtain ⟨r, hr, h⟩ := bind_yes h
  intro l htr D ad aC A
  refine vx_ofWH (cc := cL_word) (maxL := 6) (ret := some .int) (hh := [(0, 12, 15, 13)]) (by decide) rfl ?_
  intro p e s m args below meth c s₁ B hml hv
  obtain ⟨rfl, hP, hD, hK, hS9, hA⟩ := hv
  have hts := atoms_spec (ws := (.codeWith yL_word cL_word 6 (some .int) [(0, 12, 15, 13)] :: zWS : List Cond)) B.pre
  have hts2 := fun (w : Cond) (hw : w ∈ zWS) => hts w (List.mem_cons_of_mem _ hw)
  have htab := vx_table (x := yL_word) B (hts _ List.mem_cons_self)
  have hown : s.vm.findClass RL = some m.cls := findClass_of_methodNamed B.named
  have hlocks := B.notSynchronized
  have hx := B.exec
  have hb := B.bytes
  have hret := B.returns
  have hS : va_S A s.heap s.heap [] := va_S.rf
  have hl := lv_entry ([.ref (ad 157), .int a1, .int a2, .int a3, .ref (ad 174)]) (n := 6) (Nat.le_of_ble_eq_true rfl)
  have hent := lg_entry_eq m ([.ref (ad 157), .int a1, .int a2, .int a3, .ref (ad 174)]) 6
  refine W.eq hent ?_
  generalize (lg_sl ([.ref (ad 157), .int a1, .int a2, .int a3, .ref (ad 174)]) ++ List.replicate (6 - (lg_sl ([.ref (ad 157), .int a1, .int a2, .int a3, .ref (ad 174)])).length) Slot.unset).toArray = ls at hl ⊢
  have hl : lv_has ls 6 [(0, .ref (ad 157)), (1, .int a1), (2, .int a2), (3, .int a3), (4, .ref (ad 174))] := hl
  refine lv_aload hx hb dL_word_0 (lv_at hl 4 rfl) ?_
  refine lv_iconst (v := 0) hx hb dL_word_2 rfl ?_
  refine lv_aload_n hx hb dL_word_3 rfl (lv_at hl 0 rfl) ?_
  refine lv_iload_n hx hb dL_word_4 rfl (lv_at hl 1 rfl) ?_
  refine lv_iload_n hx hb dL_word_5 rfl (lv_at hl 2 rfl) ?_
  refine lv_iload_n hx hb dL_word_6 rfl (lv_at hl 3 rfl) ?_
  have he := zW_get ad aC M (i := 157) (by decide)
  have hrun := vx_runV (l := l) (p := p) (e := e) (below := below) (meth := meth) (locs := []) (cells := 0) (slots := 0) (R := (headSpec (.codeWith yL_word cL_word 6 (some .int) [(0, 12, 15, 13)] :: zWS) { frames := 7, cells := 1, slots := 6, locals := 113 }).room) (As := [.int a1, .int a2, .int a3]) (rest := [.int 0, .ref (ad 174)]) (n := 3) (g := F0 m 7 ls (([.int a1, .int a2, .int a3] : List Value).reverse ++ [.ref (ad 157), .int 0, .ref (ad 174)])) ⟨hx, hb, hml, hown, hts2⟩ (kX6_word a1 a2 a3 M r hr l htr D ad aC A) ⟨callB_of 3 hts2 (zgood wl_word.2.2.2) rfl rfl rfl (hts2 _ wl_word.2.2.1) (hts2 _ wlk_word) hy_X6_word ⟨Nat.le_of_ble_eq_true rfl, Nat.le_of_ble_eq_true rfl⟩, hts2 _ wl_word.1, hts2 _ wl_word.2.1⟩ ⟨zPre.blind, va_recv hK hP rfl he, fun U hU hW => ⟨rfl, by rw [hU]; exact hP, hD, va_K.moved hW.alike hK, hS9.warm hW (fun _ _ _ => by rw [hU]), fun q9 hq9 => hA q9 (by rw [hU] at hq9; exact hq9)⟩⟩ rfl rfl hl.1 rfl (lv_room (Nat.le_of_ble_eq_true rfl)) dL_word_7 ⟨Nat.le_of_ble_eq_true rfl, Nat.le_of_ble_eq_true rfl⟩
  intro T hT X
  rcases hrun T hT X with ⟨v, st₀, t, T', L9, h0, X', hL9, e1, e2, ⟨v9, hv1, hv2, hP1, hF⟩, go⟩ | ⟨q9, st₀, t, T', L9, E, ce, h0, X', hL9, e1, e2, ⟨hn9, rfl, hP1, hF⟩, hce, hcv, hcl, go⟩
  · -- it answers
    cases hr1 : r.1 with
    | none => rw [hr1] at hv1; cases hv1
    | some r1 =>
      rw [hr1] at hv1 h
      have h := Option.some.inj h
      subst h
      cases hv1
      cases hv2
      rw [va_F, h0] at hF
      have hP1 : va_P D vwCl (zW ad aC r.2) T'.heap := by rw [e1]; exact hP1
      have hD1 : va_D A (zW ad aC r.2) := zD_any hD
      have hS1 : va_S A s.heap T'.heap ([] ++ L9) := ⟨by rw [e1]; exact hF.1, fun q1 g1 g2 => by rw [e1]; exact hF.2 q1 g1 g2, fun q1 hq1 => hL9 q1 (by simpa using hq1)⟩
      have he2 := zW_get ad aC r.2 (i := 174) (by decide)
      have hset : (zW ad aC r.2).set 174 (ad 174, .inl (aC 3, 1, .inr (.inl (vp_updL (r.2.2 174) 0 (r1.toInt64))))) = zW ad aC (wrL r.2 174 0 (r1.toInt64)) := by
        refine zW_set (by decide) ?_ wrL_ne
        rw [show zshp 174 = .inr (3, 1, 0, 0) from rfl, wrL_at]
        rfl
      have key : W p l e (headSpec (.codeWith yL_word cL_word 6 (some .int) [(0, 12, 15, 13)] :: zWS) { frames := 7, cells := 1, slots := 6, locals := 113 }).room s m ((([.inr (.inr 157), .inl a1, .inl a2, .inl a3, .inr (.inr 174)] : List zAV).map (zcv ad)).toArray) below meth c T'.heap ([] ++ L9) (0 + 1) (0 + 6) (vx_MQ below (zPost D ad aC A (some (.inl 0), wrL r.2 174 0 (r1.toInt64))) (fun _ _ _ => False) ((([.inr (.inr 157), .inl a1, .inl a2, .inl a3, .inr (.inr 174)] : List zAV).map (zcv ad)).toArray) s 1 6 A) (F0 m 10 ls [.int r1, .int 0, .ref (ad 174)]) := by
        refine lv_i2l (v := r1.toInt64) hx hb dL_word_10 rfl ?_
        refine va_last hx hb hK hP1 hD1 hS1 174 3 he2 rfl (i := 0) (show ¬ oob 0 1 by decide) dL_word_11 (fun Hn locs2 hP2 hD2 hS2 => ?_)
        rw [show Int32.toNatClampNeg 0 = 0 from rfl, hset] at hP2 hD2
        refine lv_goto (tgt := 19) hx hb dL_word_12 (by decide) ?_
        refine lv_iconst (v := 0) hx hb dL_word_19 rfl ?_
        exact vx_ret (W.iret (v := 0) hx hb hret (fun t9 ht9 hW9 => ⟨rfl, by rw [ht9]; exact hP2, hS2.F ht9⟩) hS2.2.2 dL_word_20 hlocks)
      obtain ⟨t2, a1, b1⟩ := key T' rfl X'
      exact ⟨t2, go t2 a1, b1⟩
  · -- it throws
    cases hr1 : r.1 with
    | some r1 => rw [hr1] at hn9; cases hn9
    | none =>
      rw [hr1] at h
      have h := Option.some.inj h
      subst h
      rw [va_F, h0] at hF
      have hP1 : va_P D vwCl (zW ad aC r.2) T'.heap := by rw [e1]; exact hP1
      have hS1 : va_S A s.heap T'.heap ([] ++ L9) := ⟨by rw [e1]; exact hF.1, fun q1 g1 g2 => by rw [e1]; exact hF.2 q1 g1 g2, fun q1 hq1 => hL9 q1 (by simpa using hq1)⟩
      have key : vx_W p l e (headSpec (.codeWith yL_word cL_word 6 (some .int) [(0, 12, 15, 13)] :: zWS) { frames := 7, cells := 1, slots := 6, locals := 113 }).room s m ((([.inr (.inr 157), .inl a1, .inl a2, .inl a3, .inr (.inr 174)] : List zAV).map (zcv ad)).toArray) below meth c T'.heap ([] ++ L9) (0 + 1) (0 + 6) (vx_MQ below (zPost D ad aC A (some (.inl 1), r.2)) (fun _ _ _ => False) ((([.inr (.inr 157), .inl a1, .inl a2, .inl a3, .inr (.inr 174)] : List zAV).map (zcv ad)).toArray) s 1 6 A) (F0 m 7 ls [.int 0, .ref (ad 174)]) q9 := by
        refine vx_catch (own := RL) (name := zNSE) (E := zNSE) (ce := ce) hown [] { startPc := 0, endPc := 12, handlerPc := 15, catchType := 13 } [] (htab.trans rfl) (fun z hz => by cases hz) (by decide) (by decide) (hts2 _ wlc13) (hS9.2.2.2.1.2.2.1.use rfl) (by rw [e1]; exact hce) hcv hcl ?_
        refine lv_astore (lv' := _) hx hb dL_word_15 hl (by decide) rfl (fun ls hl => ?_)
        refine lv_iconst (v := 1) hx hb dL_word_17 rfl ?_
        exact vx_ret (W.iret (v := 1) hx hb hret (fun t9 ht9 hW9 => ⟨rfl, by rw [ht9]; exact hP1, hS1.F ht9⟩) hS1.2.2 dL_word_18 hlocks)
      obtain ⟨t2, a1, b1⟩ := key T' rfl X'
      exact ⟨t2, go.trans a1, b1⟩

theorem wl_tie : Cond.instanceMethod yX6_tie ∈ zWS ∧ Cond.selects RX6 yX6_tie yX6_tie ∈ zWS ∧ Cond.initialized yX6_tie.cls ∈ zWS ∧ Cond.code yX6_tie iX6_tie.2.1 iX6_tie.2.2.1 iX6_tie.2.2.2.1 ∈ zWS := ⟨zt4 125 rfl rfl, zt4 126 rfl rfl, zt1 1 rfl rfl, zt4 127 rfl rfl⟩
theorem wlk_tie : Cond.methodLink RL 15 yX6_tie ∈ zWS := zt4 124 rfl rfl
def fL_tie (a1 : Int32) (M : zMM) : Option (Int32 × zMM) := (fX6_tie a1 M).bind fun q => match q.1 with
  | some r => some (0, wrL q.2 174 0 r.toInt64)
  | none => some (1, q.2)
abbrev iL_tie : zMI := (RL, cL_tie, 4, some .int, 7, 122)
set_option maxHeartbeats 4000000 in
set_option maxRecDepth 100000 in
theorem kL_tie (a1 : Int32) (M : zMM) (q : Int32 × zMM) (h : fL_tie a1 M = some q) : zCN1 yL_tie iL_tie [(0, 9, 12, 13)] [.inr (.inr 157), .inl a1, .inr (.inr 174)] M (some (.inl q.1), q.2) := by
  obtain ⟨r, hr, h⟩ := bind_yes h
  intro l htr D ad aC A
  refine vx_ofWH (cc := cL_tie) (maxL := 4) (ret := some .int) (hh := [(0, 9, 12, 13)]) (by decide) rfl ?_
  intro p e s m args below meth c s₁ B hml hv
  obtain ⟨rfl, hP, hD, hK, hS9, hA⟩ := hv
  have hts := atoms_spec (ws := (.codeWith yL_tie cL_tie 4 (some .int) [(0, 9, 12, 13)] :: zWS : List Cond)) B.pre
  have hts2 := fun (w : Cond) (hw : w ∈ zWS) => hts w (List.mem_cons_of_mem _ hw)
  have htab := vx_table (x := yL_tie) B (hts _ List.mem_cons_self)
  have hown : s.vm.findClass RL = some m.cls := findClass_of_methodNamed B.named
  have hlocks := B.notSynchronized
  have hx := B.exec
  have hb := B.bytes
  have hret := B.returns
  have hS : va_S A s.heap s.heap [] := va_S.rf
  have hl := lv_entry ([.ref (ad 157), .int a1, .ref (ad 174)]) (n := 4) (Nat.le_of_ble_eq_true rfl)
  have hent := lg_entry_eq m ([.ref (ad 157), .int a1, .ref (ad 174)]) 4
  refine W.eq hent ?_
  generalize (lg_sl ([.ref (ad 157), .int a1, .ref (ad 174)]) ++ List.replicate (4 - (lg_sl ([.ref (ad 157), .int a1, .ref (ad 174)])).length) Slot.unset).toArray = ls at hl ⊢
  have hl : lv_has ls 4 [(0, .ref (ad 157)), (1, .int a1), (2, .ref (ad 174))] := hl
  refine lv_aload_n hx hb dL_tie_0 rfl (lv_at hl 2 rfl) ?_
  refine lv_iconst (v := 0) hx hb dL_tie_1 rfl ?_
  refine lv_aload_n hx hb dL_tie_2 rfl (lv_at hl 0 rfl) ?_
  refine lv_iload_n hx hb dL_tie_3 rfl (lv_at hl 1 rfl) ?_
  have he := zW_get ad aC M (i := 157) (by decide)
  have hrun := vx_runV (l := l) (p := p) (e := e) (below := below) (meth := meth) (locs := []) (cells := 0) (slots := 0) (R := (headSpec (.codeWith yL_tie cL_tie 4 (some .int) [(0, 9, 12, 13)] :: zWS) { frames := 7, cells := 1, slots := 6, locals := 122 }).room) (As := [.int a1]) (rest := [.int 0, .ref (ad 174)]) (n := 1) (g := F0 m 4 ls (([.int a1] : List Value).reverse ++ [.ref (ad 157), .int 0, .ref (ad 174)])) ⟨hx, hb, hml, hown, hts2⟩ (kX6_tie a1 M r hr l htr D ad aC A) ⟨callB_of 1 hts2 (zgood wl_tie.2.2.2) rfl rfl rfl (hts2 _ wl_tie.2.2.1) (hts2 _ wlk_tie) hy_X6_tie ⟨Nat.le_of_ble_eq_true rfl, Nat.le_of_ble_eq_true rfl⟩, hts2 _ wl_tie.1, hts2 _ wl_tie.2.1⟩ ⟨zPre.blind, va_recv hK hP rfl he, fun U hU hW => ⟨rfl, by rw [hU]; exact hP, hD, va_K.moved hW.alike hK, hS9.warm hW (fun _ _ _ => by rw [hU]), fun q9 hq9 => hA q9 (by rw [hU] at hq9; exact hq9)⟩⟩ rfl rfl hl.1 rfl (lv_room (Nat.le_of_ble_eq_true rfl)) dL_tie_4 ⟨Nat.le_of_ble_eq_true rfl, Nat.le_of_ble_eq_true rfl⟩
  intro T hT X
  rcases hrun T hT X with ⟨v, st₀, t, T', L9, h0, X', hL9, e1, e2, ⟨v9, hv1, hv2, hP1, hF⟩, go⟩ | ⟨q9, st₀, t, T', L9, E, ce, h0, X', hL9, e1, e2, ⟨hn9, rfl, hP1, hF⟩, hce, hcv, hcl, go⟩
  · -- it answers
    cases hr1 : r.1 with
    | none => rw [hr1] at hv1; cases hv1
    | some r1 =>
      rw [hr1] at hv1 h
      have h := Option.some.inj h
      subst h
      cases hv1
      cases hv2
      rw [va_F, h0] at hF
      have hP1 : va_P D vwCl (zW ad aC r.2) T'.heap := by rw [e1]; exact hP1
      have hD1 : va_D A (zW ad aC r.2) := zD_any hD
      have hS1 : va_S A s.heap T'.heap ([] ++ L9) := ⟨by rw [e1]; exact hF.1, fun q1 g1 g2 => by rw [e1]; exact hF.2 q1 g1 g2, fun q1 hq1 => hL9 q1 (by simpa using hq1)⟩
      have he2 := zW_get ad aC r.2 (i := 174) (by decide)
      have hset : (zW ad aC r.2).set 174 (ad 174, .inl (aC 3, 1, .inr (.inl (vp_updL (r.2.2 174) 0 (r1.toInt64))))) = zW ad aC (wrL r.2 174 0 (r1.toInt64)) := by
        refine zW_set (by decide) ?_ wrL_ne
        rw [show zshp 174 = .inr (3, 1, 0, 0) from rfl, wrL_at]
        rfl
      have key : W p l e (headSpec (.codeWith yL_tie cL_tie 4 (some .int) [(0, 9, 12, 13)] :: zWS) { frames := 7, cells := 1, slots := 6, locals := 122 }).room s m ((([.inr (.inr 157), .inl a1, .inr (.inr 174)] : List zAV).map (zcv ad)).toArray) below meth c T'.heap ([] ++ L9) (0 + 1) (0 + 6) (vx_MQ below (zPost D ad aC A (some (.inl 0), wrL r.2 174 0 (r1.toInt64))) (fun _ _ _ => False) ((([.inr (.inr 157), .inl a1, .inr (.inr 174)] : List zAV).map (zcv ad)).toArray) s 1 6 A) (F0 m 7 ls [.int r1, .int 0, .ref (ad 174)]) := by
        refine lv_i2l (v := r1.toInt64) hx hb dL_tie_7 rfl ?_
        refine va_last hx hb hK hP1 hD1 hS1 174 3 he2 rfl (i := 0) (show ¬ oob 0 1 by decide) dL_tie_8 (fun Hn locs2 hP2 hD2 hS2 => ?_)
        rw [show Int32.toNatClampNeg 0 = 0 from rfl, hset] at hP2 hD2
        refine lv_goto (tgt := 15) hx hb dL_tie_9 (by decide) ?_
        refine lv_iconst (v := 0) hx hb dL_tie_15 rfl ?_
        exact vx_ret (W.iret (v := 0) hx hb hret (fun t9 ht9 hW9 => ⟨rfl, by rw [ht9]; exact hP2, hS2.F ht9⟩) hS2.2.2 dL_tie_16 hlocks)
      obtain ⟨t2, a1, b1⟩ := key T' rfl X'
      exact ⟨t2, go t2 a1, b1⟩
  · -- it throws
    cases hr1 : r.1 with
    | some r1 => rw [hr1] at hn9; cases hn9
    | none =>
      rw [hr1] at h
      have h := Option.some.inj h
      subst h
      rw [va_F, h0] at hF
      have hP1 : va_P D vwCl (zW ad aC r.2) T'.heap := by rw [e1]; exact hP1
      have hS1 : va_S A s.heap T'.heap ([] ++ L9) := ⟨by rw [e1]; exact hF.1, fun q1 g1 g2 => by rw [e1]; exact hF.2 q1 g1 g2, fun q1 hq1 => hL9 q1 (by simpa using hq1)⟩
      have key : vx_W p l e (headSpec (.codeWith yL_tie cL_tie 4 (some .int) [(0, 9, 12, 13)] :: zWS) { frames := 7, cells := 1, slots := 6, locals := 122 }).room s m ((([.inr (.inr 157), .inl a1, .inr (.inr 174)] : List zAV).map (zcv ad)).toArray) below meth c T'.heap ([] ++ L9) (0 + 1) (0 + 6) (vx_MQ below (zPost D ad aC A (some (.inl 1), r.2)) (fun _ _ _ => False) ((([.inr (.inr 157), .inl a1, .inr (.inr 174)] : List zAV).map (zcv ad)).toArray) s 1 6 A) (F0 m 4 ls [.int 0, .ref (ad 174)]) q9 := by
        refine vx_catch (own := RL) (name := zNSE) (E := zNSE) (ce := ce) hown [] { startPc := 0, endPc := 9, handlerPc := 12, catchType := 13 } [] (htab.trans rfl) (fun z hz => by cases hz) (by decide) (by decide) (hts2 _ wlc13) (hS9.2.2.2.1.2.2.1.use rfl) (by rw [e1]; exact hce) hcv hcl ?_
        refine lv_astore_n (lv' := _) hx hb dL_tie_12 rfl hl (by decide) rfl (fun ls hl => ?_)
        refine lv_iconst (v := 1) hx hb dL_tie_13 rfl ?_
        exact vx_ret (W.iret (v := 1) hx hb hret (fun t9 ht9 hW9 => ⟨rfl, by rw [ht9]; exact hP1, hS1.F ht9⟩) hS1.2.2 dL_tie_14 hlocks)
      obtain ⟨t2, a1, b1⟩ := key T' rfl X'
      exact ⟨t2, go.trans a1, b1⟩

theorem wl_row : Cond.instanceMethod yX6_row ∈ zWS ∧ Cond.selects RX6 yX6_row yX6_row ∈ zWS ∧ Cond.initialized yX6_row.cls ∈ zWS ∧ Cond.code yX6_row iX6_row.2.1 iX6_row.2.2.1 iX6_row.2.2.2.1 ∈ zWS := ⟨zt4 132 rfl rfl, zt4 133 rfl rfl, zt1 1 rfl rfl, zt4 134 rfl rfl⟩
theorem wlk_row : Cond.methodLink RL 19 yX6_row ∈ zWS := zt4 131 rfl rfl
def fL_row (a1 : Int32) (M : zMM) : Option (Int32 × zMM) := (fX6_row a1 M).bind fun q => match q.1 with
  | some r => some (0, wrL q.2 174 0 r)
  | none => some (1, q.2)
abbrev iL_row : zMI := (RL, cL_row, 4, some .int, 7, 110)
set_option maxHeartbeats 4000000 in
set_option maxRecDepth 100000 in
theorem kL_row (a1 : Int32) (M : zMM) (q : Int32 × zMM) (h : fL_row a1 M = some q) : zCN1 yL_row iL_row [(0, 8, 11, 13)] [.inr (.inr 157), .inl a1, .inr (.inr 174)] M (some (.inl q.1), q.2) := by
  obtain ⟨r, hr, h⟩ := bind_yes h
  intro l htr D ad aC A
  refine vx_ofWH (cc := cL_row) (maxL := 4) (ret := some .int) (hh := [(0, 8, 11, 13)]) (by decide) rfl ?_
  intro p e s m args below meth c s₁ B hml hv
  obtain ⟨rfl, hP, hD, hK, hS9, hA⟩ := hv
  have hts := atoms_spec (ws := (.codeWith yL_row cL_row 4 (some .int) [(0, 8, 11, 13)] :: zWS : List Cond)) B.pre
  have hts2 := fun (w : Cond) (hw : w ∈ zWS) => hts w (List.mem_cons_of_mem _ hw)
  have htab := vx_table (x := yL_row) B (hts _ List.mem_cons_self)
  have hown : s.vm.findClass RL = some m.cls := findClass_of_methodNamed B.named
  have hlocks := B.notSynchronized
  have hx := B.exec
  have hb := B.bytes
  have hret := B.returns
  have hS : va_S A s.heap s.heap [] := va_S.rf
  have hl := lv_entry ([.ref (ad 157), .int a1, .ref (ad 174)]) (n := 4) (Nat.le_of_ble_eq_true rfl)
  have hent := lg_entry_eq m ([.ref (ad 157), .int a1, .ref (ad 174)]) 4
  refine W.eq hent ?_
  generalize (lg_sl ([.ref (ad 157), .int a1, .ref (ad 174)]) ++ List.replicate (4 - (lg_sl ([.ref (ad 157), .int a1, .ref (ad 174)])).length) Slot.unset).toArray = ls at hl ⊢
  have hl : lv_has ls 4 [(0, .ref (ad 157)), (1, .int a1), (2, .ref (ad 174))] := hl
  refine lv_aload_n hx hb dL_row_0 rfl (lv_at hl 2 rfl) ?_
  refine lv_iconst (v := 0) hx hb dL_row_1 rfl ?_
  refine lv_aload_n hx hb dL_row_2 rfl (lv_at hl 0 rfl) ?_
  refine lv_iload_n hx hb dL_row_3 rfl (lv_at hl 1 rfl) ?_
  have he := zW_get ad aC M (i := 157) (by decide)
  have hrun := vx_runV (l := l) (p := p) (e := e) (below := below) (meth := meth) (locs := []) (cells := 0) (slots := 0) (R := (headSpec (.codeWith yL_row cL_row 4 (some .int) [(0, 8, 11, 13)] :: zWS) { frames := 7, cells := 1, slots := 6, locals := 110 }).room) (As := [.int a1]) (rest := [.int 0, .ref (ad 174)]) (n := 1) (g := F0 m 4 ls (([.int a1] : List Value).reverse ++ [.ref (ad 157), .int 0, .ref (ad 174)])) ⟨hx, hb, hml, hown, hts2⟩ (kX6_row a1 M r hr l htr D ad aC A) ⟨callB_of 1 hts2 (zgood wl_row.2.2.2) rfl rfl rfl (hts2 _ wl_row.2.2.1) (hts2 _ wlk_row) hy_X6_row ⟨Nat.le_of_ble_eq_true rfl, Nat.le_of_ble_eq_true rfl⟩, hts2 _ wl_row.1, hts2 _ wl_row.2.1⟩ ⟨zPre.blind, va_recv hK hP rfl he, fun U hU hW => ⟨rfl, by rw [hU]; exact hP, hD, va_K.moved hW.alike hK, hS9.warm hW (fun _ _ _ => by rw [hU]), fun q9 hq9 => hA q9 (by rw [hU] at hq9; exact hq9)⟩⟩ rfl rfl hl.1 rfl (lv_room (Nat.le_of_ble_eq_true rfl)) dL_row_4 ⟨Nat.le_of_ble_eq_true rfl, Nat.le_of_ble_eq_true rfl⟩
  intro T hT X
  rcases hrun T hT X with ⟨v, st₀, t, T', L9, h0, X', hL9, e1, e2, ⟨v9, hv1, hv2, hP1, hF⟩, go⟩ | ⟨q9, st₀, t, T', L9, E, ce, h0, X', hL9, e1, e2, ⟨hn9, rfl, hP1, hF⟩, hce, hcv, hcl, go⟩
  · -- it answers
    cases hr1 : r.1 with
    | none => rw [hr1] at hv1; cases hv1
    | some r1 =>
      rw [hr1] at hv1 h
      have h := Option.some.inj h
      subst h
      cases hv1
      cases hv2
      rw [va_F, h0] at hF
      have hP1 : va_P D vwCl (zW ad aC r.2) T'.heap := by rw [e1]; exact hP1
      have hD1 : va_D A (zW ad aC r.2) := zD_any hD
      have hS1 : va_S A s.heap T'.heap ([] ++ L9) := ⟨by rw [e1]; exact hF.1, fun q1 g1 g2 => by rw [e1]; exact hF.2 q1 g1 g2, fun q1 hq1 => hL9 q1 (by simpa using hq1)⟩
      have he2 := zW_get ad aC r.2 (i := 174) (by decide)
      have hset : (zW ad aC r.2).set 174 (ad 174, .inl (aC 3, 1, .inr (.inl (vp_updL (r.2.2 174) 0 (r1))))) = zW ad aC (wrL r.2 174 0 (r1)) := by
        refine zW_set (by decide) ?_ wrL_ne
        rw [show zshp 174 = .inr (3, 1, 0, 0) from rfl, wrL_at]
        rfl
      have key : W p l e (headSpec (.codeWith yL_row cL_row 4 (some .int) [(0, 8, 11, 13)] :: zWS) { frames := 7, cells := 1, slots := 6, locals := 110 }).room s m ((([.inr (.inr 157), .inl a1, .inr (.inr 174)] : List zAV).map (zcv ad)).toArray) below meth c T'.heap ([] ++ L9) (0 + 1) (0 + 6) (vx_MQ below (zPost D ad aC A (some (.inl 0), wrL r.2 174 0 (r1))) (fun _ _ _ => False) ((([.inr (.inr 157), .inl a1, .inr (.inr 174)] : List zAV).map (zcv ad)).toArray) s 1 6 A) (F0 m 7 ls [.long r1, .int 0, .ref (ad 174)]) := by
        refine va_last hx hb hK hP1 hD1 hS1 174 3 he2 rfl (i := 0) (show ¬ oob 0 1 by decide) dL_row_7 (fun Hn locs2 hP2 hD2 hS2 => ?_)
        rw [show Int32.toNatClampNeg 0 = 0 from rfl, hset] at hP2 hD2
        refine lv_goto (tgt := 14) hx hb dL_row_8 (by decide) ?_
        refine lv_iconst (v := 0) hx hb dL_row_14 rfl ?_
        exact vx_ret (W.iret (v := 0) hx hb hret (fun t9 ht9 hW9 => ⟨rfl, by rw [ht9]; exact hP2, hS2.F ht9⟩) hS2.2.2 dL_row_15 hlocks)
      obtain ⟨t2, a1, b1⟩ := key T' rfl X'
      exact ⟨t2, go t2 a1, b1⟩
  · -- it throws
    cases hr1 : r.1 with
    | some r1 => rw [hr1] at hn9; cases hn9
    | none =>
      rw [hr1] at h
      have h := Option.some.inj h
      subst h
      rw [va_F, h0] at hF
      have hP1 : va_P D vwCl (zW ad aC r.2) T'.heap := by rw [e1]; exact hP1
      have hS1 : va_S A s.heap T'.heap ([] ++ L9) := ⟨by rw [e1]; exact hF.1, fun q1 g1 g2 => by rw [e1]; exact hF.2 q1 g1 g2, fun q1 hq1 => hL9 q1 (by simpa using hq1)⟩
      have key : vx_W p l e (headSpec (.codeWith yL_row cL_row 4 (some .int) [(0, 8, 11, 13)] :: zWS) { frames := 7, cells := 1, slots := 6, locals := 110 }).room s m ((([.inr (.inr 157), .inl a1, .inr (.inr 174)] : List zAV).map (zcv ad)).toArray) below meth c T'.heap ([] ++ L9) (0 + 1) (0 + 6) (vx_MQ below (zPost D ad aC A (some (.inl 1), r.2)) (fun _ _ _ => False) ((([.inr (.inr 157), .inl a1, .inr (.inr 174)] : List zAV).map (zcv ad)).toArray) s 1 6 A) (F0 m 4 ls [.int 0, .ref (ad 174)]) q9 := by
        refine vx_catch (own := RL) (name := zNSE) (E := zNSE) (ce := ce) hown [] { startPc := 0, endPc := 8, handlerPc := 11, catchType := 13 } [] (htab.trans rfl) (fun z hz => by cases hz) (by decide) (by decide) (hts2 _ wlc13) (hS9.2.2.2.1.2.2.1.use rfl) (by rw [e1]; exact hce) hcv hcl ?_
        refine lv_astore_n (lv' := _) hx hb dL_row_11 rfl hl (by decide) rfl (fun ls hl => ?_)
        refine lv_iconst (v := 1) hx hb dL_row_12 rfl ?_
        exact vx_ret (W.iret (v := 1) hx hb hret (fun t9 ht9 hW9 => ⟨rfl, by rw [ht9]; exact hP1, hS1.F ht9⟩) hS1.2.2 dL_row_13 hlocks)
      obtain ⟨t2, a1, b1⟩ := key T' rfl X'
      exact ⟨t2, go.trans a1, b1⟩

