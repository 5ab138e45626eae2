section ZL1
variable {mi : zMI} {cs ss : Nat} {Z : zZ} {pc : Nat} {L : List (Nat × zAV)} {st : List zAV} {M : zMM}
/-- the law calls a method of its own that may make an exception -/
theorem zEV.callS1 {y : MethodName} {mj : zMI} {hh : List (Nat × Nat × Nat × Nat)} {idx n : Nat} {As stk : List zAV} {r : Int32} {M1 : zMM} (hC : zCN1 y mj hh As M (some (.inl r), M1)) (hm : mi.1 = RL) (hpos : 1 ≤ cs ∧ 6 ≤ ss) (hbd : cs + 1 ≤ 601024 ∧ ss + 6 ≤ 7293034)
    (hw : Cond.methodLink mi.1 idx y ∈ zWS) (h1 : Cond.static y ∈ zWS ∧ Cond.initialized y.cls ∈ zWS ∧ Cond.codeWith y mj.2.1 mj.2.2.1 mj.2.2.2.1 hh ∈ zWS)
    (hy : y.cls ≠ "java/lang/invoke/MethodHandle" ∧ y.cls ≠ "java/lang/invoke/VarHandle" ∧ (parseMethodDescriptor y.desc).map (fun d => d.parameters.length) = some n) (hn : As.length = n) (hR : mj.2.2.2.2.1 + 1 ≤ mi.2.2.2.2.1 ∧ 8 + (mj.2.2.1 + 11) + mj.2.2.2.2.2 ≤ mi.2.2.2.2.2)
    (hst : stk = As.reverse ++ st) (h8 : (st.map zcat).sum ≤ 8) (hd : decode mi.2.1 pc = .ok (.invokestatic idx, 3)) (kk : zEV mi (cs + 1) (ss + 6) Z (pc + 3) L (.inl r :: st) M1) : zEV mi cs ss Z pc L stk M := by
  intro p l e R s m args below meth c H locs D ad aC A ls C hP hD hS hl
  have hcat : ((st.map (zcv ad)).map fun v => v.category).sum = (st.map zcat).sum := by rw [List.map_map]; congr 1; apply List.map_congr_left; intro v _; exact zcv_cat ad v
  subst hst
  have hts := C.2.2.2.2.2.2.1
  have hR17 := C.2.2.2.2.2.2.2.2.2.2.2.2.2.2.2.2 hm
  have hgood : GoodIn zWS (va_wsS mi.1 idx y (.codeWith y mj.2.1 mj.2.2.1 mj.2.2.2.1 hh :: zWS)) := by
    intro w hw9
    have h9 : w ∈ zWS := by
      unfold va_wsS at hw9
      rcases List.mem_append.mp hw9 with h9 | h9
      · simp only [List.mem_cons, List.not_mem_nil, or_false] at h9
        rcases h9 with rfl | rfl | rfl
        · exact hw
        · exact h1.1
        · exact h1.2.1
      · rcases List.mem_cons.mp h9 with rfl | h9
        · exact h1.2.2
        · exact h9
    exact ⟨h9, zWS_good w h9⟩
  have hrun := vx_runSX (l := l) (p := p) (e := e) (R := R) (below := below) (meth := meth) (H := H) (locs := locs) (cells := cs - 1) (slots := ss - 6) (As := As.map (zcv ad)) (rest := st.map (zcv ad)) (n := n) (g := F0 m pc ls ((As.reverse ++ st).map (zcv ad))) ⟨C.1, C.2.1, C.2.2.2.1, C.2.2.2.2.1, hts⟩ (hC l C.2.2.2.2.2.2.2.2.2.2.2.2.2.2.1 D ad aC A) (vx_cwSW n hts hgood rfl rfl rfl hy ⟨Nat.le_trans hR.1 C.2.2.2.2.2.2.2.1, Nat.le_trans hR.2 C.2.2.2.2.2.2.2.2.1⟩) ⟨zPre.blind, fun U hU hW => ⟨rfl, zPre.at C hP hD hS U hU hW⟩⟩ rfl (by rw [List.length_map]; exact hn) hl.1 (by show (As.reverse ++ st).map (zcv ad) = _; rw [List.map_append, List.map_reverse]) (lv_room (by rw [hcat]; exact h8)) hd ⟨by have := hR17.1; omega, by have := hR17.2; omega⟩
  intro T hT X
  rcases hrun T hT X with ⟨v, st₀, t, T', L9, h0, X', hL9, e1, e2, ⟨hv, hP1, hz, hk⟩, go⟩ | ⟨q9, st₀, t, T', L9, E, ce, h0, X', hL9, e1, e2, hF, -⟩
  · cases hv
    rw [h0] at hz hk
    obtain ⟨C1, C2, C3, C4, C5, C6, C7, C8, C9, C10, C11, C12, C13, C14, C15, C16, C17⟩ := C
    have k1 := kk p l e R s m args below meth c T'.heap (locs ++ L9) D ad aC A ls ⟨C1, C2, C3, C4, C5, C6, C7, C8, C9, Nat.le_trans hbd.1 hR17.1, Nat.le_trans hbd.2 hR17.2, C12, C13, C14, C15, C16, C17⟩ (by rw [e1]; exact hP1) (zD_any hD) ⟨Nat.le_trans hS.1 (by rw [e1]; exact hz), fun q h1 h2 => by rw [e1, hk q (Nat.lt_of_lt_of_le h1 hS.1) h2]; exact hS.2.1 q h1 h2, fun q hq => by
      rcases List.mem_append.mp hq with h | h
      · exact hS.2.2 q h
      · exact hL9 q h⟩ hl
    have ec : cs - 1 + 1 = cs + 1 - 1 := by omega
    have es : ss - 6 + 6 = ss + 6 - 6 := by omega
    rw [ec, es] at X'
    obtain ⟨t2, a1, b1⟩ := k1 T' rfl X'
    exact ⟨t2, go t2 a1, b1⟩
  · exact absurd hF (fun h => h)
end ZL1
