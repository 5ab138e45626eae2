/-- a constructor is called by the law -/
theorem zmake {p : Program} {l : Launch} {e : Env} {R : Room} {s : State} {m : MethodId} {args : Array Value} {below : List Frame} {meth : Method} {c : Code} {H : Heap} {locs : List Loc} {cells slots : Nat} {Q : State → Prop} {D : va_G} {aC : Nat → ClassId} {A : Nat → Prop} {ls : Array Slot} {rest : List Value} {pc nL idx : Nat} {own : String} {cc : ByteArray}
    (S : CallFix p m c cc nL s args zWS own) (hK : va_K D vwCl (zty aC) s) (hNG : zNG s) (hA : ∀ q : Nat, s.heap.size ≤ q → A q) {ws : va_W} {a : Nat} {e0 : va_E} (hP : va_P D vwCl (ws ++ [(a, e0)]) H) (hD : va_D A (ws ++ [(a, e0)])) (hS : va_S A s.heap H locs)
    {y : MethodName} {mj : zMI} {mc' ms' : Nat} {B0 Bl : zBB} {Mz Ml : zMM} (hC : zKN y mj mc' ms' B0 Mz (Bl, Ml)) (he0 : zWB B0 (fun _ => a) aC Mz = [(a, e0)])
    (hw : Cond.methodLink own idx y ∈ zWS) (h1 : Cond.instanceMethod y ∈ zWS ∧ Cond.initialized y.cls ∈ zWS ∧ Cond.code y mj.2.1 mj.2.2.1 mj.2.2.2.1 ∈ zWS) (hyn : y.name = "<init>") (hmr : mj.2.2.2.1 = none)
    (hy : y.cls ≠ "java/lang/invoke/MethodHandle" ∧ y.cls ≠ "java/lang/invoke/VarHandle" ∧ (parseMethodDescriptor y.desc).map (fun d => d.parameters.length) = some 0) (hR : mj.2.2.2.2.1 + 1 ≤ R.frames ∧ 8 + (mj.2.2.1 + 11) + mj.2.2.2.2.2 ≤ R.locals) (hcs : cells + mc' ≤ R.cells ∧ slots + ms' ≤ R.slots) (hls : ls.size = nL) (h8 : (rest.map fun v => v.category).sum ≤ 8) (hd : decode cc pc = .ok (.invokespecial idx, 3))
    (kk : ∀ (ad : Nat → Nat) (H1 : Heap) (locs1 : List Loc), ad 0 = a → va_P D vwCl (ws ++ zWB Bl ad aC Ml) H1 → va_D A (ws ++ zWB Bl ad aC Ml) → va_S A s.heap H1 locs1 → W p l e R s m args below meth c H1 locs1 (cells + mc') (slots + ms') Q (F0 m (pc + 3) ls rest)) : W p l e R s m args below meth c H locs cells slots Q (F0 m pc ls (.ref a :: rest)) := by
  have hts := S.2.2.2.2
  have hPi : va_at D vwCl (a, e0) H := hP ws.length _ (by rw [List.getElem?_append_right (Nat.le_refl _), Nat.sub_self]; rfl)
  have hAi : A a := hD.2 ws.length (a, e0) (by rw [List.getElem?_append_right (Nat.le_refl _), Nat.sub_self]; rfl)
  have hPc : va_P D vwCl ws H := fun k q hk => hP k q (by rw [List.getElem?_append_left (List.getElem?_eq_some_iff.mp hk).1]; exact hk)
  have hDc : va_D A ws := ⟨fun i j x z hx hz hxz => hD.1 i j x z (by rw [List.getElem?_append_left (List.getElem?_eq_some_iff.mp hx).1]; exact hx) (by rw [List.getElem?_append_left (List.getElem?_eq_some_iff.mp hz).1]; exact hz) hxz, fun k q hk => hD.2 k q (by rw [List.getElem?_append_left (List.getElem?_eq_some_iff.mp hk).1]; exact hk)⟩
  have hci : ∀ (k : Nat) (q : Nat × va_E), ws[k]? = some q → q.1 ≠ a := by
    intro k q hk e9
    have hl9 := (List.getElem?_eq_some_iff.mp hk).1
    have h9 := hD.1 k ws.length q (a, e0) (by rw [List.getElem?_append_left hl9]; exact hk) (by rw [List.getElem?_append_right (Nat.le_refl _), Nat.sub_self]; rfl) e9
    omega
  have hpre : ∀ U : State, U.heap = H → s.WarmedH U.vm → zPreK D (fun _ => a) aC (fun q => q = a ∨ H.size ≤ q) B0 Mz U := by
    intro U hU hW
    refine ⟨?_, ?_, va_K.moved hW.alike hK, hNG.warm hW, fun q hq => Or.inr (by rw [hU] at hq; exact hq)⟩
    · rw [he0, hU]
      intro k q hk
      match k, hk with
      | 0, hk => cases hk; exact hPi
    · rw [he0]
      refine ⟨fun i j x z hx hz _ => ?_, fun k q hk => ?_⟩
      · match i, j, hx, hz with
        | 0, 0, _, _ => rfl
      · match k, hk with
        | 0, hk => cases hk; exact Or.inl rfl
  have hblind : FrameBlind (va_Pc [Value.ref a] (zPreK D (fun _ => a) aC (fun q => q = a ∨ H.size ≤ q) B0 Mz)) := by
    intro b U g mk q
    obtain ⟨q0, qP, qD, qK, qN, qA⟩ := q
    exact ⟨q0, qP, qD, va_K.moved (u := U) (U := U.calling g mk b) (Vm.Alike.refl U.vm) qK, qN.warm (State.WarmedH.refl U), qA⟩
  have hM := hC l D (fun _ => a) aC (fun q => q = a ∨ H.size ≤ q)
  have hps : PreS s H (va_Pc [Value.ref a] (zPreK D (fun _ => a) aC (fun q => q = a ∨ H.size ≤ q) B0 Mz)) [Value.ref a] := ⟨hblind, fun U hU hW => ⟨rfl, hpre U hU hW⟩⟩
  have hrun : va_Run p l e R s m args below meth c H locs cells slots mc' ms' (F0 m pc ls (.ref a :: rest)) rest (zPK D (fun _ => a) aC (fun q => q = a ∨ H.size ≤ q) (Bl, Ml) (Value.ref a :: []).toArray) (fun q => q = a ∨ H.size ≤ q) := by
    rw [hmr] at hM h1
    exact va_runI (As := []) (n := 0) (bytes := mj.2.1) (maxL := mj.2.2.1) S hM ⟨callB_of 0 hts (fun w h9 => by
        have h8 : w ∈ zWS := by
          rcases List.mem_cons.mp h9 with rfl | h8
          · exact h1.2.2
          · exact h8
        exact ⟨h8, zWS_good w h8⟩) rfl rfl rfl (hts _ h1.2.1) (hts _ hw) hy hR, hyn, hts _ h1.1⟩ hps rfl rfl hls rfl (lv_room h8) hd hcs
  intro T hT X
  obtain ⟨v, st₀, t, T', L9, h0, X', hL9, e1, e2, ⟨hv, hF, ad2, hz, hP2, hD2⟩, go⟩ := hrun T hT X
  cases hv
  rw [va_F, h0] at hF
  have hsub : ∀ q : Nat, (q = a ∨ H.size ≤ q) → A q := fun q hq => by
    rcases hq with rfl | hq
    · exact hAi
    · exact hA q (Nat.le_trans hS.1 hq)
  have hPc2 : va_P D vwCl ws T'.heap := hPc.kept (fun k q hk => by
    rw [e1]
    refine hF.2 q.1 (hPc k q hk).lt (fun h9 => ?_)
    rcases h9 with h9 | h9
    · exact hci k q hk h9
    · exact absurd (hPc k q hk).lt (by omega))
  obtain ⟨t2, a1, b1⟩ := kk ad2 T'.heap (locs ++ L9) hz (hPc2.app (by rw [e1]; exact hP2)) (by
      refine hDc.app (hD2.weaken (fun k q _ h => hsub q.1 h)) (fun i j x z hx hz9 hxz => ?_)
      rcases hD2.2 j z hz9 with h9 | h9
      · exact hci i x hx (hxz.trans h9)
      · exact absurd (hPc i x hx).lt (by rw [hxz]; omega))
    ⟨Nat.le_trans hS.1 (by rw [e1]; exact hF.1), fun q g1 g2 => by
      rw [e1, hF.2 q (Nat.lt_of_lt_of_le g1 hS.1) (fun h9 => g2 (hsub q h9))]
      exact hS.2.1 q g1 g2, fun q hq => by
      rcases List.mem_append.mp hq with h | h
      · exact hS.2.2 q h
      · exact hsub _ (hL9 q h)⟩ T' rfl X'
  exact ⟨t2, go t2 a1, b1⟩
/-! the whole world, by its numbers -/
def zsg (sh : zSH) : zSG := match sh with
  | .inl (ci, fs) => .inl (ci, fs.map (fun o => o.map some))
  | .inr (ty, n, t0, sd) => .inr (ty, n, if ty < 4 then [] else (List.range n).map (fun j => some (t0 + sd * j)))
theorem zsg_at {D : va_G} {cl : List vw_C} {ad : Nat → Nat} {aC : Nat → ClassId} {f : Nat → Int32} {g : Nat → Int64} {sh : zSH} {a : Nat} {H : Heap} (h : va_at D cl (a, zEg ad aC f g (zsg sh)) H) : va_at D cl (a, zE ad aC f g sh) H := by
  rcases sh with ⟨ci, fs⟩ | ⟨ty, n, t0, sd⟩
  · have he : (fs.map (fun o => o.map some)).mapIdx (zfg ad f) = zfld ad f fs := by
      apply List.ext_getElem?
      intro k
      unfold zfld
      rw [List.getElem?_mapIdx, List.getElem?_mapIdx, List.getElem?_map]
      cases fs[k]? with
      | none => rfl
      | some o => cases o <;> rfl
    simp only [zsg, zEg, he] at h
    exact h
  · simp only [zsg, zEg] at h
    simp only [zE]
    by_cases h3 : ty = 3
    · simp only [h3, if_true] at h ⊢
      exact h
    · by_cases h4 : ty < 3
      · simp only [h3, h4, if_true, if_false] at h ⊢
        exact h
      · simp only [h3, h4, if_false, show ¬ ty < 4 by omega] at h ⊢
        refine Eq.trans h ?_
        congr 1
        rw [vp_cell_q, vp_cell_q]
        unfold arrV
        congr 1
        apply Array.ext
        · simp
        · intro j hj _
          have hjn : j < n := by simpa using hj
          simp [List.getD_eq_getElem?_getD, hjn]
theorem zW_of {D : va_G} {ad : Nat → Nat} {aC : Nat → ClassId} {M : zMM} {B : zBB} {H : Heap} {A : Nat → Prop} (hall : ∀ i, i < 175 → (i, zsg (zshp i)) ∈ B) (hP : va_P D vwCl (zWB B ad aC M) H) (hD : va_D A (zWB B ad aC M)) : va_P D vwCl (zW ad aC M) H ∧ va_D A (zW ad aC M) := by
  have key : ∀ i : Nat, i < 175 → ∃ k : Nat, B[k]? = some (i, zsg (zshp i)) ∧ (zWB B ad aC M)[k]? = some (zcc ad aC M (i, zsg (zshp i))) := by
    intro i hi
    obtain ⟨k, hk⟩ := List.getElem?_of_mem (hall i hi)
    refine ⟨k, hk, ?_⟩
    unfold zWB
    rw [List.getElem?_map, hk]
    rfl
  have zl : ∀ (k : Nat) (q : Nat × va_E), (zW ad aC M)[k]? = some q → k < 175 ∧ q = (ad k, zE ad aC (M.1 k) (M.2 k) (zshp k)) := by
    intro k q hk
    have hl : k < 175 := by simpa [zW] using (List.getElem?_eq_some_iff.mp hk).1
    rw [zW_get ad aC M hl] at hk
    exact ⟨hl, (Option.some.inj hk).symm⟩
  refine ⟨fun k q hk => ?_, fun i j x y hx hy hxy => ?_, fun k q hk => ?_⟩
  · obtain ⟨hl, rfl⟩ := zl k q hk
    obtain ⟨k2, -, h2⟩ := key k hl
    exact zsg_at (hP k2 _ h2)
  · obtain ⟨hi, rfl⟩ := zl i x hx
    obtain ⟨hj, rfl⟩ := zl j y hy
    obtain ⟨k2, g2, h2⟩ := key i hi
    obtain ⟨k3, g3, h3⟩ := key j hj
    have := hD.1 k2 k3 _ _ h2 h3 hxy
    subst this
    exact congrArg Prod.fst (Option.some.inj (g2.symm.trans g3))
  · obtain ⟨hl, rfl⟩ := zl k q hk
    obtain ⟨k2, -, h2⟩ := key k hl
    exact hD.2 k2 (zcc ad aC M (k, zsg (zshp k))) h2
/-- all cells, by the law's numbers -/
def zBall : zBB := zren (fun t => if t = 0 then 157 else t - 1) BX6_init ++ (zren (fun t => t + 158) BX7_init ++ [(174, .inr (3, 1, []))])
def zen (sh : zSG) : (Nat × Nat × Nat) × List (Option (Option Nat)) := match sh with
  | .inl (ci, fs) => ((0, ci, 0), fs)
  | .inr (ty, n, r) => ((1, ty, n), r.map some)
theorem zen_inj {a b : zSG} (h : zen a = zen b) : a = b := by
  rcases a with ⟨c1, f1⟩ | ⟨t1, n1, r1⟩ <;> rcases b with ⟨c2, f2⟩ | ⟨t2, n2, r2⟩
  · simp only [zen, Prod.mk.injEq] at h
    rw [h.1.2.1, h.2]
  · simp [zen] at h
  · simp [zen] at h
  · simp only [zen, Prod.mk.injEq, true_and] at h
    obtain ⟨⟨e1, e2⟩, e3⟩ := h
    have e4 : r1 = r2 := List.map_inj_right (fun x y e => Option.some.inj e) |>.mp e3
    rw [e1, e2, e4]
theorem zBall_en : ∀ i, i < 175 → (i, zen (zsg (zshp i))) ∈ zBall.map (fun q => (q.1, zen q.2)) := by decide +kernel
theorem zBall_all : ∀ i, i < 175 → (i, zsg (zshp i)) ∈ zBall := by
  intro i hi
  obtain ⟨q, hq, he⟩ := List.mem_map.mp (zBall_en i hi)
  have e1 : q.1 = i := congrArg Prod.fst he
  have e2 : q.2 = zsg (zshp i) := zen_inj (congrArg Prod.snd he)
  obtain ⟨q1, q2⟩ := q
  cases e1
  rw [← show q2 = zsg (zshp q1) from e2]
  exact hq
