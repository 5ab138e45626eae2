theorem zxw : (vx_at0 RX6 154 zNSE ["java/lang/RuntimeException", "java/lang/Exception"]).filter (fun w => !goodWord w) = [.declares (Bundle.init0 "java/lang/RuntimeException"), .declares (Bundle.init0 "java/lang/Exception"), .declares (Bundle.init0 Bundle.tN), .castable zNSE zNSE] := by decide +kernel
theorem zxg : ∀ w ∈ (vx_at0 RX6 154 zNSE ["java/lang/RuntimeException", "java/lang/Exception"]).filter goodWord, w ∈ lw_tbl := by decide +kernel
theorem zxo : ∀ w ∈ Cond.classLink RX6 152 zNSE :: Cond.initialized zNSE :: vx_at0 RX6 154 zNSE ["java/lang/RuntimeException", "java/lang/Exception"], vx_ot w = true := by decide +kernel
theorem zxk : Cond.classLink RX6 152 zNSE ∈ lw_tbl ∧ Cond.initialized zNSE ∈ lw_tbl := by decide +kernel
def zQX (D : va_G) (ad : Nat → Nat) (aC : Nat → ClassId) (A : Nat → Prop) (o : Option zAV × zMM) : Array Value → State → Outcome → State → Prop := fun _ st oc t => ∃ v : zAV, o.1 = some v ∧ oc = .returned (some (zcv ad v)) ∧ va_P D vwCl (zW ad aC o.2) t.heap ∧ va_F A st t
def zXX (D : va_G) (ad : Nat → Nat) (aC : Nat → ClassId) (A : Nat → Prop) (o : Option zAV × zMM) : String → State → State → Prop := fun E st t => o.1 = none ∧ E = zNSE ∧ va_P D vwCl (zW ad aC o.2) t.heap ∧ va_F A st t
/-- what a method does that answers, or throws: then the first part is none -/
def zCX1 (y : MethodName) (mi : zMI) (av : List zAV) (M : zMM) (o : Option zAV × zMM) : Prop :=
  ∀ (l : Launch), l.stackTraces = false → ∀ (D : va_G) (ad : Nat → Nat) (aC : Nat → ClassId) (A : Nat → Prop), vx_Met l y (.code y mi.2.1 mi.2.2.1 mi.2.2.2.1 :: zWS) { frames := mi.2.2.2.2.1, cells := 1, slots := 6, locals := mi.2.2.2.2.2 } (va_Pc (av.map (zcv ad)) (zPre D ad aC A M)) (zQX D ad aC A o) (zXX D ad aC A o) 1 6 A
def zZX (o : Option zAV × zMM) : zZ := fun D ad aC A below args s => vx_MQ below (zQX D ad aC A o) (zXX D ad aC A o) args s 1 6 A
section ZR4
variable {mi : zMI} {pc : Nat} {L : List (Nat × zAV)} {st : List zAV} {M : zMM}
theorem zEV.iretX {v : Int32} (hr : mi.2.2.2.1 = some .int) (hd : decode mi.2.1 pc = .ok (.ireturn, 1)) : zEV mi 1 6 (zZX (some (.inl v), M)) pc L [.inl v] M := by
  intro p l e R s m args below meth c H locs D ad aC A ls C hP hD hS hl
  refine vx_ret (W.widen (k := 1) (n := 6) (Nat.zero_le _) (Nat.zero_le _) ?_)
  exact W.iret (v := v) C.1 C.2.1 (C.2.2.1.trans hr) (fun t ht hW => ⟨.inl v, rfl, rfl, by rw [ht]; exact hP, hS.F ht⟩) hS.2.2 hd C.2.2.2.2.2.1
theorem zEV.lretX {v : Int64} (hr : mi.2.2.2.1 = some .long) (hd : decode mi.2.1 pc = .ok (.lreturn, 1)) : zEV mi 1 6 (zZX (some (.inr (.inl v)), M)) pc L [.inr (.inl v)] M := by
  intro p l e R s m args below meth c H locs D ad aC A ls C hP hD hS hl
  refine vx_ret (W.widen (k := 1) (n := 6) (Nat.zero_le _) (Nat.zero_le _) ?_)
  exact W.lret (v := v) C.1 C.2.1 (C.2.2.1.trans hr) (fun t ht hW => ⟨.inr (.inl v), rfl, rfl, by rw [ht]; exact hP, hS.F ht⟩) hS.2.2 hd C.2.2.2.2.2.1
/-- throw new NoSuchElementException() -/
theorem zEV.throw (hm : mi.1 = RX6) (hR : 6 ≤ mi.2.2.2.2.1 ∧ (st.map zcat).sum + 81 ≤ mi.2.2.2.2.2) (d0 : decode mi.2.1 pc = .ok (.new 152, 3)) (d3 : decode mi.2.1 (pc + 3) = .ok (.dup, 1)) (d4 : decode mi.2.1 (pc + 4) = .ok (.invokespecial 154, 3)) (d7 : decode mi.2.1 (pc + 7) = .ok (.athrow, 1)) : zEV mi 1 6 (zZX (none, M)) pc L st M := by
  intro p l e R s m args below meth c H locs D ad aC A ls C hP hD hS hl
  have hcat : ((st.map (zcv ad)).map fun v => v.category).sum = (st.map zcat).sum := by rw [List.map_map]; congr 1; apply List.map_congr_left; intro v _; exact zcv_cat ad v
  have hown := C.2.2.2.2.1
  rw [hm] at hown
  have hts := C.2.2.2.2.2.2.1
  have hx := C.2.2.2.2.2.2.2.2.2.2.2.2.1.2.2.2.1
  have hat : ∀ w ∈ vx_at0 RX6 154 zNSE ["java/lang/RuntimeException", "java/lang/Exception"], w.before args s = true := by
    intro w hw
    by_cases hg : goodWord w = true
    · exact hts w (zin (zxg w (List.mem_filter.mpr ⟨hw, hg⟩)) hg)
    · have h2 : w ∈ (vx_at0 RX6 154 zNSE ["java/lang/RuntimeException", "java/lang/Exception"]).filter (fun w => !goodWord w) := List.mem_filter.mpr ⟨hw, by simp [hg]⟩
      rw [zxw] at h2
      simp only [List.mem_cons, List.not_mem_nil, or_false] at h2
      rcases h2 with rfl | rfl | rfl | rfl
      · exact hx.2.2.2.1.use rfl
      · exact hx.2.2.2.2.1.use rfl
      · exact hx.2.2.2.2.2.use rfl
      · exact hx.2.2.1.use rfl
  refine vx_throw0 (own := RX6) (cls := zNSE) (names := ["java/lang/RuntimeException", "java/lang/Exception"]) (A := A) C.1 C.2.1 C.2.2.2.2.2.2.2.2.2.2.2.2.2.2.1 hown (by decide +kernel) (by decide +kernel) (hts _ (zin zxk.1 rfl)) (hts _ (zin zxk.2 rfl)) hat zxo hx.1 hx.2.1 hS (hl.1.trans C.2.2.2.1.symm) d0 d3 d4 d7 (fun x hx9 => absurd (C.2.2.2.2.2.2.2.2.2.2.2.2.2.2.2.1 hm x hx9) (fun h => h)) (Nat.lt_of_lt_of_le (Nat.le_of_ble_eq_true rfl : 5 < 6) (Nat.le_trans hR.1 C.2.2.2.2.2.2.2.1)) (by rw [hcat]; exact Nat.le_trans hR.2 C.2.2.2.2.2.2.2.2.1) C.2.2.2.2.2.2.2.2.2.1 C.2.2.2.2.2.2.2.2.2.2.1 C.2.2.2.2.2.1 ?_ hS.2.2 (Nat.le_refl 1) (Nat.le_refl 6)
  intro t _ h1 h2
  exact ⟨rfl, rfl, hP.kept (fun k q hk => h2 q.1 (hP k q hk).lt), Nat.le_trans hS.1 h1, fun q h3 h4 => (h2 q (Nat.lt_of_lt_of_le h3 hS.1)).trans (hS.2.1 q h3 h4)⟩
end ZR4
/-- a method that may throw, out of its walk -/
theorem zCX1.of {y : MethodName} {mi : zMI} {av : List zAV} {M : zMM} {o : Option zAV × zMM} {L : List (Nat × zAV)} (hy : plainName y.cls = true ∧ y.cls ≠ RL) (hm : mi.1 = y.cls) (hL : zargs 0 av = L) (hn : (av.map zcat).sum ≤ mi.2.2.1) (h : zEV mi 1 6 (zZX o) 0 L [] M) : zCX1 y mi av M o := by
  intro l htr D ad aC A
  refine vx_ofW (cc := mi.2.1) (maxL := mi.2.2.1) (ret := mi.2.2.2.1) hy.1 rfl ?_
  intro p e s m args below meth c s₁ B hml htb hv
  obtain ⟨rfl, hP, hD, hK, hS9, hA⟩ := hv
  have hts := atoms_spec (ws := (.code y mi.2.1 mi.2.2.1 mi.2.2.2.1 :: zWS : List Cond)) B.pre
  have hown : s.vm.findClass mi.1 = some m.cls := by rw [hm]; exact findClass_of_methodNamed B.named
  have hl := lv_entry (av.map (zcv ad)) (n := mi.2.2.1) (by rw [zsl_len]; exact hn)
  rw [zargs_eq, hL] at hl
  rw [lg_entry_eq]
  exact h p l e _ s m _ below meth c s.heap [] D ad aC A _ ⟨B.exec, B.bytes, B.returns, hml, hown, B.notSynchronized, fun w hw => hts w (List.mem_cons_of_mem _ hw), Nat.le_refl _, Nat.le_refl _, Nat.le_refl _, Nat.le_refl _, hK, hS9, hA, htr, fun _ => htb, fun h9 => absurd (hm.symm.trans h9) hy.2⟩ hP hD va_S.rf hl
