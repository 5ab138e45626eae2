/-! THE LAW: its script is cell 2000; what is known of it stands ahead of what is to be shown -/
def zFs (ad : Nat → Nat) (A : Nat → Prop) (args : Array Value) (s : State) (b Ln : Nat) (xs : Nat → Int32) : Prop := ad 2000 = b ∧ va_X b Ln xs s s.heap ∧ b < s.heap.size ∧ ¬ A b ∧ args = #[Value.ref b] ∧ (∀ q, A q → s.heap.size ≤ q)
def zZL (b Ln : Nat) (xs : Nat → Int32) : zZ := fun _ ad _ A below args s t => zFs ad A args s b Ln xs → lw_Z below args s t
abbrev iL_law : zMI := (RL, cL_law, 8, some .boolean, 14, 538)
theorem zlw_ret {p : Program} {l : Launch} {e : Env} {R : Room} {s : State} {m : MethodId} {below : List Frame} {meth : Method} {c : Code} {b : Nat} (hx : p.tables.exec = Jvm.exec) (hb : c.code = code) (hr : meth.sig.returnType = ret) (hlocks : meth.locks = false) {pc : Nat} {H : Heap} {ls : Array Slot} (hdg : decode code pc = .ok (.ireturn, 1)) : W p l e R s m #[Value.ref b] below meth c H [] 601024 7293034 (lw_Z below #[Value.ref b] s) (F0 m pc ls [.int 1]) := by
  intro T hT X
  obtain ⟨fs, hret, hrun, hended, hW, hframe⟩ := X.leave (v := some (.int 1)) (hlocks := hlocks) (fun h => by rw [hr] at h; cases h)
  have hmeth' : T.vm.method? m = some meth := X.method'
  refine ⟨T.setFrames fs, ?_, .returned (some (.int 1)), hrun, hended, rfl, ⟨_, rfl⟩, hW, hframe⟩
  jvm_step X.here [X.here.top, hx, hb, hdg, hmeth', hr, ret, narrow_b1]
  (try refine ⟨rfl, ?_⟩); (try refine ⟨rfl, ?_⟩)
  first | (intro acts; rw [hret _ acts rfl rfl rfl]) | rw [hret _ _ rfl rfl rfl]
  exact Steps.refl _
section ZL
variable {mi : zMI} {cs ss : Nat} {pc : Nat} {L : List (Nat × zAV)} {st : List zAV} {M : zMM} {b Ln : Nat} {xs : Nat → Int32}
theorem zLtriv {p : Program} {l : Launch} {e : Env} {R : Room} {s : State} {m : MethodId} {args : Array Value} {below : List Frame} {meth : Method} {c : Code} {H : Heap} {locs : List Loc} {cells slots : Nat} {g : JFrame} {F : Prop} {Q : State → Prop} (h : F → W p l e R s m args below meth c H locs cells slots (fun t => F → Q t) g) : W p l e R s m args below meth c H locs cells slots (fun t => F → Q t) g := by
  by_cases hF : F
  · exact h hF
  · intro T _ _
    exact ⟨T.setTop g, Steps.refl _, fun h => absurd h hF⟩
theorem zEV.slen (hd : decode mi.2.1 pc = .ok (.arraylength, 1)) (k : zEV mi cs ss (zZL b Ln xs) (pc + 1) L (.inl (Int32.ofNat Ln) :: st) M) : zEV mi cs ss (zZL b Ln xs) pc L (.inr (.inr 2000) :: st) M := by
  intro p l e R s m args below meth c H locs D ad aC A ls C hP hD hS hl
  refine zLtriv (fun hF => ?_)
  have hF2 := hF
  obtain ⟨h1, h2, h3, h4, -⟩ := hF2
  have k1 := k p l e R s m args below meth c H locs D ad aC A ls C hP hD hS hl
  refine W.eq (g2 := F0 m pc ls (.ref b :: st.map (zcv ad))) (by simp [zcv, h1]) ?_
  exact va_slen C.1 C.2.1 h2 h3 h4 hS hd k1
theorem zEV.sld {x : Int32} (hb : ¬ oob x Ln) (hd : decode mi.2.1 pc = .ok (.iaload, 1)) (k : zEV mi cs ss (zZL b Ln xs) (pc + 1) L (.inl (xs x.toNatClampNeg) :: st) M) : zEV mi cs ss (zZL b Ln xs) pc L (.inl x :: .inr (.inr 2000) :: st) M := by
  intro p l e R s m args below meth c H locs D ad aC A ls C hP hD hS hl
  refine zLtriv (fun hF => ?_)
  have hF2 := hF
  obtain ⟨h1, h2, h3, h4, -⟩ := hF2
  have k1 := k p l e R s m args below meth c H locs D ad aC A ls C hP hD hS hl
  refine W.eq (g2 := F0 m pc ls (.int x :: .ref b :: st.map (zcv ad))) (by simp [zcv, h1]) ?_
  exact va_sld C.1 C.2.1 h2 h3 h4 hS hb hd k1
/-- the law's end -/
theorem zEV.lawret (hm : mi = iL_law) (hcs : cs - 1 ≤ 601024 ∧ ss - 6 ≤ 7293034) (hd : decode mi.2.1 pc = .ok (.ireturn, 1)) : zEV mi cs ss (zZL b Ln xs) pc L [.inl 1] M := by
  intro p l e R s m args below meth c H locs D ad aC A ls C hP hD hS hl
  refine zLtriv (fun hF => ?_)
  subst hm
  have hF2 := hF
  obtain ⟨h1, h2, h3, h4, h5, h6⟩ := hF2
  subst h5
  intro T hT X
  have k0 : W p l e R s m #[Value.ref b] below meth c H locs (cs - 1) (ss - 6) (lw_Z below #[Value.ref b] s) (F0 m pc ls [.int 1]) := by
    refine va_forget (fun q hq => h6 _ (hS.2.2 q hq)) ?_
    refine W.widen (k := 601024) (n := 7293034) hcs.1 hcs.2 ?_
    exact zlw_ret C.1 C.2.1 C.2.2.1 C.2.2.2.2.2.1 hd
  obtain ⟨t, a1, b1⟩ := k0 T hT X
  exact ⟨t, a1, fun _ => b1⟩
/-- what has been made counts no less -/
theorem zEV.more {cs' ss' : Nat} (hm : mi.1 = RL) (h : cs ≤ cs' ∧ ss ≤ ss') (hb : cs' ≤ 601024 ∧ ss' ≤ 7293034) {Z : zZ} (k : zEV mi cs' ss' Z pc L st M) : zEV mi cs ss Z pc L st M := by
  intro p l e R s m args below meth c H locs D ad aC A ls C hP hD hS hl
  obtain ⟨C1, C2, C3, C4, C5, C6, C7, C8, C9, C10, C11, C12, C13, C14, C15, C16, C17⟩ := C
  exact W.widen (k := cs' - 1) (n := ss' - 6) (Nat.sub_le_sub_right h.1 1) (Nat.sub_le_sub_right h.2 6) (k p l e R s m args below meth c H locs D ad aC A ls ⟨C1, C2, C3, C4, C5, C6, C7, C8, C9, Nat.le_trans hb.1 (C17 hm).1, Nat.le_trans hb.2 (C17 hm).2, C12, C13, C14, C15, C16, C17⟩ hP hD hS hl)
end ZL
