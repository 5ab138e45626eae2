/-! an act read by the model, whole -/
def RF (a c j : Nat) : Prop := (c = 162 ∧ a ≤ j ∧ j ≤ a + 3) ∨ (c = 158 ∧ j = 7)
theorem rOK {T : List Nat} {p a : Nat} {M : zMM} (hT : T.length ≤ 80) (hb : ∀ i, i < T.length → tt T i < 256) (hM : TR T p M) (hp : p < T.length) (ha : a + 3 < 320) (hl : isL (tt T p)) (hd : ∀ j, j < dg (tt T p) → dok T (p + 1 + j)) :
    ∃ M', fX7_readAct (zN a) M = some M' ∧ TR T (p + 1 + dg (tt T p)) M' ∧ AR T p a M' ∧ fr (RF a) M M' := by
  obtain ⟨t0, e0⟩ := (rA0 hT hb hM hp ha).1 hl
  obtain ⟨M0, h0⟩ : ∃ M0, M0 = wr (wr M 158 7 (zN (p + 1))) 162 a (zN (tt T p)) := ⟨_, rfl⟩
  have f0 : fr (RF a) M M0 := by rw [h0]; exact fr_wr (fr_wr (fr_refl _ _) (by unfold RF; omega)) (by unfold RF; omega)
  have k0 : M0.1 162 a = zN (tt T p) := by rw [h0]; exact wr_cj _ _ _ _
  rw [← h0] at t0 e0
  unfold AR
  unfold isL at hl
  by_cases cx : tt T p = 120
  · rw [if_pos cx] at e0
    rw [cx] at k0 ⊢
    exact ⟨M0, e0, t0, ⟨k0, fun q => absurd rfl q, fun q => absurd q (by omega), fun q => absurd q (by omega)⟩, f0⟩
  · rw [if_neg cx] at e0
    by_cases cw : tt T p = 119 ∨ tt T p = 104
    · rw [if_pos cw] at e0
      have d2 : dg (tt T p) = 2 := by rcases cw with c | c <;> rw [c] <;> rfl
      rw [d2] at hd ⊢
      obtain ⟨M1, e1, t1, k1, f1⟩ := gT (j := a + 1) hT hb t0 (by omega) (k := 2) (by omega) hd
      refine ⟨_, by rw [e0]; exact r89w ha e1, t1, ⟨by rw [f1.1 _ _ (by omega)]; exact k0, fun _ => ?_, fun q => absurd q (by omega), fun q => absurd q (by omega)⟩, fr_trans f0 (fr_mono f1 (fun c j q => by unfold RF; omega))⟩
      unfold A1; rw [if_pos cw]; exact k1
    · rw [if_neg cw] at e0
      have hA1 : A1 T p = nv T (p + 1) 1 := by unfold A1; rw [if_neg cw]
      have d1 : 1 ≤ dg (tt T p) := by
        have : tt T p = 98 ∨ tt T p = 99 ∨ tt T p = 103 ∨ tt T p = 112 ∨ tt T p = 117 := by omega
        rcases this with c | c | c | c | c <;> rw [c] <;> decide
      obtain ⟨M1, e1, t1, k1, f1⟩ := gT (j := a + 1) hT hb t0 (by omega) (k := 1) (by omega) (fun j hj => hd j (by omega))
      by_cases cu : tt T p = 117
      · have dd : dg (tt T p) = 1 := by rw [cu]; rfl
        rw [dd]
        refine ⟨_, by rw [e0, cu]; exact r89u ha e1, t1, ⟨by rw [f1.1 _ _ (by omega)]; exact k0, fun _ => by rw [hA1]; exact k1, fun q => absurd q (by omega), fun q => absurd q (by omega)⟩, fr_trans f0 (fr_mono f1 (fun c j q => by unfold RF; omega))⟩
      · have g1 := r89n ha (c := tt T p) ⟨cu, hb p hp⟩ e1
        obtain ⟨N1, hN1⟩ : ∃ N1, N1 = wr M1 162 (a + 1) (zN (nv T (p + 1) 1)) := ⟨_, rfl⟩
        rw [← hN1] at g1 t1 k1 f1
        by_cases cb : tt T p = 98
        · have dd : dg (tt T p) = 2 := by rw [cb]; rfl
          rw [dd] at hd ⊢
          rw [if_pos cb] at g1
          obtain ⟨M2, e2, t2, k2, f2⟩ := gT (j := a + 2) hT hb t1 (by omega) (k := 1) (by omega) (fun j hj => by have := hd (1 + j) (by omega); rw [show p + 1 + 1 + j = p + 1 + (1 + j) by omega]; exact this)
          have g2 := r123n ha (c := tt T p) ⟨by omega, hb p hp⟩ e2
          have g3 := r146n (a := a) (c := tt T p) ⟨by omega, hb p hp⟩ (wr M2 162 (a + 2) (zN (nv T (p + 1 + 1) 1)))
          refine ⟨_, by rw [e0, g1, g2, g3], t2, ⟨by rw [f2.1 _ _ (by omega), f1.1 _ _ (by omega)]; exact k0, fun _ => by rw [hA1, f2.1 _ _ (by omega)]; exact k1, fun _ => by unfold A2; rw [if_pos cb]; exact k2, fun q => absurd q (by omega)⟩, fr_trans f0 (fr_trans (fr_mono f1 (fun c j q => by unfold RF; omega)) (fr_mono f2 (fun c j q => by unfold RF; omega)))⟩
        · have d3 : 3 ≤ dg (tt T p) := by
            have : tt T p = 99 ∨ tt T p = 103 ∨ tt T p = 112 := by omega
            rcases this with c | c | c <;> rw [c] <;> decide
          rw [if_neg cb] at g1
          have hA2 : A2 T p = nv T (p + 2) 2 := by unfold A2; rw [if_neg cb]
          obtain ⟨M2, e2, t2, k2, f2⟩ := gT (j := a + 2) hT hb t1 (by omega) (k := 2) (by omega) (fun j hj => by have := hd (1 + j) (by omega); rw [show p + 1 + 1 + j = p + 1 + (1 + j) by omega]; exact this)
          obtain ⟨N2, hN2⟩ : ∃ N2, N2 = wr M2 162 (a + 2) (zN (nv T (p + 1 + 1) 2)) := ⟨_, rfl⟩
          rw [← hN2] at t2 k2 f2
          have dk : ∀ j, 3 + j < dg (tt T p) → dok T (p + 1 + 1 + 2 + j) := fun j hj => by have := hd (3 + j) hj; rw [show p + 1 + 1 + 2 + j = p + 1 + (3 + j) by omega]; exact this
          by_cases cg : tt T p = 103
          · have dd : dg (tt T p) = 3 := by rw [cg]; rfl
            rw [dd]
            have g2 := r123n ha (c := tt T p) ⟨by omega, hb p hp⟩ e2
            have g3 := r146n (a := a) (c := tt T p) ⟨by omega, hb p hp⟩ N2
            rw [← hN2] at g2
            refine ⟨N2, by rw [e0, g1, g2, g3], t2, ⟨by rw [f2.1 _ _ (by omega), f1.1 _ _ (by omega)]; exact k0, fun _ => by rw [hA1, f2.1 _ _ (by omega)]; exact k1, fun _ => by rw [hA2]; exact k2, fun q => absurd q (by omega)⟩, fr_trans f0 (fr_trans (fr_mono f1 (fun c j q => by unfold RF; omega)) (fr_mono f2 (fun c j q => by unfold RF; omega)))⟩
          · by_cases cc : tt T p = 99
            · have dd : dg (tt T p) = 4 := by rw [cc]; rfl
              obtain ⟨M3, e3, t3, k3, f3⟩ := gT (j := a + 3) hT hb t2 (by omega) (k := 1) (by omega) (fun j hj => dk j (by omega))
              have g2 := r123n ha (c := tt T p) ⟨by omega, hb p hp⟩ e2
              rw [← hN2, cc] at g2
              rw [cc] at g1 e0
              have g3 := r146c ha e3
              rw [dd]
              refine ⟨_, by rw [e0, g1, g2, g3], t3, ⟨by rw [f3.1 _ _ (by omega), f2.1 _ _ (by omega), f1.1 _ _ (by omega)]; exact k0, fun _ => by rw [hA1, f3.1 _ _ (by omega), f2.1 _ _ (by omega)]; exact k1, fun _ => by rw [hA2, f3.1 _ _ (by omega)]; exact k2, fun _ => by unfold A3; rw [if_pos cc]; exact k3⟩, fr_trans f0 (fr_trans (fr_mono f1 (fun c j q => by unfold RF; omega)) (fr_trans (fr_mono f2 (fun c j q => by unfold RF; omega)) (fr_mono f3 (fun c j q => by unfold RF; omega))))⟩
            · have cp : tt T p = 112 := by omega
              have dd : dg (tt T p) = 5 := by rw [cp]; rfl
              obtain ⟨M3, e3, t3, k3, f3⟩ := gT (j := a + 3) hT hb t2 (by omega) (k := 2) (by omega) (fun j hj => dk j (by omega))
              rw [hN2] at e3
              rw [cp] at g1 e0
              have g2 := r123p ha e2 e3
              rw [dd]
              refine ⟨_, by rw [e0, g1]; exact g2, t3, ⟨by rw [f3.1 _ _ (by omega), f2.1 _ _ (by omega), f1.1 _ _ (by omega)]; exact k0, fun _ => by rw [hA1, f3.1 _ _ (by omega), f2.1 _ _ (by omega)]; exact k1, fun _ => by rw [hA2, f3.1 _ _ (by omega)]; exact k2, fun _ => by unfold A3; rw [if_neg cc]; exact k3⟩, fr_trans f0 (fr_trans (fr_mono f1 (fun c j q => by unfold RF; omega)) (fr_trans (fr_mono f2 (fun c j q => by unfold RF; omega)) (fr_mono f3 (fun c j q => by unfold RF; omega))))⟩
/-! a fault stays, whatever is still read -/
theorem x146 {a c e : Nat} {M : zMM} (ha : a + 3 < 320) (hc : c < 256) (he : e < 1000) (h : M.1 158 8 = zN e) : ∃ M', fX7_readAct_146 (zN a) (zN c) M = some M' ∧ M'.1 158 8 = zN e ∧ fr BF M M' := by
  by_cases q : c = 99
  · subst q
    obtain ⟨v, a1, b1, c1⟩ := gX (a + 3) (k := 1) (by omega) he h
    exact ⟨_, r146c ha a1, b1, c1⟩
  · exact ⟨M, r146n ⟨q, hc⟩ M, h, fr_refl _ _⟩
theorem x123 {a c e k : Nat} {M : zMM} (ha : a + 3 < 320) (hc : c < 256) (hk : k < 1000) (he : e < 1000) (h : M.1 158 8 = zN e) : ∃ M', fX7_readAct_123 (zN a) (zN c) (zN k) (zN (a + 2)) M = some M' ∧ M'.1 158 8 = zN e ∧ fr BF M M' := by
  obtain ⟨v, a1, b1, c1⟩ := gX (a + 2) hk he h
  by_cases q : c = 112
  · subst q
    obtain ⟨v', a2, b2, c2⟩ := gX (a + 3) (k := 2) (by omega) he b1
    exact ⟨_, r123p ha a1 a2, b2, fr_trans c1 c2⟩
  · obtain ⟨M2, a2, b2, c2⟩ := x146 ha hc he b1
    exact ⟨M2, by rw [r123n ha ⟨q, hc⟩ a1, a2], b2, fr_trans c1 c2⟩
theorem rBad {T : List Nat} {p a e : Nat} {M : zMM} (hT : T.length ≤ 80) (hb : ∀ i, i < T.length → tt T i < 256) (hM : TR T p M) (hp : p < T.length) (ha : a + 3 < 320) (hl : isL (tt T p)) (he : e < dg (tt T p)) (hd : ∀ j, j < e → dok T (p + 1 + j)) (hn : ¬ dok T (p + 1 + e)) :
    ∃ M', fX7_readAct (zN a) M = some M' ∧ M'.1 158 8 = zN (p + 1 + e) ∧ fr BF M M' := by
  obtain ⟨t0, e0⟩ := (rA0 hT hb hM hp ha).1 hl
  obtain ⟨M0, h0⟩ : ∃ M0, M0 = wr (wr M 158 7 (zN (p + 1))) 162 a (zN (tt T p)) := ⟨_, rfl⟩
  have f0 : fr BF M M0 := by rw [h0]; exact fr_wr (fr_wr (fr_refl _ _) (by unfold BF; omega)) (by unfold BF; omega)
  rw [← h0] at t0 e0
  have d5 := dg_le (tt T p)
  have hl' := hl
  unfold isL at hl
  by_cases cx : tt T p = 120
  · rw [cx] at he; exact absurd he (by show ¬ e < 0; omega)
  · rw [if_neg cx] at e0
    by_cases cw : tt T p = 119 ∨ tt T p = 104
    · rw [if_pos cw] at e0
      have d2 : dg (tt T p) = 2 := by rcases cw with c | c <;> rw [c] <;> rfl
      obtain ⟨v, M1, e1, k1, f1⟩ := gF (a + 1) hT hb t0 (by omega) (k := 2) (by omega) (by omega) hd hn
      exact ⟨_, by rw [e0]; exact r89w ha e1, k1, fr_trans f0 f1⟩
    · rw [if_neg cw] at e0
      by_cases z : e = 0
      · subst z
        obtain ⟨v, M1, e1, k1, f1⟩ := gF (a + 1) hT hb t0 (by omega) (k := 1) (by omega) (e := 0) (by omega) hd hn
        by_cases cu : tt T p = 117
        · exact ⟨_, by rw [e0, cu]; exact r89u ha e1, k1, fr_trans f0 f1⟩
        · obtain ⟨M2, e2, k2, f2⟩ := x123 ha (hb p hp) (k := if tt T p = 98 then 1 else 2) (by split <;> omega) (by omega) k1
          exact ⟨M2, by rw [e0, r89n ha ⟨cu, hb p hp⟩ e1, e2], k2, fr_trans f0 (fr_trans f1 f2)⟩
      · have cu : tt T p ≠ 117 := fun c => by rw [c] at he; exact absurd he (by show ¬ e < 1; omega)
        obtain ⟨M1, e1, t1, k1, f1⟩ := gT (j := a + 1) hT hb t0 (by omega) (k := 1) (by omega) (fun j hj => hd j (by omega))
        have g1 := r89n ha (c := tt T p) ⟨cu, hb p hp⟩ e1
        obtain ⟨N1, hN1⟩ : ∃ N1, N1 = wr M1 162 (a + 1) (zN (nv T (p + 1) 1)) := ⟨_, rfl⟩
        rw [← hN1] at g1 t1 k1 f1
        have f01 : fr BF M N1 := fr_trans f0 (fr_mono f1 (fun c j q => by unfold BF; omega))
        have sh : ∀ j, p + 1 + 1 + j = p + 1 + (1 + j) := fun j => by omega
        by_cases cb : tt T p = 98
        · have dd : dg (tt T p) = 2 := by rw [cb]; rfl
          rw [if_pos cb] at g1
          have e1' : e = 1 := by omega
          subst e1'
          obtain ⟨v, M2, e2, k2, f2⟩ := gF (a + 2) hT hb t1 (by omega) (k := 1) (by omega) (e := 0) (by omega) (fun j hj => absurd hj (by omega)) hn
          have g2 := r123n ha (c := tt T p) ⟨by omega, hb p hp⟩ e2
          have g3 := r146n (a := a) (c := tt T p) ⟨by omega, hb p hp⟩ (wr M2 162 (a + 2) v)
          exact ⟨_, by rw [e0, g1, g2, g3], k2, fr_trans f01 f2⟩
        · rw [if_neg cb] at g1
          by_cases e3 : e < 3
          · obtain ⟨e', rfl⟩ : ∃ e', e = 1 + e' := ⟨e - 1, by omega⟩
            obtain ⟨v, M2, e2, k2, f2⟩ := gF (a + 2) hT hb t1 (by omega) (k := 2) (by omega) (e := e') (by omega) (fun j hj => by rw [sh]; exact hd (1 + j) (by omega)) (by rw [sh]; exact hn)
            rw [sh] at k2
            by_cases cp : tt T p = 112
            · rw [cp] at g1 e0
              obtain ⟨v', a3, b3, c3⟩ := gX (a + 3) (k := 2) (by omega) (by omega) k2
              exact ⟨_, by rw [e0, g1]; exact r123p ha e2 a3, b3, fr_trans f01 (fr_trans f2 c3)⟩
            · obtain ⟨M3, a3, b3, c3⟩ := x146 ha (hb p hp) (by omega) k2
              exact ⟨M3, by rw [e0, g1, r123n ha ⟨cp, hb p hp⟩ e2, a3], b3, fr_trans f01 (fr_trans f2 c3)⟩
          · have cg : tt T p ≠ 103 := fun c => by rw [c] at he; exact absurd he (by show ¬ e < 3; omega)
            obtain ⟨M2, e2, t2, k2, f2⟩ := gT (j := a + 2) hT hb t1 (by omega) (k := 2) (by omega) (fun j hj => by rw [sh]; exact hd (1 + j) (by omega))
            have f02 : fr BF M (wr M2 162 (a + 2) (zN (nv T (p + 1 + 1) 2))) := fr_trans f01 (fr_mono f2 (fun c j q => by unfold BF; omega))
            obtain ⟨e', rfl⟩ : ∃ e', e = 3 + e' := ⟨e - 3, by omega⟩
            have sh3 : ∀ j, p + 1 + 1 + 2 + j = p + 1 + (3 + j) := fun j => by omega
            by_cases cc : tt T p = 99
            · have dd : dg (tt T p) = 4 := by rw [cc]; rfl
              obtain ⟨v, M3, e3, k3, f3⟩ := gF (a + 3) hT hb t2 (by omega) (k := 1) (by omega) (e := e') (by omega) (fun j hj => by rw [sh3]; exact hd (3 + j) (by omega)) (by rw [sh3]; exact hn)
              rw [sh3] at k3
              rw [cc] at g1 e0
              exact ⟨_, by rw [e0, g1, r123n ha (c := 99) (by omega) e2]; exact r146c ha e3, k3, fr_trans f02 f3⟩
            · have cp : tt T p = 112 := by omega
              have dd : dg (tt T p) = 5 := by rw [cp]; rfl
              obtain ⟨v, M3, e3, k3, f3⟩ := gF (a + 3) hT hb t2 (by omega) (k := 2) (by omega) (e := e') (by omega) (fun j hj => by rw [sh3]; exact hd (3 + j) (by omega)) (by rw [sh3]; exact hn)
              rw [sh3] at k3
              rw [cp] at g1 e0
              exact ⟨_, by rw [e0, g1]; exact r123p ha e2 e3, k3, fr_trans f02 f3⟩
