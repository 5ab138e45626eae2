theorem hkx6 : Cond.instanceMethod yX6_init ∈ zWS ∧ Cond.initialized yX6_init.cls ∈ zWS ∧ Cond.code yX6_init iX6_init.2.1 iX6_init.2.2.1 iX6_init.2.2.2.1 ∈ zWS := ⟨zt1 23 rfl rfl, zt1 1 rfl rfl, zt1 24 rfl rfl⟩
theorem hkx7 : Cond.instanceMethod yX7_init ∈ zWS ∧ Cond.initialized yX7_init.cls ∈ zWS ∧ Cond.code yX7_init iX7_init.2.1 iX7_init.2.2.1 iX7_init.2.2.2.1 ∈ zWS := ⟨zt4 138 rfl rfl, zt1 8 rfl rfl, zt4 139 rfl rfl⟩
theorem hw23 : Cond.methodLink RL 23 yX6_init ∈ zWS := zt1 22 rfl rfl
theorem hw26 : Cond.methodLink RL 26 yX7_init ∈ zWS := zt4 137 rfl rfl
theorem zWB_ren {f : Nat → Nat} {ad ad2 : Nat → Nat} {aC : Nat → ClassId} {M Ml : zMM} {Bl : zBB} (hcl : zcls Bl = true) (ha : ∀ k ∈ zids Bl, ad (f k) = ad2 k) (hM : ∀ k ∈ zids Bl, M.1 (f k) = Ml.1 k ∧ M.2 (f k) = Ml.2 k) : zWB (zren f Bl) ad aC M = zWB Bl ad2 aC Ml := by
  unfold zWB zren
  rw [List.map_map]
  apply List.map_congr_left
  intro q hq
  have hqi : q.1 ∈ zids Bl := List.mem_map.mpr ⟨q, hq, rfl⟩
  simp only [Function.comp, zcc]
  rw [ha _ hqi, (hM _ hqi).1, (hM _ hqi).2, zrn_E (List.all_eq_true.mp hcl q hq) ha]
theorem zid6 : ∀ k ∈ zids BX6_init, k ≤ 157 := by decide +kernel
theorem zid7 : ∀ k ∈ zids BX7_init, k ≤ 15 := by decide +kernel
theorem zcl6 : zcls BX6_init = true := by decide +kernel
theorem zcl7 : zcls BX7_init = true := by decide +kernel
theorem zmem6 : ∀ k ∈ zids BX6_init, zMG.1 (if k = 0 then 157 else k - 1) = MX6_init.1 k ∧ zMG.2 (if k = 0 then 157 else k - 1) = MX6_init.2 k := by
  intro k hk
  have h := zid6 k hk
  refine ⟨?_, rfl⟩
  show _ = zMR.1 k
  by_cases h0 : k = 0
  · subst h0; rfl
  · rw [if_neg h0]
    simp only [zMR, if_neg h0, if_pos (show k < 159 by omega)]
theorem zmem7 : ∀ k ∈ zids BX7_init, zMG.1 (k + 158) = MX7_init.1 k ∧ zMG.2 (k + 158) = MX7_init.2 k := by
  intro k hk
  have h := zid7 k hk
  refine ⟨?_, rfl⟩
  match k, h with
  | 0, _ => rfl
  | 1, _ => rfl
  | 2, _ => rfl
  | 3, _ => rfl
  | 4, _ => rfl
  | 5, _ => rfl
  | 6, _ => rfl
  | 7, _ => rfl
  | 8, _ => rfl
  | 9, _ => rfl
  | 10, _ => rfl
  | 11, _ => rfl
  | 12, _ => rfl
  | 13, _ => rfl
  | 14, _ => rfl
  | 15, _ => rfl
  | k + 16, h => exact absurd h (by omega)
/-- the addresses by the law's numbers -/
def zad (ad1 ad2 : Nat → Nat) (q3 b : Nat) (ex : Nat → Nat) : Nat → Nat := fun i => if i < 157 then ad1 (i + 1) else if i = 157 then ad1 0 else if i < 174 then ad2 (i - 158) else if i = 174 then q3 else if i = 2000 then b else ex i
set_option maxHeartbeats 4000000 in
set_option maxRecDepth 100000 in
theorem whole_start {p : Program} {e : Env} {s : State} {m : MethodId} {below : List Frame} {meth : Method} {c : Code} (l : Launch) (hflags : l.flags = flags0) {b L : Nat} {xs : Nat → Int32} (hL : L ≤ 3584) (C0 : lw_At p s m meth c b L xs) : W p l e room_1 s m #[Value.ref b] below meth c s.heap [] 0 0 (lw_Z below #[Value.ref b] s) (entryFrame m ([Value.ref b] : List Value).toArray 8) := by
  obtain ⟨hx, hb, hr, hml, hown, hts0, hX, hbl, hlocks, hgv⟩ := id C0
  have hts : ∀ w ∈ zWS, w.before #[Value.ref b] s = true := fun w h => hts0 w (List.mem_filter.mp h).1
  obtain ⟨D, aC, hK⟩ := zKof hts0
  obtain ⟨ex, hS9⟩ := zfacts hts0 hgv
  have hNG := zNGof hts0
  have htr : l.stackTraces = false := by
    unfold Launch.stackTraces
    rw [hflags]
    rfl
  have hA : ∀ q : Nat, s.heap.size ≤ q → (fun q : Nat => s.heap.size ≤ q) q := fun _ h => h
  have hbA : ¬ (fun q : Nat => s.heap.size ≤ q) b := Nat.not_le.mpr hbl
  have hS : va_S (fun q : Nat => s.heap.size ≤ q) s.heap s.heap [] := va_S.rf
  have hP : va_P D vwCl [] s.heap := fun k q h => by simp at h
  have hD : va_D (fun q : Nat => s.heap.size ≤ q) [] := ⟨fun i j p q h => by simp at h, fun k q h => by simp at h⟩
  have hl := lv_entry ([.ref b]) (n := 8) (Nat.le_of_ble_eq_true rfl)
  rw [lg_entry_eq]
  generalize (lg_sl ([.ref b]) ++ List.replicate (8 - (lg_sl ([.ref b])).length) Slot.unset).toArray = ls at hl ⊢
  have hl : lv_has ls 8 [(0, .ref b)] := hl
  have hfix : CallFix p m c cL_law 8 s #[Value.ref b] zWS RL := ⟨hx, hb, hml, hown, hts⟩
  refine va_new (ci := 6) (fs := [.null, .null, .null, .null, .null, .null, .null, .null, .null]) (C := RX6) (T := TX6) (N := 9) hx hb hts inz6 tyX6 tyX6_ok hown (hts0 (.classLink RL 8 RX6) (by decide +kernel)) (hts0 (.instantiable RX6 9) (by decide +kernel)) (hts0 (.initialized RX6) (by decide +kernel)) hK hP hD hS hA rfl (fun j hj => by
    match j, hj with
    | 0, _ => rfl
    | 1, _ => rfl
    | 2, _ => rfl
    | 3, _ => rfl
    | 4, _ => rfl
    | 5, _ => rfl
    | 6, _ => rfl
    | 7, _ => rfl
    | 8, _ => rfl
    | j + 9, h => exact absurd h (by omega)) (Nat.le_of_ble_eq_true rfl) (Nat.le_of_ble_eq_true rfl) dL_law_0 (fun q0 H hP hD hS => ?_)
  refine lv_dup hx hb dL_law_3 rfl ?_
  refine zmake hfix hK hNG hA hP hD hS kX6_init rfl (idx := 23) (hw23) ⟨hkx6.1, hkx6.2.1, hkx6.2.2⟩ rfl rfl hyk_X6 ⟨Nat.le_of_ble_eq_true rfl, Nat.le_of_ble_eq_true rfl⟩ ⟨Nat.le_of_ble_eq_true rfl, Nat.le_of_ble_eq_true rfl⟩ hl.1 (Nat.le_of_ble_eq_true rfl) dL_law_4 (fun ad1 H locs e1 hP hD hS => ?_)
  rw [List.nil_append] at hP hD
  refine lv_astore_n (lv' := [(1, .ref q0), (0, .ref b)]) hx hb dL_law_7 rfl hl (by decide) rfl (fun ls hl => ?_)
  refine va_new (ci := 7) (fs := [.null, .null, .int 0, .null, .int 0, .int 0, .int 0, .int 0, .int 0, .null, .null, .int 0, .null, .null, .int 0, .null, .null, .null, .int 0, .int 0, .int 0, .null, .null, .null, .int 0, .int 0, .null, .null]) (C := RX7) (T := TX7) (N := 28) hx hb hts inz7 tyX7 tyX7_ok hown (hts0 (.classLink RL 24 RX7) (by decide +kernel)) (hts0 (.instantiable RX7 28) (by decide +kernel)) (hts0 (.initialized RX7) (by decide +kernel)) hK hP hD hS hA rfl (fun j hj => by
    match j, hj with
    | 0, _ => rfl
    | 1, _ => rfl
    | 2, _ => rfl
    | 3, _ => rfl
    | 4, _ => rfl
    | 5, _ => rfl
    | 6, _ => rfl
    | 7, _ => rfl
    | 8, _ => rfl
    | 9, _ => rfl
    | 10, _ => rfl
    | 11, _ => rfl
    | 12, _ => rfl
    | 13, _ => rfl
    | 14, _ => rfl
    | 15, _ => rfl
    | 16, _ => rfl
    | 17, _ => rfl
    | 18, _ => rfl
    | 19, _ => rfl
    | 20, _ => rfl
    | 21, _ => rfl
    | 22, _ => rfl
    | 23, _ => rfl
    | 24, _ => rfl
    | 25, _ => rfl
    | 26, _ => rfl
    | 27, _ => rfl
    | j + 28, h => exact absurd h (by omega)) (Nat.le_of_ble_eq_true rfl) (Nat.le_of_ble_eq_true rfl) dL_law_8 (fun q1 H hP hD hS => ?_)
  refine lv_dup hx hb dL_law_11 rfl ?_
  refine zmake hfix hK hNG hA hP hD hS kX7_init rfl (idx := 26) (hw26) ⟨hkx7.1, hkx7.2.1, hkx7.2.2⟩ rfl rfl hyk_X7 ⟨Nat.le_of_ble_eq_true rfl, Nat.le_of_ble_eq_true rfl⟩ ⟨Nat.le_of_ble_eq_true rfl, Nat.le_of_ble_eq_true rfl⟩ hl.1 (Nat.le_of_ble_eq_true rfl) dL_law_12 (fun ad2 H locs e2 hP hD hS => ?_)
  refine lv_astore_n (lv' := [(2, .ref q1), (1, .ref q0), (0, .ref b)]) hx hb dL_law_15 rfl hl (by decide) rfl (fun ls hl => ?_)
  refine lv_iconst (v := 1) hx hb dL_law_16 rfl ?_
  refine va_newa (atype := .long) (ty := .long) (N' := 1) (a0 := (1, .inr (.inl (fun _ => 0)))) hx hb (hts0 (.arrayClass .long) (by decide +kernel)) rfl hK hP hD hS hA (fun _ => rfl) (by decide) (by decide) (by decide) (Nat.le_of_ble_eq_true rfl) (Nat.le_of_ble_eq_true rfl) dL_law_17 (fun q3 cA H hK1 hP hD hS => ?_)
  have hcA := zaC hK 3 rfl hK1
  subst hcA
  refine lv_astore_n (lv' := [(3, .ref q3), (2, .ref q1), (1, .ref q0), (0, .ref b)]) hx hb dL_law_19 rfl hl (by decide) rfl (fun ls hl => ?_)
  refine lv_iconst (v := 0) hx hb dL_law_20 rfl ?_
  refine lv_istore (lv' := [(4, .int 0), (3, .ref q3), (2, .ref q1), (1, .ref q0), (0, .ref b)]) hx hb dL_law_21 hl (by decide) rfl (fun ls hl => ?_)
  have had : zWB zBall (zad ad1 ad2 q3 b ex) aC zMG = (zWB BX6_init ad1 aC MX6_init ++ zWB BX7_init ad2 aC MX7_init) ++ [(q3, .inl (aC 3, 1, .inr (.inl (fun _ => 0))))] := by
    have h6 : zWB (zren (fun t => if t = 0 then 157 else t - 1) BX6_init) (zad ad1 ad2 q3 b ex) aC zMG = zWB BX6_init ad1 aC MX6_init := by
      refine zWB_ren zcl6 (fun k hk => ?_) zmem6
      have h := zid6 k hk
      by_cases h0 : k = 0
      · subst h0; rfl
      · simp only [if_neg h0, zad, if_pos (show k - 1 < 157 by omega), show k - 1 + 1 = k by omega]
    have h7 : zWB (zren (fun t => t + 158) BX7_init) (zad ad1 ad2 q3 b ex) aC zMG = zWB BX7_init ad2 aC MX7_init := by
      refine zWB_ren zcl7 (fun k hk => ?_) zmem7
      have h := zid7 k hk
      simp only [zad, if_neg (show ¬ k + 158 < 157 by omega), if_neg (show ¬ k + 158 = 157 by omega), if_pos (show k + 158 < 174 by omega), show k + 158 - 158 = k by omega]
    have hap : ∀ X Y : zBB, zWB (X ++ Y) (zad ad1 ad2 q3 b ex) aC zMG = zWB X (zad ad1 ad2 q3 b ex) aC zMG ++ zWB Y (zad ad1 ad2 q3 b ex) aC zMG := fun X Y => by unfold zWB; rw [List.map_append]
    unfold zBall
    rw [hap, hap, h6, h7, List.append_assoc]
    rfl
  rw [← had] at hP hD
  obtain ⟨hP, hD⟩ := zW_of zBall_all hP hD
  have hF : zFs (zad ad1 ad2 q3 b ex) (fun q : Nat => s.heap.size ≤ q) #[Value.ref b] s b L xs := ⟨rfl, hX, hbl, hbA, rfl, fun _ h => h⟩
  have k1 := tL_law b L xs 600 (by decide) 0 zMG (pure_all L xs hL) p l e room_1 s m #[Value.ref b] below meth c H locs D (zad ad1 ad2 q3 b ex) aC (fun q : Nat => s.heap.size ≤ q) ls ⟨hx, hb, hr, hml, hown, hlocks, hts, Nat.le_of_ble_eq_true rfl, Nat.le_of_ble_eq_true rfl, Nat.le_of_ble_eq_true rfl, Nat.le_of_ble_eq_true rfl, hK, zS_congr (fun i h1 h2 => by simp only [zad, if_neg (show ¬ i < 157 by omega), if_neg (show ¬ i = 157 by omega), if_neg (show ¬ i < 174 by omega), if_neg (show ¬ i = 174 by omega), if_neg h2]) hS9, hA, htr, fun h => absurd h (by decide), fun _ => ⟨Nat.le_of_ble_eq_true rfl, Nat.le_of_ble_eq_true rfl⟩⟩ hP hD hS (lv_sub hl [4, 3, 2, 1, 0] (by rw [← e1, ← e2]; rfl))
  refine W.widen (k := 601024 - 600 - 1) (n := 7293034 - 6 * 600 - 6) (Nat.le_of_ble_eq_true rfl) (Nat.le_of_ble_eq_true rfl) ?_
  intro T hT X
  obtain ⟨t, a1, b1⟩ := k1 T hT X
  exact ⟨t, a1, b1 hF⟩
