theorem hkx6 : Cond.instanceMethod yX6_init ∈ zWS ∧ Cond.initialized yX6_init.cls ∈ zWS ∧ Cond.code yX6_init iX6_init.2.1 iX6_init.2.2.1 iX6_init.2.2.2.1 ∈ zWS := ⟨zt1 23 rfl rfl, zt1 1 rfl rfl, zt1 24 rfl rfl⟩
theorem hkx7 : Cond.instanceMethod yX7_init ∈ zWS ∧ Cond.initialized yX7_init.cls ∈ zWS ∧ Cond.code yX7_init iX7_init.2.1 iX7_init.2.2.1 iX7_init.2.2.2.1 ∈ zWS := ⟨zt4 138 rfl rfl, zt1 8 rfl rfl, zt4 139 rfl rfl⟩
theorem hw23 : Cond.methodLink RL 23 yX6_init ∈ zWS := zt1 22 rfl rfl
theorem hw26 : Cond.methodLink RL 26 yX7_init ∈ zWS := zt4 137 rfl rfl
theorem zWB_ren {f : Nat → Nat} {ad ad2 : Nat → Nat} {aC : Nat → ClassId} {M Ml : zMM} {Bl : zBB} (hcl : zcls Bl = true) (ha : ∀ k ∈ zids Bl, ad (f k) = ad2 k) (hM : ∀ k ∈ zids Bl, M.1 (f k) = Ml.1 k ∧ M.2 (f k) = Ml.2 k) : zWB (zren f Bl) ad aC M = zWB Bl ad2 aC Ml := by
  unfold zWB zren
  rw [List.map_map]
  apply List.map_congr_left
  intro q hq
  have hqi : q.1 ∈ zids Bl := List.mem_map.mpr ⟨q, hq, rfl⟩
  simp only [Function.comp, zcc]
  rw [ha _ hqi, (hM _ hqi).1, (hM _ hqi).2, zrn_E (List.all_eq_true.mp hcl q hq) ha]
theorem zid6 : ∀ k ∈ zids BX6_init, k ≤ 157 := by decide +kernel
theorem zid7 : ∀ k ∈ zids BX7_init, k ≤ 15 := by decide +kernel
theorem zcl6 : zcls BX6_init = true := by decide +kernel
theorem zcl7 : zcls BX7_init = true := by decide +kernel
theorem zmem6 : ∀ k ∈ zids BX6_init, zMG.1 (if k = 0 then 157 else k - 1) = MX6_init.1 k ∧ zMG.2 (if k = 0 then 157 else k - 1) = MX6_init.2 k := by
  intro k hk
  have h := zid6 k hk
  refine ⟨?_, rfl⟩
  show _ = zMR.1 k
  by_cases h0 : k = 0
  · subst h0; rfl
  · rw [if_neg h0]
    simp only [zMR, if_neg h0, if_pos (show k < 159 by omega)]
theorem zmem7 : ∀ k ∈ zids BX7_init, zMG.1 (k + 158) = MX7_init.1 k ∧ zMG.2 (k + 158) = MX7_init.2 k := by
  intro k hk
  have h := zid7 k hk
  refine ⟨?_, rfl⟩
  match k, h with
  | 0, _ => rfl
  | 1, _ => rfl
  | 2, _ => rfl
  | 3, _ => rfl
  | 4, _ => rfl
  | 5, _ => rfl
  | 6, _ => rfl
  | 7, _ => rfl
  | 8, _ => rfl
  | 9, _ => rfl
  | 10, _ => rfl
  | 11, _ => rfl
  | 12, _ => rfl
  | 13, _ => rfl
  | 14, _ => rfl
  | 15, _ => rfl
  | k + 16, h => exact absurd h (by omega)
/-- the addresses by the law's numbers -/
def zad (ad1 ad2 : Nat → Nat) (q3 b : Nat) (ex : Nat → Nat) : Nat → Nat := fun i => if i < 157 then ad1 (i + 1) else if i = 157 then ad1 0 else if i < 174 then ad2 (i - 158) else if i = 174 then q3 else if i = 2000 then b else ex i
theorem zhe6 (a : Nat) (aC : Nat → ClassId) : zWB [(0, .inl (6, [some none, some none, some none, some none, some none, some none, some none, some none, some none]))] (fun _ => a) aC zMR = [(a, .inr (6, [.null, .null, .null, .null, .null, .null, .null, .null, .null]))] := by simp [zWB, zcc, zEg, zfg, zM0, zMR, List.mapIdx_cons, List.mapIdx_nil]
theorem zhe7 (a : Nat) (aC : Nat → ClassId) : zWB [(0, .inl (7, [some none, some none, none, some none, none, none, none, none, none, some none, some none, none, some none, some none, none, some none, some none, some none, none, none, none, some none, some none, some none, none, none, some none, some none]))] (fun _ => a) aC zM0 = [(a, .inr (7, [.null, .null, .int 0, .null, .int 0, .int 0, .int 0, .int 0, .int 0, .null, .null, .int 0, .null, .null, .int 0, .null, .null, .null, .int 0, .int 0, .int 0, .null, .null, .null, .int 0, .int 0, .null, .null]))] := by simp [zWB, zcc, zEg, zfg, zM0, zMR, List.mapIdx_cons, List.mapIdx_nil]
theorem zhad (ad1 ad2 : Nat → Nat) (q3 b : Nat) (ex : Nat → Nat) (aC : Nat → ClassId) : zWB zBall (zad ad1 ad2 q3 b ex) aC zMG = (zWB BX6_init ad1 aC MX6_init ++ zWB BX7_init ad2 aC MX7_init) ++ [(q3, .inl (aC 3, 1, .inr (.inl (fun _ => 0))))] := by
  have h6 : zWB (zren (fun t => if t = 0 then 157 else t - 1) BX6_init) (zad ad1 ad2 q3 b ex) aC zMG = zWB BX6_init ad1 aC MX6_init := by
    refine zWB_ren zcl6 (fun k hk => ?_) zmem6
    have h := zid6 k hk
    by_cases h0 : k = 0
    · subst h0; rfl
    · simp only [if_neg h0, zad, if_pos (show k - 1 < 157 by omega), show k - 1 + 1 = k by omega]
  have h7 : zWB (zren (fun t => t + 158) BX7_init) (zad ad1 ad2 q3 b ex) aC zMG = zWB BX7_init ad2 aC MX7_init := by
    refine zWB_ren zcl7 (fun k hk => ?_) zmem7
    have h := zid7 k hk
    simp only [zad, if_neg (show ¬ k + 158 < 157 by omega), if_neg (show ¬ k + 158 = 157 by omega), if_pos (show k + 158 < 174 by omega), show k + 158 - 158 = k by omega]
  have hap : ∀ X Y : zBB, zWB (X ++ Y) (zad ad1 ad2 q3 b ex) aC zMG = zWB X (zad ad1 ad2 q3 b ex) aC zMG ++ zWB Y (zad ad1 ad2 q3 b ex) aC zMG := fun X Y => by unfold zWB; rw [List.map_append]
  unfold zBall
  rw [hap, hap, h6, h7, List.append_assoc]
  rfl
