section ZR2
variable {mi : zMI} {cs ss : Nat} {Z : zZ} {pc : Nat} {L : List (Nat × zAV)} {st : List zAV} {M : zMM}
theorem zEV.ldcw {idx : Nat} {v : Int32} (hw : Cond.constant mi.1 idx v ∈ zWS) (hd : decode mi.2.1 pc = .ok (.ldc_w idx, 3)) (k : zEV mi cs ss Z (pc + 3) L (.inl v :: st) M) : zEV mi cs ss Z pc L st M := by
  intro p l e R s m args below meth c H locs D ad aC A ls C hP hD hS hl
  exact lv_ldcw C.1 C.2.1 C.2.2.2.2.1 (C.2.2.2.2.2.2.1 _ hw) hd (k p l e R s m args below meth c H locs D ad aC A ls C hP hD hS hl)
theorem zEV.ldc2w {idx : Nat} {v : Int64} (hw : Cond.constantLong mi.1 idx v ∈ zWS) (hd : decode mi.2.1 pc = .ok (.ldc2_w idx, 3)) (k : zEV mi cs ss Z (pc + 3) L (.inr (.inl v) :: st) M) : zEV mi cs ss Z pc L st M := by
  intro p l e R s m args below meth c H locs D ad aC A ls C hP hD hS hl
  exact lv_ldc2 C.1 C.2.1 C.2.2.2.2.1 (C.2.2.2.2.2.2.1 _ hw) hd (k p l e R s m args below meth c H locs D ad aC A ls C hP hD hS hl)
theorem zEV.callVi {y : MethodName} {mj : zMI} {idx i ci n : Nat} {q : vw_C} {fs : List (Option Nat)} {As stk : List zAV} {r : Int32} {M1 : zMM} (hC : zCN y mj (.inr (.inr i) :: As) M (some (.inl r), M1)) (hi : i < 175) (hs : zshp i = .inl (ci, fs)) (hc : vwCl[ci]? = some q)
    (hw : Cond.methodLink mi.1 idx y ∈ zWS) (h1 : Cond.instanceMethod y ∈ zWS ∧ Cond.selects q.1 y y ∈ zWS ∧ Cond.initialized y.cls ∈ zWS ∧ Cond.code y mj.2.1 mj.2.2.1 mj.2.2.2.1 ∈ zWS)
    (hy : y.cls ≠ "java/lang/invoke/MethodHandle" ∧ y.cls ≠ "java/lang/invoke/VarHandle" ∧ (parseMethodDescriptor y.desc).map (fun d => d.parameters.length) = some n) (hn : As.length = n) (hR : mj.2.2.2.2.1 + 1 ≤ mi.2.2.2.2.1 ∧ 8 + (mj.2.2.1 + 11) + mj.2.2.2.2.2 ≤ mi.2.2.2.2.2)
    (hst : stk = As.reverse ++ .inr (.inr i) :: st) (h8 : (st.map zcat).sum ≤ 8) (hd : decode mi.2.1 pc = .ok (.invokevirtual idx, 3)) (kk : zEV mi cs ss Z (pc + 3) L (.inl r :: st) M1) : zEV mi cs ss Z pc L stk M := zEV.callV hC hi hs hc hw h1 hy hn hR hst h8 hd kk
theorem zEV.callVl {y : MethodName} {mj : zMI} {idx i ci n : Nat} {q : vw_C} {fs : List (Option Nat)} {As stk : List zAV} {r : Int64} {M1 : zMM} (hC : zCN y mj (.inr (.inr i) :: As) M (some (.inr (.inl r)), M1)) (hi : i < 175) (hs : zshp i = .inl (ci, fs)) (hc : vwCl[ci]? = some q)
    (hw : Cond.methodLink mi.1 idx y ∈ zWS) (h1 : Cond.instanceMethod y ∈ zWS ∧ Cond.selects q.1 y y ∈ zWS ∧ Cond.initialized y.cls ∈ zWS ∧ Cond.code y mj.2.1 mj.2.2.1 mj.2.2.2.1 ∈ zWS)
    (hy : y.cls ≠ "java/lang/invoke/MethodHandle" ∧ y.cls ≠ "java/lang/invoke/VarHandle" ∧ (parseMethodDescriptor y.desc).map (fun d => d.parameters.length) = some n) (hn : As.length = n) (hR : mj.2.2.2.2.1 + 1 ≤ mi.2.2.2.2.1 ∧ 8 + (mj.2.2.1 + 11) + mj.2.2.2.2.2 ≤ mi.2.2.2.2.2)
    (hst : stk = As.reverse ++ .inr (.inr i) :: st) (h8 : (st.map zcat).sum ≤ 8) (hd : decode mi.2.1 pc = .ok (.invokevirtual idx, 3)) (kk : zEV mi cs ss Z (pc + 3) L (.inr (.inl r) :: st) M1) : zEV mi cs ss Z pc L stk M := zEV.callV hC hi hs hc hw h1 hy hn hR hst h8 hd kk
theorem zEV.callVv {y : MethodName} {mj : zMI} {idx i ci n : Nat} {q : vw_C} {fs : List (Option Nat)} {As stk : List zAV} {M1 : zMM} (hC : zCN y mj (.inr (.inr i) :: As) M (none, M1)) (hi : i < 175) (hs : zshp i = .inl (ci, fs)) (hc : vwCl[ci]? = some q)
    (hw : Cond.methodLink mi.1 idx y ∈ zWS) (h1 : Cond.instanceMethod y ∈ zWS ∧ Cond.selects q.1 y y ∈ zWS ∧ Cond.initialized y.cls ∈ zWS ∧ Cond.code y mj.2.1 mj.2.2.1 mj.2.2.2.1 ∈ zWS)
    (hy : y.cls ≠ "java/lang/invoke/MethodHandle" ∧ y.cls ≠ "java/lang/invoke/VarHandle" ∧ (parseMethodDescriptor y.desc).map (fun d => d.parameters.length) = some n) (hn : As.length = n) (hR : mj.2.2.2.2.1 + 1 ≤ mi.2.2.2.2.1 ∧ 8 + (mj.2.2.1 + 11) + mj.2.2.2.2.2 ≤ mi.2.2.2.2.2)
    (hst : stk = As.reverse ++ .inr (.inr i) :: st) (h8 : (st.map zcat).sum ≤ 8) (hd : decode mi.2.1 pc = .ok (.invokevirtual idx, 3)) (kk : zEV mi cs ss Z (pc + 3) L st M1) : zEV mi cs ss Z pc L stk M := zEV.callV hC hi hs hc hw h1 hy hn hR hst h8 hd kk
theorem zEV.callSi {y : MethodName} {mj : zMI} {idx n : Nat} {As stk : List zAV} {r : Int32} {M1 : zMM} (hC : zCN y mj As M (some (.inl r), M1))
    (hw : Cond.methodLink mi.1 idx y ∈ zWS) (h1 : Cond.static y ∈ zWS ∧ Cond.initialized y.cls ∈ zWS ∧ Cond.code y mj.2.1 mj.2.2.1 mj.2.2.2.1 ∈ zWS)
    (hy : y.cls ≠ "java/lang/invoke/MethodHandle" ∧ y.cls ≠ "java/lang/invoke/VarHandle" ∧ (parseMethodDescriptor y.desc).map (fun d => d.parameters.length) = some n) (hn : As.length = n) (hR : mj.2.2.2.2.1 + 1 ≤ mi.2.2.2.2.1 ∧ 8 + (mj.2.2.1 + 11) + mj.2.2.2.2.2 ≤ mi.2.2.2.2.2)
    (hst : stk = As.reverse ++ st) (h8 : (st.map zcat).sum ≤ 8) (hd : decode mi.2.1 pc = .ok (.invokestatic idx, 3)) (kk : zEV mi cs ss Z (pc + 3) L (.inl r :: st) M1) : zEV mi cs ss Z pc L stk M := zEV.callS hC hw h1 hy hn hR hst h8 hd kk
theorem zEV.callSNi {y : MethodName} {mj : zMI} {idx n : Nat} {As stk : List zAV} {r : Int32} {M1 : zMM} (hC : zCN y mj As M (some (.inl r), M1))
    (hw : (mi.1 = RX0 ∧ idx = 68 ∧ y = yX6_isText) ∨ (mi.1 = RX4 ∧ idx = 114 ∧ y = yX6_isBroken)) (h1 : Cond.static y ∈ zWS ∧ Cond.initialized y.cls ∈ zWS ∧ Cond.code y mj.2.1 mj.2.2.1 mj.2.2.2.1 ∈ zWS)
    (hy : y.cls ≠ "java/lang/invoke/MethodHandle" ∧ y.cls ≠ "java/lang/invoke/VarHandle" ∧ (parseMethodDescriptor y.desc).map (fun d => d.parameters.length) = some n) (hn : As.length = n) (hR : mj.2.2.2.2.1 + 1 ≤ mi.2.2.2.2.1 ∧ 8 + (mj.2.2.1 + 11) + mj.2.2.2.2.2 ≤ mi.2.2.2.2.2)
    (hst : stk = As.reverse ++ st) (h8 : (st.map zcat).sum ≤ 8) (hd : decode mi.2.1 pc = .ok (.invokestatic idx, 3)) (kk : zEV mi cs ss Z (pc + 3) L (.inl r :: st) M1) : zEV mi cs ss Z pc L stk M := zEV.callSN hC hw h1 hy hn hR hst h8 hd kk
end ZR2
def zFU : Nat := 2147483648
theorem oob_lt {w : Int32} {n : Nat} (h : ¬ oob w n) : w.toNatClampNeg < n := Nat.not_le.mp fun q => h (Or.inr q)
theorem lf_row {b : Nat} (hb : lf b) {w : Int32} (h : ¬ oob w 3) : b + 4 + 1 * w.toNatClampNeg < 175 ∧ zshp (b + 4 + 1 * w.toNatClampNeg) = .inr (0, 70, 0, 0) := by
  have hw := oob_lt h
  generalize w.toNatClampNeg = k at hw ⊢
  rw [show b + 4 + 1 * k = b + (4 + k) by omega]
  refine ⟨lf_lt hb _ (by omega), (lf_shp hb _ (by omega)).trans ?_⟩
  match k, hw with
  | 0, _ => rfl
  | 1, _ => rfl
  | 2, _ => rfl
theorem lf_row0 {w : Int32} (h : ¬ oob w 3) : 4 + 1 * w.toNatClampNeg < 175 ∧ zshp (4 + 1 * w.toNatClampNeg) = .inr (0, 70, 0, 0) := by
  have := lf_row lf_0 h
  rwa [Nat.zero_add] at this
theorem lf_row1 {w : Int32} (h : ¬ oob w 3) : 14 + 1 * w.toNatClampNeg < 175 ∧ zshp (14 + 1 * w.toNatClampNeg) = .inr (0, 70, 0, 0) := lf_row lf_10 h
theorem st_row (t n : Nat) (h0 : zshp t = .inr (0, n, 0, 0)) (h1 : zshp (t + 1) = .inr (0, n, 0, 0)) (h2 : zshp (t + 2) = .inr (0, n, 0, 0)) (ht : t + 2 < 175) {w : Int32} (h : ¬ oob w 3) : t + 1 * w.toNatClampNeg < 175 ∧ zshp (t + 1 * w.toNatClampNeg) = .inr (0, n, 0, 0) := by
  have hw := oob_lt h
  generalize w.toNatClampNeg = k at hw ⊢
  refine ⟨by omega, ?_⟩
  match k, hw with
  | 0, _ => exact h0
  | 1, _ => exact h1
  | 2, _ => exact h2
theorem st_row125 {w : Int32} (h : ¬ oob w 3) : 125 + 1 * w.toNatClampNeg < 175 ∧ zshp (125 + 1 * w.toNatClampNeg) = .inr (0, 70, 0, 0) := st_row 125 70 rfl rfl rfl (by decide) h
theorem st_row129 {w : Int32} (h : ¬ oob w 3) : 129 + 1 * w.toNatClampNeg < 175 ∧ zshp (129 + 1 * w.toNatClampNeg) = .inr (0, 210, 0, 0) := st_row 129 210 rfl rfl rfl (by decide) h
theorem st_row133 {w : Int32} (h : ¬ oob w 3) : 133 + 1 * w.toNatClampNeg < 175 ∧ zshp (133 + 1 * w.toNatClampNeg) = .inr (0, 210, 0, 0) := st_row 133 210 rfl rfl rfl (by decide) h
theorem st_row137 {w : Int32} (h : ¬ oob w 3) : 137 + 1 * w.toNatClampNeg < 175 ∧ zshp (137 + 1 * w.toNatClampNeg) = .inr (0, 210, 0, 0) := st_row 137 210 rfl rfl rfl (by decide) h
theorem st_row141 {w : Int32} (h : ¬ oob w 3) : 141 + 1 * w.toNatClampNeg < 175 ∧ zshp (141 + 1 * w.toNatClampNeg) = .inr (0, 210, 0, 0) := st_row 141 210 rfl rfl rfl (by decide) h
theorem st_row145 {w : Int32} (h : ¬ oob w 3) : 145 + 1 * w.toNatClampNeg < 175 ∧ zshp (145 + 1 * w.toNatClampNeg) = .inr (0, 210, 0, 0) := st_row 145 210 rfl rfl rfl (by decide) h
theorem lf_arr40 {w : Int32} (h : ¬ oob w 8) : lf (40 + 10 * w.toNatClampNeg) := ⟨4 + w.toNatClampNeg, by have := oob_lt h; omega, by omega⟩
theorem lf_arr20 {w : Int32} (h : ¬ oob w 2) : lf (20 + 10 * w.toNatClampNeg) := ⟨2 + w.toNatClampNeg, by have := oob_lt h; omega, by omega⟩
/-! words by their places -/
theorem ztb {w : Cond} (h : w ∈ tables_1) (g : goodWord w = true) : w ∈ zWS := zin (List.mem_append_right _ h) g
theorem zt1 {w : Cond} (k : Nat) (h : tables_1_1[k]? = some w) (g : goodWord w = true) : w ∈ zWS := ztb (List.mem_append_left _ (List.mem_of_getElem? h)) g
theorem zt2 {w : Cond} (k : Nat) (h : tables_1_2[k]? = some w) (g : goodWord w = true) : w ∈ zWS := ztb (List.mem_append_right _ (List.mem_append_left _ (List.mem_of_getElem? h))) g
theorem zt3 {w : Cond} (k : Nat) (h : tables_1_3[k]? = some w) (g : goodWord w = true) : w ∈ zWS := ztb (List.mem_append_right _ (List.mem_append_right _ (List.mem_append_left _ (List.mem_of_getElem? h)))) g
theorem zt4 {w : Cond} (k : Nat) (h : tables_1_4[k]? = some w) (g : goodWord w = true) : w ∈ zWS := ztb (List.mem_append_right _ (List.mem_append_right _ (List.mem_append_right _ (List.mem_append_left _ (List.mem_of_getElem? h))))) g
theorem zt5 {w : Cond} (k : Nat) (h : tables_1_5[k]? = some w) (g : goodWord w = true) : w ∈ zWS := ztb (List.mem_append_right _ (List.mem_append_right _ (List.mem_append_right _ (List.mem_append_right _ (List.mem_append_left _ (List.mem_of_getElem? h)))))) g
theorem zt6 {w : Cond} (k : Nat) (h : tables_1_6[k]? = some w) (g : goodWord w = true) : w ∈ zWS := ztb (List.mem_append_right _ (List.mem_append_right _ (List.mem_append_right _ (List.mem_append_right _ (List.mem_append_right _ (List.mem_append_left _ (List.mem_of_getElem? h))))))) g
theorem zt7 {w : Cond} (k : Nat) (h : tables_1_7[k]? = some w) (g : goodWord w = true) : w ∈ zWS := ztb (List.mem_append_right _ (List.mem_append_right _ (List.mem_append_right _ (List.mem_append_right _ (List.mem_append_right _ (List.mem_append_right _ (List.mem_of_getElem? h))))))) g
theorem zpr {q : MethodName × Nat} (h : q ∈ lw_privs) (g : goodWord (Cond.selects q.1.cls q.1 q.1) = true) : Cond.selects q.1.cls q.1 q.1 ∈ zWS := zin (List.mem_append_left _ (List.mem_map.mpr ⟨q, h, rfl⟩)) g
theorem zp1 {w : Cond} (k : Nat) {q : MethodName × Nat} (h : lw_privs_1[k]? = some q) (g : w = Cond.selects q.1.cls q.1 q.1) : w ∈ zWS := by rw [g]; exact zpr (List.mem_append_left _ (List.mem_of_getElem? h)) rfl
theorem zp2 {w : Cond} (k : Nat) {q : MethodName × Nat} (h : lw_privs_2[k]? = some q) (g : w = Cond.selects q.1.cls q.1 q.1) : w ∈ zWS := by rw [g]; exact zpr (List.mem_append_right _ (List.mem_append_left _ (List.mem_of_getElem? h))) rfl
theorem zp3 {w : Cond} (k : Nat) {q : MethodName × Nat} (h : lw_privs_3[k]? = some q) (g : w = Cond.selects q.1.cls q.1 q.1) : w ∈ zWS := by rw [g]; exact zpr (List.mem_append_right _ (List.mem_append_right _ (List.mem_append_left _ (List.mem_of_getElem? h)))) rfl
theorem zp4 {w : Cond} (k : Nat) {q : MethodName × Nat} (h : lw_privs_4[k]? = some q) (g : w = Cond.selects q.1.cls q.1 q.1) : w ∈ zWS := by rw [g]; exact zpr (List.mem_append_right _ (List.mem_append_right _ (List.mem_append_right _ (List.mem_append_left _ (List.mem_of_getElem? h))))) rfl
theorem zp5 {w : Cond} (k : Nat) {q : MethodName × Nat} (h : lw_privs_5[k]? = some q) (g : w = Cond.selects q.1.cls q.1 q.1) : w ∈ zWS := by rw [g]; exact zpr (List.mem_append_right _ (List.mem_append_right _ (List.mem_append_right _ (List.mem_append_right _ (List.mem_of_getElem? h))))) rfl
theorem zinz {ws : List Cond} (h : GoodIn lw_tbl ws) (g : ws.all goodWord = true) : ∀ w ∈ ws, w ∈ zWS := fun w hw => zin (h w hw).1 (List.all_eq_true.mp g w hw)
theorem inz0 : ∀ w ∈ u_ws RX0 TX0 13, w ∈ zWS := by
  intro w hw
  obtain ⟨k, hk, rfl⟩ := List.mem_map.mp hw
  have hk := List.mem_range.mp hk
  match k, hk with
  | 0, _ => exact zt1 78 rfl rfl
  | 1, _ => exact zt1 80 rfl rfl
  | 2, _ => exact zt1 82 rfl rfl
  | 3, _ => exact zt1 84 rfl rfl
  | 4, _ => exact zt1 86 rfl rfl
  | 5, _ => exact zt1 88 rfl rfl
  | 6, _ => exact zt1 90 rfl rfl
  | 7, _ => exact zt1 92 rfl rfl
  | 8, _ => exact zt1 94 rfl rfl
  | 9, _ => exact zt1 96 rfl rfl
  | 10, _ => exact zt1 98 rfl rfl
  | 11, _ => exact zt1 100 rfl rfl
  | 12, _ => exact zt1 102 rfl rfl
  | k + 13, hk => exact absurd hk (by omega)
theorem inz1 : ∀ w ∈ u_ws RX1 TX1 3, w ∈ zWS := by
  intro w hw
  obtain ⟨k, hk, rfl⟩ := List.mem_map.mp hw
  have hk := List.mem_range.mp hk
  match k, hk with
  | 0, _ => exact zt1 192 rfl rfl
  | 1, _ => exact zt1 194 rfl rfl
  | 2, _ => exact zt1 196 rfl rfl
  | k + 3, hk => exact absurd hk (by omega)
theorem inz2 : ∀ w ∈ u_ws RX2 TX2 2, w ∈ zWS := by
  intro w hw
  obtain ⟨k, hk, rfl⟩ := List.mem_map.mp hw
  have hk := List.mem_range.mp hk
  match k, hk with
  | 0, _ => exact zt1 224 rfl rfl
  | 1, _ => exact zt1 226 rfl rfl
  | k + 2, hk => exact absurd hk (by omega)
theorem inz3 : ∀ w ∈ u_ws RX3 TX3 5, w ∈ zWS := by
  intro w hw
  obtain ⟨k, hk, rfl⟩ := List.mem_map.mp hw
  have hk := List.mem_range.mp hk
  match k, hk with
  | 0, _ => exact zt1 168 rfl rfl
  | 1, _ => exact zt1 170 rfl rfl
  | 2, _ => exact zt1 172 rfl rfl
  | 3, _ => exact zt1 174 rfl rfl
  | 4, _ => exact zt1 176 rfl rfl
  | k + 5, hk => exact absurd hk (by omega)
theorem inz4 : ∀ w ∈ u_ws RX4 TX4 10, w ∈ zWS := by
  intro w hw
  obtain ⟨k, hk, rfl⟩ := List.mem_map.mp hw
  have hk := List.mem_range.mp hk
  match k, hk with
  | 0, _ => exact zt1 131 rfl rfl
  | 1, _ => exact zt1 133 rfl rfl
  | 2, _ => exact zt1 135 rfl rfl
  | 3, _ => exact zt1 137 rfl rfl
  | 4, _ => exact zt1 139 rfl rfl
  | 5, _ => exact zt1 141 rfl rfl
  | 6, _ => exact zt1 143 rfl rfl
  | 7, _ => exact zt1 145 rfl rfl
  | 8, _ => exact zt1 147 rfl rfl
  | 9, _ => exact zt1 149 rfl rfl
  | k + 10, hk => exact absurd hk (by omega)
theorem inz5 : ∀ w ∈ u_ws RX5 TX5 2, w ∈ zWS := by
  intro w hw
  obtain ⟨k, hk, rfl⟩ := List.mem_map.mp hw
  have hk := List.mem_range.mp hk
  match k, hk with
  | 0, _ => exact zt1 208 rfl rfl
  | 1, _ => exact zt1 210 rfl rfl
  | k + 2, hk => exact absurd hk (by omega)
theorem inz6 : ∀ w ∈ u_ws RX6 TX6 9, w ∈ zWS := by
  intro w hw
  obtain ⟨k, hk, rfl⟩ := List.mem_map.mp hw
  have hk := List.mem_range.mp hk
  match k, hk with
  | 0, _ => exact zt1 239 rfl rfl
  | 1, _ => exact zt2 1 rfl rfl
  | 2, _ => exact zt2 3 rfl rfl
  | 3, _ => exact zt2 5 rfl rfl
  | 4, _ => exact zt2 7 rfl rfl
  | 5, _ => exact zt2 9 rfl rfl
  | 6, _ => exact zt2 11 rfl rfl
  | 7, _ => exact zt2 13 rfl rfl
  | 8, _ => exact zt2 15 rfl rfl
  | k + 9, hk => exact absurd hk (by omega)
theorem inz7 : ∀ w ∈ u_ws RX7 TX7 28, w ∈ zWS := by
  intro w hw
  obtain ⟨k, hk, rfl⟩ := List.mem_map.mp hw
  have hk := List.mem_range.mp hk
  match k, hk with
  | 0, _ => exact zt4 169 rfl rfl
  | 1, _ => exact zt4 171 rfl rfl
  | 2, _ => exact zt4 173 rfl rfl
  | 3, _ => exact zt4 175 rfl rfl
  | 4, _ => exact zt4 177 rfl rfl
  | 5, _ => exact zt4 179 rfl rfl
  | 6, _ => exact zt4 181 rfl rfl
  | 7, _ => exact zt4 183 rfl rfl
  | 8, _ => exact zt4 185 rfl rfl
  | 9, _ => exact zt4 187 rfl rfl
  | 10, _ => exact zt4 189 rfl rfl
  | 11, _ => exact zt4 191 rfl rfl
  | 12, _ => exact zt4 193 rfl rfl
  | 13, _ => exact zt4 195 rfl rfl
  | 14, _ => exact zt4 197 rfl rfl
  | 15, _ => exact zt4 199 rfl rfl
  | 16, _ => exact zt4 201 rfl rfl
  | 17, _ => exact zt4 203 rfl rfl
  | 18, _ => exact zt4 205 rfl rfl
  | 19, _ => exact zt4 207 rfl rfl
  | 20, _ => exact zt4 209 rfl rfl
  | 21, _ => exact zt4 211 rfl rfl
  | 22, _ => exact zt4 213 rfl rfl
  | 23, _ => exact zt4 215 rfl rfl
  | 24, _ => exact zt4 217 rfl rfl
  | 25, _ => exact zt4 219 rfl rfl
  | 26, _ => exact zt4 221 rfl rfl
  | 27, _ => exact zt4 223 rfl rfl
  | k + 28, hk => exact absurd hk (by omega)
