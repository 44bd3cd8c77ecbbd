/-! THE CORE: the memory as two functions of address and place, the shapes as a list; one step of the machine as a relation -/
def gx_cl : List vw_C := [(RX0, TX0, 7), (RX1, TX1, 3), (RX2, TX2, 4), (RX3, TX3, 7), (RX4, TX4, 11), (RX5, TX5, 10), (RX6, TX6, 2), (RX7, TX7, 8), (RX8, TX8, 6), (RX9, TX9, 9), (RX10, TX10, 4), (RX11, TX11, 10), (RX12, TX12, 57)]
def gx_ftl : List (List Nat) := [[4, 4, 4, 0, 0, 0, 0], [4, 4, 0], [0, 4, 4, 0], [4, 4, 4, 4, 4, 0, 0], [4, 4, 4, 4, 4, 4, 0, 0, 0, 0, 0], [0, 0, 0, 4, 4, 4, 4, 4, 4, 4], [0, 4], [3, 3, 4, 0, 0, 0, 0, 0], [4, 0, 0, 0, 0, 0], [4, 4, 4, 4, 4, 4, 0, 0, 0], [4, 4, 4, 0], [4, 4, 4, 4, 4, 4, 4, 4, 4, 4], [0, 4, 4, 4, 4, 4, 4, 4, 4, 4, 0, 0, 0, 0, 0, 3, 0, 0, 0, 4, 4, 0, 0, 1, 0, 0, 0, 0, 4, 4, 4, 4, 4, 0, 0, 4, 4, 4, 0, 4, 4, 0, 4, 4, 0, 4, 0, 4, 0, 0, 0, 0, 4, 4, 4, 0, 4]]
def gx_ft (ci k : Nat) : Nat := (gx_ftl.getD ci []).getD k 0
def gx_tyf (ci : Nat) : Nat → FieldType := match ci with
  | 0 => tyX0
  | 1 => tyX1
  | 2 => tyX2
  | 3 => tyX3
  | 4 => tyX4
  | 5 => tyX5
  | 6 => tyX6
  | 7 => tyX7
  | 8 => tyX8
  | 9 => tyX9
  | 10 => tyX10
  | 11 => tyX11
  | _ => tyX12
def gx_TX (ci : Nat) : u_T := match ci with
  | 0 => TX0
  | 1 => TX1
  | 2 => TX2
  | 3 => TX3
  | 4 => TX4
  | 5 => TX5
  | 6 => TX6
  | 7 => TX7
  | 8 => TX8
  | 9 => TX9
  | 10 => TX10
  | 11 => TX11
  | _ => TX12
def gx_RX (ci : Nat) : String := match ci with
  | 0 => RX0
  | 1 => RX1
  | 2 => RX2
  | 3 => RX3
  | 4 => RX4
  | 5 => RX5
  | 6 => RX6
  | 7 => RX7
  | 8 => RX8
  | 9 => RX9
  | 10 => RX10
  | 11 => RX11
  | _ => RX12
def gx_NX (ci : Nat) : Nat := match ci with
  | 0 => 7
  | 1 => 3
  | 2 => 4
  | 3 => 7
  | 4 => 11
  | 5 => 10
  | 6 => 2
  | 7 => 8
  | 8 => 6
  | 9 => 9
  | 10 => 4
  | 11 => 10
  | _ => 57
def gx_T : List Cond := lw_tbl.filter goodWord
theorem gx_Tg : ∀ w ∈ gx_T, goodWord w = true := fun w hw => (List.mem_filter.mp hw).2
theorem gx_in {w : Cond} (i : Nat) (h : lw_tbl[i]? = some w) (hg : goodWord w = true) : w ∈ gx_T := List.mem_filter.mpr ⟨List.mem_of_getElem? h, hg⟩
theorem gx_ins {ws : List Cond} (ps : List Nat) (h : ws = ps.filterMap (fun i => lw_tbl[i]?)) (hg : ws.all goodWord = true) : ∀ w ∈ ws, w ∈ gx_T := by
  intro w hw
  have h1 := List.all_eq_true.mp hg w hw
  rw [h] at hw
  obtain ⟨i, -, hi⟩ := List.mem_filterMap.mp hw
  exact gx_in i hi h1
theorem gx_in1 {w : Cond} (i : Nat) (h : tables_1_1[i]? = some w) (hg : goodWord w = true) : w ∈ gx_T := List.mem_filter.mpr ⟨List.mem_append_right _ (show w ∈ tables_1 from List.mem_append_left _ (List.mem_of_getElem? h)), hg⟩
theorem gx_in2 {w : Cond} (i : Nat) (h : tables_1_2[i]? = some w) (hg : goodWord w = true) : w ∈ gx_T := List.mem_filter.mpr ⟨List.mem_append_right _ (show w ∈ tables_1 from List.mem_append_right _ (List.mem_append_left _ (List.mem_of_getElem? h))), hg⟩
theorem gx_in3 {w : Cond} (i : Nat) (h : tables_1_3[i]? = some w) (hg : goodWord w = true) : w ∈ gx_T := List.mem_filter.mpr ⟨List.mem_append_right _ (show w ∈ tables_1 from List.mem_append_right _ (List.mem_append_right _ (List.mem_append_left _ (List.mem_of_getElem? h)))), hg⟩
theorem gx_in4 {w : Cond} (i : Nat) (h : tables_1_4[i]? = some w) (hg : goodWord w = true) : w ∈ gx_T := List.mem_filter.mpr ⟨List.mem_append_right _ (show w ∈ tables_1 from List.mem_append_right _ (List.mem_append_right _ (List.mem_append_right _ (List.mem_append_left _ (List.mem_of_getElem? h))))), hg⟩
theorem gx_in5 {w : Cond} (i : Nat) (h : tables_1_5[i]? = some w) (hg : goodWord w = true) : w ∈ gx_T := List.mem_filter.mpr ⟨List.mem_append_right _ (show w ∈ tables_1 from List.mem_append_right _ (List.mem_append_right _ (List.mem_append_right _ (List.mem_append_right _ (List.mem_append_left _ (List.mem_of_getElem? h)))))), hg⟩
theorem gx_in6 {w : Cond} (i : Nat) (h : tables_1_6[i]? = some w) (hg : goodWord w = true) : w ∈ gx_T := List.mem_filter.mpr ⟨List.mem_append_right _ (show w ∈ tables_1 from List.mem_append_right _ (List.mem_append_right _ (List.mem_append_right _ (List.mem_append_right _ (List.mem_append_right _ (List.mem_append_left _ (List.mem_of_getElem? h))))))), hg⟩
theorem gx_in7 {w : Cond} (i : Nat) (h : tables_1_7[i]? = some w) (hg : goodWord w = true) : w ∈ gx_T := List.mem_filter.mpr ⟨List.mem_append_right _ (show w ∈ tables_1 from List.mem_append_right _ (List.mem_append_right _ (List.mem_append_right _ (List.mem_append_right _ (List.mem_append_right _ (List.mem_append_right _ (List.mem_append_left _ (List.mem_of_getElem? h)))))))), hg⟩
theorem gx_in8 {w : Cond} (i : Nat) (h : tables_1_8[i]? = some w) (hg : goodWord w = true) : w ∈ gx_T := List.mem_filter.mpr ⟨List.mem_append_right _ (show w ∈ tables_1 from List.mem_append_right _ (List.mem_append_right _ (List.mem_append_right _ (List.mem_append_right _ (List.mem_append_right _ (List.mem_append_right _ (List.mem_append_right _ (List.mem_append_left _ (List.mem_of_getElem? h))))))))), hg⟩
theorem gx_in9 {w : Cond} (i : Nat) (h : tables_1_9[i]? = some w) (hg : goodWord w = true) : w ∈ gx_T := List.mem_filter.mpr ⟨List.mem_append_right _ (show w ∈ tables_1 from List.mem_append_right _ (List.mem_append_right _ (List.mem_append_right _ (List.mem_append_right _ (List.mem_append_right _ (List.mem_append_right _ (List.mem_append_right _ (List.mem_append_right _ (List.mem_of_getElem? h))))))))), hg⟩
theorem gx_ws0 : ∀ w ∈ u_ws RX0 TX0 7, w ∈ gx_T := gx_ins [473, 475, 477, 479, 481, 483, 485] (by decide +kernel) (by decide +kernel)
theorem gx_ws1 : ∀ w ∈ u_ws RX1 TX1 3, w ∈ gx_T := gx_ins [498, 500, 502] (by decide +kernel) (by decide +kernel)
theorem gx_ws2 : ∀ w ∈ u_ws RX2 TX2 4, w ∈ gx_T := gx_ins [279, 281, 283, 285] (by decide +kernel) (by decide +kernel)
theorem gx_ws3 : ∀ w ∈ u_ws RX3 TX3 7, w ∈ gx_T := gx_ins [441, 443, 445, 447, 449, 451, 453] (by decide +kernel) (by decide +kernel)
theorem gx_ws4 : ∀ w ∈ u_ws RX4 TX4 11, w ∈ gx_T := gx_ins [402, 404, 406, 408, 410, 412, 414, 416, 418, 420, 422] (by decide +kernel) (by decide +kernel)
theorem gx_ws5 : ∀ w ∈ u_ws RX5 TX5 10, w ∈ gx_T := gx_ins [240, 242, 244, 246, 248, 250, 252, 254, 256, 258] (by decide +kernel) (by decide +kernel)
theorem gx_ws6 : ∀ w ∈ u_ws RX6 TX6 2, w ∈ gx_T := gx_ins [299, 301] (by decide +kernel) (by decide +kernel)
theorem gx_ws7 : ∀ w ∈ u_ws RX7 TX7 8, w ∈ gx_T := gx_ins [524, 526, 528, 530, 532, 534, 536, 538] (by decide +kernel) (by decide +kernel)
theorem gx_ws8 : ∀ w ∈ u_ws RX8 TX8 6, w ∈ gx_T := gx_ins [365, 367, 369, 371, 373, 375] (by decide +kernel) (by decide +kernel)
theorem gx_ws9 : ∀ w ∈ u_ws RX9 TX9 9, w ∈ gx_T := gx_ins [323, 325, 327, 329, 331, 333, 335, 337, 339] (by decide +kernel) (by decide +kernel)
theorem gx_ws10 : ∀ w ∈ u_ws RX10 TX10 4, w ∈ gx_T := gx_ins [554, 556, 558, 560] (by decide +kernel) (by decide +kernel)
theorem gx_ws11 : ∀ w ∈ u_ws RX11 TX11 10, w ∈ gx_T := gx_ins [573, 575, 577, 579, 581, 583, 585, 587, 589, 591] (by decide +kernel) (by decide +kernel)
theorem gx_ws12 : ∀ w ∈ u_ws RX12 TX12 57, w ∈ gx_T := gx_ins [1493, 1495, 1497, 1499, 1501, 1503, 1505, 1507, 1509, 1511, 1513, 1515, 1517, 1519, 1521, 1523, 1525, 1527, 1529, 1531, 1533, 1535, 1537, 1539, 1541, 1543, 1545, 1547, 1549, 1551, 1553, 1555, 1557, 1559, 1561, 1563, 1565, 1567, 1569, 1571, 1573, 1575, 1577, 1579, 1581, 1583, 1585, 1587, 1589, 1591, 1593, 1595, 1597, 1599, 1601, 1603, 1605] (by decide +kernel) (by decide +kernel)
theorem gx_wsi : ∀ ci, ci < 13 → ∀ w ∈ u_ws (gx_RX ci) (gx_TX ci) (gx_NX ci), w ∈ gx_T := by
  intro ci h
  match ci, h with
  | 0, _ => exact gx_ws0
  | 1, _ => exact gx_ws1
  | 2, _ => exact gx_ws2
  | 3, _ => exact gx_ws3
  | 4, _ => exact gx_ws4
  | 5, _ => exact gx_ws5
  | 6, _ => exact gx_ws6
  | 7, _ => exact gx_ws7
  | 8, _ => exact gx_ws8
  | 9, _ => exact gx_ws9
  | 10, _ => exact gx_ws10
  | 11, _ => exact gx_ws11
  | 12, _ => exact gx_ws12
  | n + 13, h => omega
theorem gx_tyi : ∀ ci, ci < 13 → ∀ k, k < gx_NX ci → parseFieldDescriptor (gx_TX ci k).2.2.1 = some (gx_tyf ci k) := by
  intro ci h
  match ci, h with
  | 0, _ => exact tyX0_ok
  | 1, _ => exact tyX1_ok
  | 2, _ => exact tyX2_ok
  | 3, _ => exact tyX3_ok
  | 4, _ => exact tyX4_ok
  | 5, _ => exact tyX5_ok
  | 6, _ => exact tyX6_ok
  | 7, _ => exact tyX7_ok
  | 8, _ => exact tyX8_ok
  | 9, _ => exact tyX9_ok
  | 10, _ => exact tyX10_ok
  | 11, _ => exact tyX11_ok
  | 12, _ => exact tyX12_ok
  | n + 13, h => omega
theorem gx_nmi : ∀ ci, ci < 13 → ∀ a, a < gx_NX ci → ∀ b, b < gx_NX ci → a ≠ b → (gx_TX ci a).2.1 ≠ (gx_TX ci b).2.1 := by
  intro ci h
  match ci, h with
  | 0, _ => exact nmX0
  | 1, _ => exact nmX1
  | 2, _ => exact nmX2
  | 3, _ => exact nmX3
  | 4, _ => exact nmX4
  | 5, _ => exact nmX5
  | 6, _ => exact nmX6
  | 7, _ => exact nmX7
  | 8, _ => exact nmX8
  | 9, _ => exact nmX9
  | 10, _ => exact nmX10
  | 11, _ => exact nmX11
  | 12, _ => exact nmX12
  | n + 13, h => omega
theorem gx_cli : ∀ ci, ci < 13 → gx_cl[ci]? = some (gx_RX ci, gx_TX ci, gx_NX ci) := by
  intro ci h
  match ci, h with
  | 0, _ => rfl
  | 1, _ => rfl
  | 2, _ => rfl
  | 3, _ => rfl
  | 4, _ => rfl
  | 5, _ => rfl
  | 6, _ => rfl
  | 7, _ => rfl
  | 8, _ => rfl
  | 9, _ => rfl
  | 10, _ => rfl
  | 11, _ => rfl
  | 12, _ => rfl
  | n + 13, h => omega
abbrev gx_M : Type := (Nat → Nat → Int32) × (Nat → Nat → Int64)
abbrev gx_G : Type := List (Nat × Nat × List (Option Nat))
abbrev gx_Y : Type := MethodName × ByteArray × Nat × Option FieldType
abbrev gx_E : Type := va_G × (Nat → ClassId) × Nat × (State → Heap → Prop)
def gx_w (y : gx_Y) : List Cond := .code y.1 y.2.1 y.2.2.1 y.2.2.2 :: gx_T
def gx_tys (dA : Nat → ClassId) : List (ClassId × FieldType) := [(dA 0, .int), (dA 1, .byte), (dA 2, .boolean), (dA 3, .long), (dA 4, .object RX5), (dA 5, .object RX2), (dA 6, .object RX6), (dA 7, .object RX9)]
/-- the room of shapes -/
def gx_sz : gx_G → Nat
  | [] => 0
  | k :: g => k.2.1 + gx_sz g
/-- an object's field -/
def gx_fv (E : gx_E) (ci : Nat) (refs : List (Option Nat)) (μ : gx_M) (a k : Nat) : Value :=
  if gx_ft ci k = 4 then va_rf ((refs.getD k none).map (fun q => E.2.2.1 + q)) else if gx_ft ci k = 3 then .long (μ.2 a k) else .int (μ.1 a k)
/-- what lies at an address: kinds below 50 are classes; 50 int, 51 byte, 52 boolean, 53 long, from 54 on references -/
def gx_ent (E : gx_E) (μ : gx_M) (a : Nat) (kd : Nat × Nat × List (Option Nat)) : va_E :=
  if kd.1 < 50 then .inr (kd.1, (List.range kd.2.1).map (gx_fv E kd.1 kd.2.2 μ a))
  else if kd.1 = 53 then .inl (E.2.1 3, kd.2.1, .inr (.inl (μ.2 a)))
  else if kd.1 < 53 then .inl (E.2.1 (kd.1 - 50), kd.2.1, .inl (μ.1 a))
  else .inl (E.2.1 (kd.1 - 50), kd.2.1, .inr (.inr (.inr (.inr (fun j => (kd.2.2.getD j none).map (fun q => E.2.2.1 + q))))))
def gx_ws (E : gx_E) (G : gx_G) (μ : gx_M) : va_W := G.zipIdx.map (fun q => (E.2.2.1 + q.2, gx_ent E μ q.2 q.1))
theorem gx_at (E : gx_E) {G : gx_G} (μ : gx_M) {a : Nat} {kd : Nat × Nat × List (Option Nat)} (h : G[a]? = some kd) : (gx_ws E G μ)[a]? = some (E.2.2.1 + a, gx_ent E μ a kd) := by
  simp [gx_ws, List.getElem?_zipIdx, h]
theorem gx_atN (E : gx_E) {G : gx_G} (μ : gx_M) {a : Nat} (h : G[a]? = none) : (gx_ws E G μ)[a]? = none := by
  simp [gx_ws, List.getElem?_zipIdx, h]
theorem gx_ad {E : gx_E} {G : gx_G} {μ : gx_M} {i : Nat} {p : Nat × va_E} (h : (gx_ws E G μ)[i]? = some p) : p.1 = E.2.2.1 + i ∧ i < G.length := by
  cases hg : G[i]? with
  | none => rw [gx_atN E μ hg] at h; cases h
  | some kd =>
    rw [gx_at E μ hg] at h
    cases h
    exact ⟨rfl, (List.getElem?_eq_some_iff.mp hg).1⟩
theorem gx_D (E : gx_E) (G : gx_G) (μ : gx_M) : va_D (fun q => E.2.2.1 ≤ q) (gx_ws E G μ) := by
  refine ⟨fun i j p q hi hj e => ?_, fun k q h => ?_⟩
  · have h1 := (gx_ad hi).1
    have h2 := (gx_ad hj).1
    omega
  · have h1 := (gx_ad h).1
    show E.2.2.1 ≤ q.1
    omega
/-- one cell is another -/
theorem gx_set {E : gx_E} {G G' : gx_G} {μ μ' : gx_M} {a : Nat} {kd kd' : Nat × Nat × List (Option Nat)} (h : G[a]? = some kd) (h' : G' = G.set a kd') (hs : ∀ b kb, b ≠ a → G[b]? = some kb → gx_ent E μ' b kb = gx_ent E μ b kb) :
    gx_ws E G' μ' = (gx_ws E G μ).set a (E.2.2.1 + a, gx_ent E μ' a kd') := by
  have hl := (List.getElem?_eq_some_iff.mp h).1
  subst h'
  apply List.ext_getElem?
  intro i
  by_cases hi : i = a
  · subst hi
    rw [gx_at E μ' (kd := kd') (by rw [List.getElem?_set_self hl])]
    rw [List.getElem?_set_self (by have := gx_at E μ h; exact (List.getElem?_eq_some_iff.mp this).1)]
  · rw [List.getElem?_set_ne (Ne.symm hi)]
    cases hg : G[i]? with
    | none => rw [gx_atN E μ hg, gx_atN E μ' (by rw [List.getElem?_set_ne (Ne.symm hi)]; exact hg)]
    | some kb => rw [gx_at E μ hg, gx_at E μ' (by rw [List.getElem?_set_ne (Ne.symm hi)]; exact hg), hs i kb hi hg]
def gx_R (E : gx_E) (G : gx_G) (μ : gx_M) (H : Heap) : Prop := va_P E.1 gx_cl (gx_ws E G μ) H
def gx_Xo (E : gx_E) : Prop := (∀ (s U : State) (H : Heap), s.WarmedH U.vm → E.2.2.2 s H → E.2.2.2 U H) ∧ (∀ (u U : State) (H : Heap), U.vm = u.vm → E.2.2.2 u H → E.2.2.2 U H) ∧ (∀ (U : State) (H H1 : Heap), E.2.2.2 U H → (∀ q : Nat, q < H.size → ¬ E.2.2.1 ≤ q → H1[q]? = H[q]?) → E.2.2.2 U H1)
/-! locals, by their places -/
def gx_lg : List (Option Value) → Nat → Option Value
  | [], _ => none
  | x :: _, 0 => x
  | _ :: t, n + 1 => gx_lg t n
def gx_ls : List (Option Value) → Nat → Option Value → List (Option Value)
  | [], 0, v => [v]
  | [], n + 1, v => none :: gx_ls [] n v
  | _ :: t, 0, v => v :: t
  | x :: t, n + 1, v => x :: gx_ls t n v
def gx_wd (o : Option Value) : Bool := match o with
  | some v => v.category == 2
  | none => false
def gx_kl (ls : List (Option Value)) (i : Nat) : List (Option Value) := match i with
  | 0 => ls
  | j + 1 => if gx_wd (gx_lg ls j) then gx_ls ls j none else ls
def gx_s1 (ls : List (Option Value)) (i : Nat) (v : Value) : List (Option Value) := gx_ls (gx_kl ls i) i (some v)
def gx_s2 (ls : List (Option Value)) (i : Nat) (v : Value) : List (Option Value) := gx_ls (gx_ls (gx_kl ls i) i (some v)) (i + 1) none
def gx_L (ls : List (Option Value)) (arr : Array Slot) (n : Nat) : Prop := arr.size = n ∧ lv_wf arr ∧ ∀ (i : Nat) (v : Value), gx_lg ls i = some v → arr[i]? = some (.val v)
theorem gx_lg_ls (ls : List (Option Value)) (i : Nat) (v : Option Value) (j : Nat) : gx_lg (gx_ls ls i v) j = if j = i then v else gx_lg ls j := by
  induction ls generalizing i j with
  | nil =>
    induction i generalizing j with
    | zero => cases j <;> simp [gx_ls, gx_lg]
    | succ i ih => cases j <;> simp [gx_ls, gx_lg, ih]
  | cons x t ih =>
    cases i with
    | zero => cases j <;> simp [gx_ls, gx_lg]
    | succ i => cases j <;> simp [gx_ls, gx_lg, ih]
def gx_en (ls : List (Option Value)) : List (Nat × Value) := (List.range ls.length).filterMap (fun j => (gx_lg ls j).map (fun v => (j, v)))
theorem gx_lg_lt {ls : List (Option Value)} {j : Nat} {v : Value} (h : gx_lg ls j = some v) : j < ls.length := by
  induction ls generalizing j with
  | nil => simp [gx_lg] at h
  | cons x t ih =>
    cases j with
    | zero => simp
    | succ j => have := ih (j := j) (by simpa [gx_lg] using h); simp; omega
theorem gx_en_mem {ls : List (Option Value)} {j : Nat} {v : Value} : (j, v) ∈ gx_en ls ↔ gx_lg ls j = some v := by
  constructor
  · intro h
    obtain ⟨i, -, hi⟩ := List.mem_filterMap.mp h
    cases hg : gx_lg ls i with
    | none => rw [hg] at hi; cases hi
    | some w => rw [hg] at hi; cases hi; exact hg
  · intro h
    exact List.mem_filterMap.mpr ⟨j, List.mem_range.mpr (gx_lg_lt h), by rw [h]; rfl⟩
theorem gx_L_has {ls : List (Option Value)} {arr : Array Slot} {n : Nat} (h : gx_L ls arr n) : lv_has arr n (gx_en ls) := ⟨h.1, h.2.1, fun q hq => h.2.2 q.1 q.2 (gx_en_mem.mp (show (q.1, q.2) ∈ _ from hq))⟩
theorem gx_kl_get {ls : List (Option Value)} {i j : Nat} {w : Value} (h : gx_lg (gx_kl ls i) j = some w) : gx_lg ls j = some w ∧ (j + 1 = i → w.category ≠ 2) := by
  cases i with
  | zero => exact ⟨h, fun e => by omega⟩
  | succ i =>
    unfold gx_kl at h
    simp only at h
    by_cases hw : gx_wd (gx_lg ls i) = true
    · rw [if_pos hw, gx_lg_ls] at h
      by_cases hj : j = i
      · rw [if_pos hj] at h; cases h
      · rw [if_neg hj] at h; exact ⟨h, fun e => by omega⟩
    · rw [if_neg hw] at h
      refine ⟨h, fun e hc => ?_⟩
      have : j = i := by omega
      subst this
      rw [h] at hw
      simp [gx_wd, hc] at hw
theorem gx_L_s1 {ls : List (Option Value)} {arr : Array Slot} {n i : Nat} {v : Value} (h : lv_has arr n ((i, v) :: (gx_en ls).filter (fun q => !(q.1 == i) && !(q.1 + 1 == i && q.2.category == 2)))) : gx_L (gx_s1 ls i v) arr n := by
  refine ⟨h.1, h.2.1, fun j w hj => ?_⟩
  unfold gx_s1 at hj
  rw [gx_lg_ls] at hj
  by_cases hji : j = i
  · rw [if_pos hji] at hj
    cases hj
    subst hji
    exact h.2.2 (j, v) List.mem_cons_self
  · rw [if_neg hji] at hj
    obtain ⟨h1, h2⟩ := gx_kl_get hj
    refine h.2.2 (j, w) (List.mem_cons_of_mem _ (List.mem_filter.mpr ⟨gx_en_mem.mpr h1, ?_⟩))
    by_cases e : j + 1 = i
    · simp [hji, h2 e]
    · simp [hji, e]
theorem gx_L_s2 {ls : List (Option Value)} {arr : Array Slot} {n i : Nat} {v : Value} (h : lv_has arr n ((i, v) :: (gx_en ls).filter (fun q => !(q.1 == i) && (!(q.1 == i + 1) && !(q.1 + 1 == i && q.2.category == 2))))) : gx_L (gx_s2 ls i v) arr n := by
  refine ⟨h.1, h.2.1, fun j w hj => ?_⟩
  unfold gx_s2 at hj
  rw [gx_lg_ls] at hj
  by_cases hj1 : j = i + 1
  · rw [if_pos hj1] at hj; cases hj
  · rw [if_neg hj1, gx_lg_ls] at hj
    by_cases hji : j = i
    · rw [if_pos hji] at hj
      cases hj
      subst hji
      exact h.2.2 (j, v) List.mem_cons_self
    · rw [if_neg hji] at hj
      obtain ⟨h1, h2⟩ := gx_kl_get hj
      refine h.2.2 (j, w) (List.mem_cons_of_mem _ (List.mem_filter.mpr ⟨gx_en_mem.mpr h1, ?_⟩))
      by_cases e : j + 1 = i
      · simp [hji, hj1, h2 e]
      · simp [hji, hj1, e]
/-- the locals at a method's entry -/
def gx_el : List Value → List (Option Value)
  | [] => []
  | v :: vs => if v.category = 2 then some v :: none :: gx_el vs else some v :: gx_el vs
theorem gx_el_mem : ∀ (vs : List Value) (k j : Nat) (w : Value), gx_lg (gx_el vs) j = some w → (k + j, w) ∈ lv_args k vs
  | [], k, j, w, h => by simp [gx_el, gx_lg] at h
  | v :: vs, k, j, w, h => by
    unfold gx_el at h
    unfold lv_args
    by_cases hc : v.category = 2
    · rw [if_pos hc] at h
      rw [if_pos hc]
      match j, h with
      | 0, h => simp [gx_lg] at h; subst h; exact List.mem_cons_self
      | 1, h => simp [gx_lg] at h
      | j + 2, h =>
        have := gx_el_mem vs (k + 2) j w (by simpa [gx_lg] using h)
        rw [show k + (j + 2) = k + 2 + j by omega]
        exact List.mem_cons_of_mem _ this
    · rw [if_neg hc] at h
      rw [if_neg hc]
      match j, h with
      | 0, h => simp [gx_lg] at h; subst h; exact List.mem_cons_self
      | j + 1, h =>
        have := gx_el_mem vs (k + 1) j w (by simpa [gx_lg] using h)
        rw [show k + (j + 1) = k + 1 + j by omega]
        exact List.mem_cons_of_mem _ this
theorem gx_el_L {vs : List Value} {arr : Array Slot} {n : Nat} (h : lv_has arr n (lv_args 0 vs)) : gx_L (gx_el vs) arr n := ⟨h.1, h.2.1, fun i v hi => h.2.2 (i, v) (by have := gx_el_mem vs 0 i v hi; rwa [Nat.zero_add] at this)⟩
/-! contracts and steps -/
abbrev gx_K : Type := Nat × List (Option Value) × List Value × gx_G × gx_M
def gx_Pre (E : gx_E) (G : gx_G) (μ : gx_M) (U : State) : Prop := gx_R E G μ U.heap ∧ va_K E.1 gx_cl (gx_tys E.2.1) U ∧ E.2.2.2 U U.heap ∧ U.heap.size = E.2.2.1 + G.length
def gx_Post (E : gx_E) (r : Option Value) (G : gx_G) (μ : gx_M) : Array Value → State → Outcome → State → Prop := fun _ st oc t => oc = .returned r ∧ gx_R E G μ t.heap ∧ va_F (fun q => E.2.2.1 ≤ q) st t
def gx_rm (d mc ms : Nat) : Room := { frames := d, cells := mc, slots := ms, locals := 100 * d }
def gEv (E : gx_E) (l : Launch) (d : Nat) (y : gx_Y) (as : List Value) (G : gx_G) (μ : gx_M) (r : Option Value) (G' : gx_G) (μ' : gx_M) : Prop :=
  (G.length ≤ G'.length ∧ gx_sz G ≤ gx_sz G') ∧ (gx_Xo E → Met l y.1 (gx_w y) (gx_rm d (G'.length - G.length) (gx_sz G' - gx_sz G)) (va_Pc as (gx_Pre E G μ)) (gx_Post E r G' μ') (G'.length - G.length) (gx_sz G' - gx_sz G) (fun q => E.2.2.1 ≤ q))
def gx_C (E : gx_E) (y : gx_Y) (d n0 : Nat) (p : Program) (R : Room) (s : State) (m : MethodId) (args : Array Value) (meth : Method) (c : Code) : Prop :=
  p.tables.exec = Jvm.exec ∧ c.code = y.2.1 ∧ c.maxLocals = y.2.2.1 ∧ meth.sig.returnType = y.2.2.2 ∧ s.vm.findClass y.1.cls = some m.cls ∧ (∀ w ∈ gx_w y, w.before args s = true) ∧ meth.locks = false ∧ meth.name = y.1.name ∧ d ≤ R.frames ∧ 100 * d ≤ R.locals ∧ va_K E.1 gx_cl (gx_tys E.2.1) s ∧ E.2.2.2 s s.heap ∧ s.heap.size = E.2.2.1 + n0 ∧ gx_Xo E
/-- the machine, at an abstract configuration -/
def gx_W (E : gx_E) (l : Launch) (y : gx_Y) (p : Program) (e : Env) (R : Room) (s : State) (m : MethodId) (args : Array Value) (below : List Frame) (meth : Method) (c : Code) (n0 z0 : Nat) (Q : State → Prop) (k : gx_K) : Prop :=
  ∀ (H : Heap) (arr : Array Slot) (locs : List Loc), gx_L k.2.1 arr y.2.2.1 → gx_R E k.2.2.2.1 k.2.2.2.2 H → va_S (fun q => E.2.2.1 ≤ q) s.heap H locs → W p l e R s m args below meth c H locs (k.2.2.2.1.length - n0) (gx_sz k.2.2.2.1 - z0) Q (F0 m k.1 arr k.2.2.1)
def gS (E : gx_E) (l : Launch) (y : gx_Y) (d : Nat) (k k' : gx_K) : Prop :=
  (k.2.2.2.1.length ≤ k'.2.2.2.1.length ∧ gx_sz k.2.2.2.1 ≤ gx_sz k'.2.2.2.1) ∧ ∀ (p : Program) (e : Env) (R : Room) (s : State) (m : MethodId) (args : Array Value) (below : List Frame) (meth : Method) (c : Code) (n0 z0 : Nat) (Q : State → Prop), gx_C E y d n0 p R s m args meth c →
    n0 ≤ k.2.2.2.1.length → z0 ≤ gx_sz k.2.2.2.1 → k'.2.2.2.1.length - n0 ≤ R.cells → gx_sz k'.2.2.2.1 - z0 ≤ R.slots → gx_W E l y p e R s m args below meth c n0 z0 Q k' → gx_W E l y p e R s m args below meth c n0 z0 Q k
theorem stp_rf {E : gx_E} {l : Launch} {y : gx_Y} {d : Nat} {k : gx_K} : gS E l y d k k := ⟨⟨Nat.le_refl _, Nat.le_refl _⟩, fun _ _ _ _ _ _ _ _ _ _ _ _ _ _ _ _ _ h => h⟩
theorem stp_tr {E : gx_E} {l : Launch} {y : gx_Y} {d : Nat} {k k1 k2 : gx_K} (h1 : gS E l y d k k1) (h2 : gS E l y d k1 k2) : gS E l y d k k2 :=
  ⟨⟨Nat.le_trans h1.1.1 h2.1.1, Nat.le_trans h1.1.2 h2.1.2⟩, fun p e R s m args below meth c n0 z0 Q C a1 a2 a3 a4 w =>
    h1.2 p e R s m args below meth c n0 z0 Q C a1 a2 (Nat.le_trans (Nat.sub_le_sub_right h2.1.1 n0) a3) (Nat.le_trans (Nat.sub_le_sub_right h2.1.2 z0) a4)
      (h2.2 p e R s m args below meth c n0 z0 Q C (Nat.le_trans a1 h1.1.1) (Nat.le_trans a2 h1.1.2) a3 a4 w)⟩
theorem gx_lb {E : gx_E} {G : gx_G} {μ : gx_M} {H H0 : Heap} {A : Nat → Prop} {locs : List Loc} (hR : gx_R E G μ H) (hS : va_S A H0 H locs) (h0 : E.2.2.1 ≤ H0.size) : E.2.2.1 + G.length ≤ H.size := by
  cases hg : G.length with
  | zero => exact Nat.le_trans h0 hS.1
  | succ n =>
    have hn : n < G.length := by omega
    have h1 := (hR n _ (gx_at E μ (List.getElem?_eq_getElem hn))).lt
    have h2 : E.2.2.1 + n < H.size := h1
    omega
theorem gx_sized {p : Program} {l : Launch} {e : Env} {R : Room} {s : State} {m : MethodId} {args : Array Value} {below : List Frame} {meth : Method} {c : Code} {H : Heap} {locs : List Loc} {cells slots : Nat} {Q : State → Prop} {g : JFrame}
    (h : H.size ≤ s.heap.size + cells → W p l e R s m args below meth c H locs cells slots Q g) : W p l e R s m args below meth c H locs cells slots Q g := fun T hT X => h (by rw [← hT]; exact X.same.2.2.1) T hT X
/-- a step that makes nothing -/
theorem stp_g {E : gx_E} {l : Launch} {y : gx_Y} {d : Nat} {pc pc' : Nat} {ls ls' : List (Option Value)} {st st' : List Value} {G : gx_G} {μ μ' : gx_M}
    (h : ∀ (p : Program) (e : Env) (R : Room) (s : State) (m : MethodId) (args : Array Value) (below : List Frame) (meth : Method) (c : Code) (Q : State → Prop) (n0 cells slots : Nat), gx_C E y d n0 p R s m args meth c → cells ≤ R.cells ∧ slots ≤ R.slots → ∀ (H : Heap) (arr : Array Slot) (locs : List Loc), gx_L ls arr y.2.2.1 → gx_R E G μ H → va_S (fun q => E.2.2.1 ≤ q) s.heap H locs →
      (∀ (H' : Heap) (arr' : Array Slot) (locs' : List Loc), gx_L ls' arr' y.2.2.1 → gx_R E G μ' H' → va_S (fun q => E.2.2.1 ≤ q) s.heap H' locs' → W p l e R s m args below meth c H' locs' cells slots Q (F0 m pc' arr' st')) → W p l e R s m args below meth c H locs cells slots Q (F0 m pc arr st)) :
    gS E l y d (pc, ls, st, G, μ) (pc', ls', st', G, μ') :=
  ⟨⟨Nat.le_refl _, Nat.le_refl _⟩, fun p e R s m args below meth c n0 z0 Q C _ _ b1 b2 w H arr locs hl hR hS => h p e R s m args below meth c Q n0 _ _ C ⟨b1, b2⟩ H arr locs hl hR hS (fun H' arr' locs' hl' hR' hS' => w H' arr' locs' hl' hR' hS')⟩
section GXS
variable {E : gx_E} {l : Launch} {y : gx_Y} {d : Nat} {pc : Nat} {ls : List (Option Value)} {st : List Value} {G : gx_G} {μ : gx_M}
theorem s_iconst {n : Int} {v : Int32} (hd : decode y.2.1 pc = .ok (.iconst n, 1)) (hv : Int32.ofInt n = v) : gS E l y d (pc, ls, st, G, μ) (pc + 1, ls, .int v :: st, G, μ) := stp_g fun _ _ _ _ _ _ _ _ _ _ _ _ _ C _ H arr locs hl hR hS k => lv_iconst C.1 C.2.1 hd hv (k H arr locs hl hR hS)
theorem s_bipush {n : Int} {v : Int32} (hd : decode y.2.1 pc = .ok (.bipush n, 2)) (hv : (Int8.ofInt n).toInt32 = v) : gS E l y d (pc, ls, st, G, μ) (pc + 2, ls, .int v :: st, G, μ) := stp_g fun _ _ _ _ _ _ _ _ _ _ _ _ _ C _ H arr locs hl hR hS k => lv_bipush C.1 C.2.1 hd hv (k H arr locs hl hR hS)
theorem s_sipush {n : Int} {v : Int32} (hd : decode y.2.1 pc = .ok (.sipush n, 3)) (hv : (Int16.ofInt n).toInt32 = v) : gS E l y d (pc, ls, st, G, μ) (pc + 3, ls, .int v :: st, G, μ) := stp_g fun _ _ _ _ _ _ _ _ _ _ _ _ _ C _ H arr locs hl hR hS k => lv_sipush C.1 C.2.1 hd hv (k H arr locs hl hR hS)
theorem s_lconst {n : Fin 2} {v : Int64} (hd : decode y.2.1 pc = .ok (.lconst n, 1)) (hv : Int64.ofNat (n : Nat) = v) : gS E l y d (pc, ls, st, G, μ) (pc + 1, ls, .long v :: st, G, μ) := stp_g fun _ _ _ _ _ _ _ _ _ _ _ _ _ C _ H arr locs hl hR hS k => lv_lconst C.1 C.2.1 hd hv (k H arr locs hl hR hS)
theorem s_iload_n {k : Fin 4} {i : Nat} {x : Int32} (hd : decode y.2.1 pc = .ok (.iload_n k, 1)) (hi : (k : Nat) = i) (hx : gx_lg ls i = some (.int x)) : gS E l y d (pc, ls, st, G, μ) (pc + 1, ls, .int x :: st, G, μ) := stp_g fun _ _ _ _ _ _ _ _ _ _ _ _ _ C _ H arr locs hl hR hS k => lv_iload_n C.1 C.2.1 hd hi (hl.2.2 _ _ hx) (k H arr locs hl hR hS)
theorem s_iload {i : Nat} {x : Int32} (hd : decode y.2.1 pc = .ok (.iload i, 2)) (hx : gx_lg ls i = some (.int x)) : gS E l y d (pc, ls, st, G, μ) (pc + 2, ls, .int x :: st, G, μ) := stp_g fun _ _ _ _ _ _ _ _ _ _ _ _ _ C _ H arr locs hl hR hS k => lv_iload C.1 C.2.1 hd (hl.2.2 _ _ hx) (k H arr locs hl hR hS)
theorem s_lload_n {k : Fin 4} {i : Nat} {x : Int64} (hd : decode y.2.1 pc = .ok (.lload_n k, 1)) (hi : (k : Nat) = i) (hx : gx_lg ls i = some (.long x)) : gS E l y d (pc, ls, st, G, μ) (pc + 1, ls, .long x :: st, G, μ) := stp_g fun _ _ _ _ _ _ _ _ _ _ _ _ _ C _ H arr locs hl hR hS k => lv_lload_n C.1 C.2.1 hd hi (hl.2.2 _ _ hx) (k H arr locs hl hR hS)
theorem s_lload {i : Nat} {x : Int64} (hd : decode y.2.1 pc = .ok (.lload i, 2)) (hx : gx_lg ls i = some (.long x)) : gS E l y d (pc, ls, st, G, μ) (pc + 2, ls, .long x :: st, G, μ) := stp_g fun _ _ _ _ _ _ _ _ _ _ _ _ _ C _ H arr locs hl hR hS k => lv_lload C.1 C.2.1 hd (hl.2.2 _ _ hx) (k H arr locs hl hR hS)
theorem s_aload_n {k : Fin 4} {i : Nat} {x : Nat} (hd : decode y.2.1 pc = .ok (.aload_n k, 1)) (hi : (k : Nat) = i) (hx : gx_lg ls i = some (.ref x)) : gS E l y d (pc, ls, st, G, μ) (pc + 1, ls, .ref x :: st, G, μ) := stp_g fun _ _ _ _ _ _ _ _ _ _ _ _ _ C _ H arr locs hl hR hS k => lv_aload_n C.1 C.2.1 hd hi (hl.2.2 _ _ hx) (k H arr locs hl hR hS)
theorem s_aload {i : Nat} {x : Nat} (hd : decode y.2.1 pc = .ok (.aload i, 2)) (hx : gx_lg ls i = some (.ref x)) : gS E l y d (pc, ls, st, G, μ) (pc + 2, ls, .ref x :: st, G, μ) := stp_g fun _ _ _ _ _ _ _ _ _ _ _ _ _ C _ H arr locs hl hR hS k => lv_aload C.1 C.2.1 hd (hl.2.2 _ _ hx) (k H arr locs hl hR hS)
theorem s_istore_n {k : Fin 4} {i : Nat} {x : Int32} (hd : decode y.2.1 pc = .ok (.istore_n k, 1)) (hi : (k : Nat) = i) (hn : i < y.2.2.1) : gS E l y d (pc, ls, .int x :: st, G, μ) (pc + 1, gx_s1 ls i (.int x), st, G, μ) := stp_g fun _ _ _ _ _ _ _ _ _ _ _ _ _ C _ H arr locs hl hR hS k => lv_istore_n C.1 C.2.1 hd hi (gx_L_has hl) hn rfl (fun arr' h => k H arr' locs (gx_L_s1 h) hR hS)
theorem s_istore {i : Nat} {x : Int32} (hd : decode y.2.1 pc = .ok (.istore i, 2)) (hn : i < y.2.2.1) : gS E l y d (pc, ls, .int x :: st, G, μ) (pc + 2, gx_s1 ls i (.int x), st, G, μ) := stp_g fun _ _ _ _ _ _ _ _ _ _ _ _ _ C _ H arr locs hl hR hS k => lv_istore C.1 C.2.1 hd (gx_L_has hl) hn rfl (fun arr' h => k H arr' locs (gx_L_s1 h) hR hS)
theorem s_astore_n {k : Fin 4} {i : Nat} {x : Nat} (hd : decode y.2.1 pc = .ok (.astore_n k, 1)) (hi : (k : Nat) = i) (hn : i < y.2.2.1) : gS E l y d (pc, ls, .ref x :: st, G, μ) (pc + 1, gx_s1 ls i (.ref x), st, G, μ) := stp_g fun _ _ _ _ _ _ _ _ _ _ _ _ _ C _ H arr locs hl hR hS k => lv_astore_n C.1 C.2.1 hd hi (gx_L_has hl) hn rfl (fun arr' h => k H arr' locs (gx_L_s1 h) hR hS)
theorem s_astore {i : Nat} {x : Nat} (hd : decode y.2.1 pc = .ok (.astore i, 2)) (hn : i < y.2.2.1) : gS E l y d (pc, ls, .ref x :: st, G, μ) (pc + 2, gx_s1 ls i (.ref x), st, G, μ) := stp_g fun _ _ _ _ _ _ _ _ _ _ _ _ _ C _ H arr locs hl hR hS k => lv_astore C.1 C.2.1 hd (gx_L_has hl) hn rfl (fun arr' h => k H arr' locs (gx_L_s1 h) hR hS)
theorem s_lstore_n {k : Fin 4} {i : Nat} {x : Int64} (hd : decode y.2.1 pc = .ok (.lstore_n k, 1)) (hi : (k : Nat) = i) (hn : i + 1 < y.2.2.1) : gS E l y d (pc, ls, .long x :: st, G, μ) (pc + 1, gx_s2 ls i (.long x), st, G, μ) := stp_g fun _ _ _ _ _ _ _ _ _ _ _ _ _ C _ H arr locs hl hR hS k => lv_lstore_n C.1 C.2.1 hd hi (gx_L_has hl) hn rfl (fun arr' h => k H arr' locs (gx_L_s2 h) hR hS)
theorem s_lstore {i : Nat} {x : Int64} (hd : decode y.2.1 pc = .ok (.lstore i, 2)) (hn : i + 1 < y.2.2.1) : gS E l y d (pc, ls, .long x :: st, G, μ) (pc + 2, gx_s2 ls i (.long x), st, G, μ) := stp_g fun _ _ _ _ _ _ _ _ _ _ _ _ _ C _ H arr locs hl hR hS k => lv_lstore C.1 C.2.1 hd (gx_L_has hl) hn rfl (fun arr' h => k H arr' locs (gx_L_s2 h) hR hS)
theorem s_iinc {i : Nat} {n : Int} {x v : Int32} (hd : decode y.2.1 pc = .ok (.iinc i n, 3)) (hx : gx_lg ls i = some (.int x)) (hv : x + Int32.ofInt n = v) (hn : i < y.2.2.1) : gS E l y d (pc, ls, st, G, μ) (pc + 3, gx_s1 ls i (.int v), st, G, μ) := stp_g fun _ _ _ _ _ _ _ _ _ _ _ _ _ C _ H arr locs hl hR hS k => by
  obtain ⟨j, hj⟩ := List.getElem?_of_mem (gx_en_mem.mpr hx)
  exact lv_iinc C.1 C.2.1 hd (gx_L_has hl) (k := j) hj hv hn rfl (fun arr' h => k H arr' locs (gx_L_s1 h) hR hS)
end GXS

