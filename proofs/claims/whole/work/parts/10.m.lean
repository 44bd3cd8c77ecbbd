def f_X12_in (p0 : Int32) (p1 : Int32) (p2 : Int32) : Bool := if p0 < p1 then false else if p2 < p0 then false else true
theorem ev_X12_in {E : gx_E} {l : Launch} (p0 : Int32) (p1 : Int32) (p2 : Int32) (μ : gx_M) : gEv E l 0 Y_X12_in [.int p0, .int p1, .int p2] gx_G1 μ (gx_eB (f_X12_in p0 p1 p2)) gx_G1 μ := by
  refine P_ev (by decide) (Nat.le_of_ble_eq_true rfl) (em := gx_eB) (T := f_X12_in p0 p1 p2) ?_
  show GoP E l Y_X12_in 0 gx_eB 0 (gx_el [.int p0, .int p1, .int p2]) [] μ (f_X12_in p0 p1 p2)
  unfold f_X12_in
  refine P_s (s_iload_n dX12_in_0 rfl rfl) ?_
  refine P_s (s_iload_n dX12_in_1 rfl rfl) ?_
  refine P_ite (fun h1 => ?_) (fun h1 => ?_)
  · refine P_s (s_icmp_lt_t dX12_in_2 rfl h1) ?_
    refine P_s (s_iconst dX12_in_14 kci_0) ?_
    exact P_r (r := false) (f_int (ty := .boolean) (x := gx_bi false) dX12_in_15 rfl (gx_bn false))
  · refine P_s (s_icmp_lt_f dX12_in_2 rfl h1) ?_
    refine P_s (s_iload_n dX12_in_5 rfl rfl) ?_
    refine P_s (s_iload_n dX12_in_6 rfl rfl) ?_
    refine P_ite (fun h2 => ?_) (fun h2 => ?_)
    · refine P_s (s_icmp_gt_t dX12_in_7 rfl h2) ?_
      refine P_s (s_iconst dX12_in_14 kci_0) ?_
      exact P_r (r := false) (f_int (ty := .boolean) (x := gx_bi false) dX12_in_15 rfl (gx_bn false))
    · refine P_s (s_icmp_gt_f dX12_in_7 rfl h2) ?_
      refine P_s (s_iconst dX12_in_10 kci_1) ?_
      refine P_s (s_goto dX12_in_11 rfl) ?_
      exact P_r (r := true) (f_int (ty := .boolean) (x := gx_bi true) dX12_in_15 rfl (gx_bn true))

def f_X12_has (p0 : Int32) (p1 : Int32) : Bool := if ((p0 >>> (p1 &&& 31)) &&& 1) = 1 then true else false
theorem ev_X12_has {E : gx_E} {l : Launch} (p0 : Int32) (p1 : Int32) (μ : gx_M) : gEv E l 0 Y_X12_has [.int p0, .int p1] gx_G1 μ (gx_eB (f_X12_has p0 p1)) gx_G1 μ := by
  refine P_ev (by decide) (Nat.le_of_ble_eq_true rfl) (em := gx_eB) (T := f_X12_has p0 p1) ?_
  show GoP E l Y_X12_has 0 gx_eB 0 (gx_el [.int p0, .int p1]) [] μ (f_X12_has p0 p1)
  unfold f_X12_has
  refine P_s (s_iload_n dX12_has_0 rfl rfl) ?_
  refine P_s (s_iload_n dX12_has_1 rfl rfl) ?_
  refine P_s (s_ishr dX12_has_2) ?_
  refine P_s (s_iconst dX12_has_3 kci_1) ?_
  refine P_s (s_iand dX12_has_4) ?_
  refine P_s (s_iconst dX12_has_5 kci_1) ?_
  refine P_ite (fun h1 => ?_) (fun h1 => ?_)
  · refine P_s (s_icmp_ne_f dX12_has_6 rfl h1) ?_
    refine P_s (s_iconst dX12_has_9 kci_1) ?_
    refine P_s (s_goto dX12_has_10 rfl) ?_
    exact P_r (r := true) (f_int (ty := .boolean) (x := gx_bi true) dX12_has_14 rfl (gx_bn true))
  · refine P_s (s_icmp_ne_t dX12_has_6 rfl h1) ?_
    refine P_s (s_iconst dX12_has_13 kci_0) ?_
    exact P_r (r := false) (f_int (ty := .boolean) (x := gx_bi false) dX12_has_14 rfl (gx_bn false))

def f_X12_greater (p0 : Int32) (p1 : Int32) : Int32 := if p0 ≤ p1 then p1 else p0
theorem ev_X12_greater {E : gx_E} {l : Launch} (p0 : Int32) (p1 : Int32) (μ : gx_M) : gEv E l 0 Y_X12_greater [.int p0, .int p1] gx_G1 μ (gx_eI (f_X12_greater p0 p1)) gx_G1 μ := by
  refine P_ev (by decide) (Nat.le_of_ble_eq_true rfl) (em := gx_eI) (T := f_X12_greater p0 p1) ?_
  show GoP E l Y_X12_greater 0 gx_eI 0 (gx_el [.int p0, .int p1]) [] μ (f_X12_greater p0 p1)
  unfold f_X12_greater
  refine P_s (s_iload_n dX12_greater_0 rfl rfl) ?_
  refine P_s (s_iload_n dX12_greater_1 rfl rfl) ?_
  refine P_ite (fun h1 => ?_) (fun h1 => ?_)
  · refine P_s (s_icmp_le_t dX12_greater_2 rfl h1) ?_
    refine P_s (s_iload_n dX12_greater_9 rfl rfl) ?_
    exact P_r (r := p1) (f_int (ty := .int) dX12_greater_10 rfl rfl)
  · refine P_s (s_icmp_le_f dX12_greater_2 rfl h1) ?_
    refine P_s (s_iload_n dX12_greater_5 rfl rfl) ?_
    refine P_s (s_goto dX12_greater_6 rfl) ?_
    exact P_r (r := p0) (f_int (ty := .int) dX12_greater_10 rfl rfl)

def f_X12_lesser (p0 : Int32) (p1 : Int32) : Int32 := if p1 ≤ p0 then p1 else p0
theorem ev_X12_lesser {E : gx_E} {l : Launch} (p0 : Int32) (p1 : Int32) (μ : gx_M) : gEv E l 0 Y_X12_lesser [.int p0, .int p1] gx_G1 μ (gx_eI (f_X12_lesser p0 p1)) gx_G1 μ := by
  refine P_ev (by decide) (Nat.le_of_ble_eq_true rfl) (em := gx_eI) (T := f_X12_lesser p0 p1) ?_
  show GoP E l Y_X12_lesser 0 gx_eI 0 (gx_el [.int p0, .int p1]) [] μ (f_X12_lesser p0 p1)
  unfold f_X12_lesser
  refine P_s (s_iload_n dX12_lesser_0 rfl rfl) ?_
  refine P_s (s_iload_n dX12_lesser_1 rfl rfl) ?_
  refine P_ite (fun h1 => ?_) (fun h1 => ?_)
  · refine P_s (s_icmp_ge_t dX12_lesser_2 rfl h1) ?_
    refine P_s (s_iload_n dX12_lesser_9 rfl rfl) ?_
    exact P_r (r := p1) (f_int (ty := .int) dX12_lesser_10 rfl rfl)
  · refine P_s (s_icmp_ge_f dX12_lesser_2 rfl h1) ?_
    refine P_s (s_iload_n dX12_lesser_5 rfl rfl) ?_
    refine P_s (s_goto dX12_lesser_6 rfl) ?_
    exact P_r (r := p0) (f_int (ty := .int) dX12_lesser_10 rfl rfl)

def L_X12_copyRow_3 (p1 : Int32) (p2 : Int32) (n0 : Nat) (p3 : Int32) (a0 : Nat) (k3 : gx_M → Option (Unit × gx_M)) : Nat → Int32 → gx_M → Option (Unit × gx_M)
  | 0, _, _ => none
  | n + 1, v4_1, μ2 => if p1 ≤ v4_1 then k3 μ2 else gx_ck (gx_ix ((p1 * p2) + v4_1) n0 = true) (gx_ck (gx_ix ((p1 * p3) + v4_1) n0 = true) (gx_lt (gx_uI μ2 a0 ((p1 * p3) + v4_1).toNatClampNeg (μ2.1 a0 ((p1 * p2) + v4_1).toNatClampNeg)) (fun (μ7 : gx_M) => L_X12_copyRow_3 p1 p2 n0 p3 a0 k3 n (v4_1 + 1) μ7)))
def f_X12_copyRow (a0 : Nat) (n0 : Nat) (p1 : Int32) (p2 : Int32) (p3 : Int32) (μ : gx_M) : Option (Unit × gx_M) := L_X12_copyRow_3 p1 p2 n0 p3 a0 (fun (μ9 : gx_M) => some ((), μ9)) 4000 0 μ
theorem okL_X12_copyRow_3 {E : gx_E} {l : Launch} {p1 : Int32} {p2 : Int32} {n0 : Nat} {p3 : Int32} {a0 : Nat} (ha0 : gx_G1[a0]? = some (50, n0, [])) {k3 : gx_M → Option (Unit × gx_M)} (hk : ∀ (μ8 : gx_M), GoW E l Y_X12_copyRow 0 gx_eV 31 [] [] μ8 (k3 μ8)) : ∀ (n : Nat) (v4_1 : Int32) (μ2 : gx_M), GoW E l Y_X12_copyRow 0 gx_eV 3 [some (.ref (E.2.2.1 + a0)), some (.int p1), some (.int p2), some (.int p3), some (.int v4_1)] [] μ2 (L_X12_copyRow_3 p1 p2 n0 p3 a0 k3 n v4_1 μ2) := by
  intro n
  induction n with
  | zero => intros; exact W_no
  | succ n ih =>
    intro v4_1 μ2
    rw [L_X12_copyRow_3.eq_2]
    refine W_s (s_iload dX12_copyRow_3 rfl) ?_
    refine W_s (s_iload_n dX12_copyRow_5 rfl rfl) ?_
    refine W_ite (fun h4 => ?_) (fun h4 => ?_)
    · refine W_s (s_icmp_ge_t dX12_copyRow_6 rfl h4) ?_
      exact W_wk (hk μ2) le_n
    · refine W_s (s_icmp_ge_f dX12_copyRow_6 rfl h4) ?_
      refine W_s (s_aload_n dX12_copyRow_9 rfl rfl) ?_
      refine W_s (s_iload_n dX12_copyRow_10 rfl rfl) ?_
      refine W_s (s_iload_n dX12_copyRow_11 rfl rfl) ?_
      refine W_s (s_imul dX12_copyRow_12) ?_
      refine W_s (s_iload dX12_copyRow_13 rfl) ?_
      refine W_s (s_iadd dX12_copyRow_15) ?_
      refine W_s (s_aload_n dX12_copyRow_16 rfl rfl) ?_
      refine W_s (s_iload_n dX12_copyRow_17 rfl rfl) ?_
      refine W_s (s_iload_n dX12_copyRow_18 rfl rfl) ?_
      refine W_s (s_imul dX12_copyRow_19) ?_
      refine W_s (s_iload dX12_copyRow_20 rfl) ?_
      refine W_s (s_iadd dX12_copyRow_22) ?_
      refine W_ck (fun h5 => ?_)
      refine W_s (s_iald dX12_copyRow_23 ha0 (gx_ixv h5)) ?_
      refine W_ck (fun h6 => ?_)
      refine W_s (s_iast dX12_copyRow_24 ha0 (gx_ixv h6)) ?_
      refine W_letM (fun μ7 => ?_)
      refine W_s (s_iinc dX12_copyRow_25 rfl (kinc_1 v4_1) (Nat.le_of_ble_eq_true rfl)) ?_
      refine W_s (s_goto dX12_copyRow_28 rfl) ?_
      exact W_wk (ih (v4_1 + 1) μ7) (le_s rfl (le_s rfl (le_s rfl (le_s rfl (le_s rfl le_n)))))
theorem ev_X12_copyRow {E : gx_E} {l : Launch} (a0 : Nat) (n0 : Nat) (p1 : Int32) (p2 : Int32) (p3 : Int32) (ha0 : gx_G1[a0]? = some (50, n0, [])) (μ : gx_M) {r : Unit} {μ' : gx_M} (hr : f_X12_copyRow a0 n0 p1 p2 p3 μ = some (r, μ')) : gEv E l 0 Y_X12_copyRow [.ref (E.2.2.1 + a0), .int p1, .int p2, .int p3] gx_G1 μ (gx_eV r) gx_G1 μ' := by
  refine W_ev (by decide) (Nat.le_of_ble_eq_true rfl) (em := gx_eV) (T := f_X12_copyRow a0 n0 p1 p2 p3 μ) ?_ hr
  show GoW E l Y_X12_copyRow 0 gx_eV 0 (gx_el [.ref (E.2.2.1 + a0), .int p1, .int p2, .int p3]) [] μ (f_X12_copyRow a0 n0 p1 p2 p3 μ)
  unfold f_X12_copyRow
  refine W_s (s_iconst dX12_copyRow_0 kci_0) ?_
  refine W_s (s_istore dX12_copyRow_1 (Nat.le_of_ble_eq_true rfl)) ?_
  refine W_wk (okL_X12_copyRow_3 ha0 ?_ 4000 0 μ) (le_s rfl (le_s rfl (le_s rfl (le_s rfl (le_s rfl le_n)))))
  intro μ9
  exact W_r (r := ()) (f_void dX12_copyRow_31 rfl)

def L_X12_four_3 (p1 : Int32) (k3 : gx_M → Option (Unit × gx_M)) : Nat → Int32 → gx_M → Option (Unit × gx_M)
  | 0, _, _ => none
  | n + 1, v2_1, μ2 => if v2_1 < 0 then k3 μ2 else gx_ck (gx_ix (μ2.1 208 0) 2400 = true) (gx_lt (gx_uI μ2 207 (μ2.1 208 0).toNatClampNeg (vp_nar .byte (((p1 >>> (v2_1 &&& 31)) : Int32).toInt8.toInt32))) (fun (μ6 : gx_M) => gx_lt (gx_uI μ6 208 0 ((μ6.1 208 0) + 1)) (fun (μ7 : gx_M) => L_X12_four_3 p1 k3 n (v2_1 + (-8)) μ7)))
def f_X12_four (p1 : Int32) (μ : gx_M) : Option (Unit × gx_M) := L_X12_four_3 p1 (fun (μ9 : gx_M) => some ((), μ9)) 4000 24 μ
theorem okL_X12_four_3 {E : gx_E} {l : Launch} {p1 : Int32} {k3 : gx_M → Option (Unit × gx_M)} (hk : ∀ (μ8 : gx_M), GoW E l Y_X12_four 0 gx_eV 38 [] [] μ8 (k3 μ8)) : ∀ (n : Nat) (v2_1 : Int32) (μ2 : gx_M), GoW E l Y_X12_four 0 gx_eV 3 [some (.ref (E.2.2.1 + 206)), some (.int p1), some (.int v2_1)] [] μ2 (L_X12_four_3 p1 k3 n v2_1 μ2) := by
  intro n
  induction n with
  | zero => intros; exact W_no
  | succ n ih =>
    intro v2_1 μ2
    rw [L_X12_four_3.eq_2]
    refine W_s (s_iload_n dX12_four_3 rfl rfl) ?_
    refine W_ite (fun h4 => ?_) (fun h4 => ?_)
    · refine W_s (s_if_lt_t dX12_four_4 rfl h4) ?_
      exact W_wk (hk μ2) le_n
    · refine W_s (s_if_lt_f dX12_four_4 rfl h4) ?_
      refine W_s (s_aload_n dX12_four_7 rfl rfl) ?_
      refine W_s (gf_RX12_7 rfl dX12_four_8) ?_
      refine W_s (s_aload_n dX12_four_11 rfl rfl) ?_
      refine W_s (gf_RX12_13 rfl dX12_four_12) ?_
      refine W_s (s_iconst dX12_four_15 kci_0) ?_
      refine W_s (s_ialdL (k := 0) dX12_four_16 g_208 (gx_inl (by decide)) (by decide)) ?_
      refine W_s (s_iload_n dX12_four_17 rfl rfl) ?_
      refine W_s (s_iload_n dX12_four_18 rfl rfl) ?_
      refine W_s (s_ishr dX12_four_19) ?_
      refine W_s (s_i2b dX12_four_20) ?_
      refine W_ck (fun h5 => ?_)
      refine W_s (s_bast dX12_four_21 g_207 (gx_ixv h5)) ?_
      refine W_letM (fun μ6 => ?_)
      refine W_s (s_aload_n dX12_four_22 rfl rfl) ?_
      refine W_s (gf_RX12_13 rfl dX12_four_23) ?_
      refine W_s (s_iconst dX12_four_26 kci_0) ?_
      refine W_s (s_dup2 dX12_four_27 rfl rfl) ?_
      refine W_s (s_ialdL (k := 0) dX12_four_28 g_208 (gx_inl (by decide)) (by decide)) ?_
      refine W_s (s_iconst dX12_four_29 kci_1) ?_
      refine W_s (s_iadd dX12_four_30) ?_
      refine W_s (s_iastL (k := 0) dX12_four_31 g_208 (gx_inl (by decide)) (by decide)) ?_
      refine W_letM (fun μ7 => ?_)
      refine W_s (s_iinc dX12_four_32 rfl (kinc_m8 v2_1) (Nat.le_of_ble_eq_true rfl)) ?_
      refine W_s (s_goto dX12_four_35 rfl) ?_
      exact W_wk (ih (v2_1 + (-8)) μ7) (le_s rfl (le_s rfl (le_s rfl le_n)))
theorem ev_X12_four {E : gx_E} {l : Launch} (p1 : Int32) (μ : gx_M) {r : Unit} {μ' : gx_M} (hr : f_X12_four p1 μ = some (r, μ')) : gEv E l 0 Y_X12_four [.ref (E.2.2.1 + 206), .int p1] gx_G1 μ (gx_eV r) gx_G1 μ' := by
  refine W_ev (by decide) (Nat.le_of_ble_eq_true rfl) (em := gx_eV) (T := f_X12_four p1 μ) ?_ hr
  show GoW E l Y_X12_four 0 gx_eV 0 (gx_el [.ref (E.2.2.1 + 206), .int p1]) [] μ (f_X12_four p1 μ)
  unfold f_X12_four
  refine W_s (s_bipush dX12_four_0 kcb_24) ?_
  refine W_s (s_istore_n dX12_four_2 rfl (Nat.le_of_ble_eq_true rfl)) ?_
  refine W_wk (okL_X12_four_3 ?_ 4000 24 μ) (le_s rfl (le_s rfl (le_s rfl le_n)))
  intro μ9
  exact W_r (r := ()) (f_void dX12_four_38 rfl)

def f_X12_see (μ : gx_M) : Option Int32 := if (μ.1 206 11) ≤ (μ.1 206 10) then some (-1) else gx_ck (gx_ix (μ.1 206 10) 2400 = true) (some ((μ.1 207 (μ.1 206 10).toNatClampNeg) &&& 255))
theorem ev_X12_see {E : gx_E} {l : Launch} (μ : gx_M) {r : Int32} (hr : f_X12_see μ = some r) : gEv E l 0 Y_X12_see [.ref (E.2.2.1 + 206)] gx_G1 μ (gx_eI r) gx_G1 μ := by
  refine R_ev (by decide) (Nat.le_of_ble_eq_true rfl) (em := gx_eI) (T := f_X12_see μ) ?_ hr
  show GoR E l Y_X12_see 0 gx_eI 0 (gx_el [.ref (E.2.2.1 + 206)]) [] μ (f_X12_see μ)
  unfold f_X12_see
  refine R_s (s_aload_n dX12_see_0 rfl rfl) ?_
  refine R_s (gf_RX12_120 rfl dX12_see_1) ?_
  refine R_s (s_aload_n dX12_see_4 rfl rfl) ?_
  refine R_s (gf_RX12_123 rfl dX12_see_5) ?_
  refine R_ite (fun h1 => ?_) (fun h1 => ?_)
  · refine R_s (s_icmp_ge_t dX12_see_8 rfl h1) ?_
    refine R_s (s_iconst dX12_see_27 kci_m1) ?_
    exact R_r (r := (-1)) (f_int (ty := .int) dX12_see_28 rfl rfl)
  · refine R_s (s_icmp_ge_f dX12_see_8 rfl h1) ?_
    refine R_s (s_aload_n dX12_see_11 rfl rfl) ?_
    refine R_s (gf_RX12_7 rfl dX12_see_12) ?_
    refine R_s (s_aload_n dX12_see_15 rfl rfl) ?_
    refine R_s (gf_RX12_120 rfl dX12_see_16) ?_
    refine R_ck (fun h2 => ?_)
    refine R_s (s_bald dX12_see_19 g_207 (gx_ixv h2)) ?_
    refine R_s (s_sipush dX12_see_20 kcs_255) ?_
    refine R_s (s_iand dX12_see_23) ?_
    refine R_s (s_goto dX12_see_24 rfl) ?_
    exact R_r (r := ((μ.1 207 (μ.1 206 10).toNatClampNeg) &&& 255)) (f_int (ty := .int) dX12_see_28 rfl rfl)

def f_X12_fails (μ : gx_M) : Option (Bool × gx_M) := gx_lt (gx_uI μ 206 16 (μ.1 206 12)) (fun (μ1 : gx_M) => some (false, μ1))
theorem ev_X12_fails {E : gx_E} {l : Launch} (μ : gx_M) {r : Bool} {μ' : gx_M} (hr : f_X12_fails μ = some (r, μ')) : gEv E l 0 Y_X12_fails [.ref (E.2.2.1 + 206)] gx_G1 μ (gx_eB r) gx_G1 μ' := by
  refine W_ev (by decide) (Nat.le_of_ble_eq_true rfl) (em := gx_eB) (T := f_X12_fails μ) ?_ hr
  show GoW E l Y_X12_fails 0 gx_eB 0 (gx_el [.ref (E.2.2.1 + 206)]) [] μ (f_X12_fails μ)
  unfold f_X12_fails
  refine W_s (s_aload_n dX12_fails_0 rfl rfl) ?_
  refine W_s (s_aload_n dX12_fails_1 rfl rfl) ?_
  refine W_s (gf_RX12_130 rfl dX12_fails_2) ?_
  refine W_s (pf_RX12_143 rfl dX12_fails_5) ?_
  refine W_letM (fun μ1 => ?_)
  refine W_s (s_iconst dX12_fails_8 kci_0) ?_
  exact W_r (r := false) (f_int (ty := .boolean) (x := gx_bi false) dX12_fails_9 rfl (gx_bn false))

def f_X12_later (p1 : Int32) (p2 : Int32) (μ : gx_M) : Option (Unit × gx_M) := gx_lt (fun (μ6 : gx_M) => gx_lt (gx_uI μ6 206 17 p1) (fun (μ7 : gx_M) => gx_lt (gx_uI μ7 206 18 p2) (fun (μ8 : gx_M) => some ((), μ8)))) (fun J1 => if (μ.1 206 17) = 0 then J1 μ else if p2 < (μ.1 206 18) then J1 μ else if p2 = (μ.1 206 18) then if (μ.1 206 17) ≤ p1 then some ((), μ) else J1 μ else some ((), μ))
theorem ev_X12_later {E : gx_E} {l : Launch} (p1 : Int32) (p2 : Int32) (μ : gx_M) {r : Unit} {μ' : gx_M} (hr : f_X12_later p1 p2 μ = some (r, μ')) : gEv E l 0 Y_X12_later [.ref (E.2.2.1 + 206), .int p1, .int p2] gx_G1 μ (gx_eV r) gx_G1 μ' := by
  refine W_ev (by decide) (Nat.le_of_ble_eq_true rfl) (em := gx_eV) (T := f_X12_later p1 p2 μ) ?_ hr
  show GoW E l Y_X12_later 0 gx_eV 0 (gx_el [.ref (E.2.2.1 + 206), .int p1, .int p2]) [] μ (f_X12_later p1 p2 μ)
  unfold f_X12_later
  refine W_s (s_aload_n dX12_later_0 rfl rfl) ?_
  refine W_s (gf_RX12_146 rfl dX12_later_1) ?_
  refine W_fun (fun J => ∀ (μ6 : gx_M), GoW E l Y_X12_later 0 gx_eV 31 [some (.ref (E.2.2.1 + 206)), some (.int p1), some (.int p2)] [] μ6 (J μ6)) ?_ (fun J1 hJ1 => ?_)
  · intro μ6
    refine W_s (s_aload_n dX12_later_31 rfl rfl) ?_
    refine W_s (s_iload_n dX12_later_32 rfl rfl) ?_
    refine W_s (pf_RX12_146 rfl dX12_later_33) ?_
    refine W_letM (fun μ7 => ?_)
    refine W_s (s_aload_n dX12_later_36 rfl rfl) ?_
    refine W_s (s_iload_n dX12_later_37 rfl rfl) ?_
    refine W_s (pf_RX12_149 rfl dX12_later_38) ?_
    refine W_letM (fun μ8 => ?_)
    exact W_r (r := ()) (f_void dX12_later_41 rfl)
  · skip
    refine W_ite (fun h2 => ?_) (fun h2 => ?_)
    · refine W_s (s_if_eq_t dX12_later_4 rfl h2) ?_
      exact W_wk (hJ1 μ) (le_s rfl (le_s rfl (le_s rfl le_n)))
    · refine W_s (s_if_eq_f dX12_later_4 rfl h2) ?_
      refine W_s (s_iload_n dX12_later_7 rfl rfl) ?_
      refine W_s (s_aload_n dX12_later_8 rfl rfl) ?_
      refine W_s (gf_RX12_149 rfl dX12_later_9) ?_
      refine W_ite (fun h3 => ?_) (fun h3 => ?_)
      · refine W_s (s_icmp_lt_t dX12_later_12 rfl h3) ?_
        exact W_wk (hJ1 μ) (le_s rfl (le_s rfl (le_s rfl le_n)))
      · refine W_s (s_icmp_lt_f dX12_later_12 rfl h3) ?_
        refine W_s (s_iload_n dX12_later_15 rfl rfl) ?_
        refine W_s (s_aload_n dX12_later_16 rfl rfl) ?_
        refine W_s (gf_RX12_149 rfl dX12_later_17) ?_
        refine W_ite (fun h4 => ?_) (fun h4 => ?_)
        · refine W_s (s_icmp_ne_f dX12_later_20 rfl h4) ?_
          refine W_s (s_iload_n dX12_later_23 rfl rfl) ?_
          refine W_s (s_aload_n dX12_later_24 rfl rfl) ?_
          refine W_s (gf_RX12_146 rfl dX12_later_25) ?_
          refine W_ite (fun h5 => ?_) (fun h5 => ?_)
          · refine W_s (s_icmp_ge_t dX12_later_28 rfl h5) ?_
            exact W_r (r := ()) (f_void dX12_later_41 rfl)
          · refine W_s (s_icmp_ge_f dX12_later_28 rfl h5) ?_
            exact W_wk (hJ1 μ) (le_s rfl (le_s rfl (le_s rfl le_n)))
        · refine W_s (s_icmp_ne_t dX12_later_20 rfl h4) ?_
          exact W_r (r := ()) (f_void dX12_later_41 rfl)

def L_X12_fill_3 (p3 : Int32) (p1 : Int32) (p4 : Int32) (k3 : gx_M → Option (Unit × gx_M)) : Nat → Int32 → gx_M → Option (Unit × gx_M)
  | 0, _, _ => none
  | n + 1, v5_1, μ2 => if p3 < v5_1 then k3 μ2 else if (μ2.1 206 23) = 0 then k3 μ2 else gx_ck (gx_ix (p1 + v5_1) 161 = true) (gx_lt (gx_uI μ2 216 (p1 + v5_1).toNatClampNeg p4) (fun (μ7 : gx_M) => L_X12_fill_3 p3 p1 p4 k3 n (v5_1 + 1) μ7))
def f_X12_fill (p1 : Int32) (p2 : Int32) (p3 : Int32) (p4 : Int32) (μ : gx_M) : Option (Unit × gx_M) := L_X12_fill_3 p3 p1 p4 (fun (μ9 : gx_M) => some ((), μ9)) 4000 p2 μ
theorem okL_X12_fill_3 {E : gx_E} {l : Launch} {p3 : Int32} {p1 : Int32} {p4 : Int32} {k3 : gx_M → Option (Unit × gx_M)} (hk : ∀ (μ8 : gx_M), GoW E l Y_X12_fill 0 gx_eV 33 [] [] μ8 (k3 μ8)) : ∀ (n : Nat) (v5_1 : Int32) (μ2 : gx_M), GoW E l Y_X12_fill 0 gx_eV 3 [some (.ref (E.2.2.1 + 206)), some (.int p1), none, some (.int p3), some (.int p4), some (.int v5_1)] [] μ2 (L_X12_fill_3 p3 p1 p4 k3 n v5_1 μ2) := by
  intro n
  induction n with
  | zero => intros; exact W_no
  | succ n ih =>
    intro v5_1 μ2
    rw [L_X12_fill_3.eq_2]
    refine W_s (s_iload dX12_fill_3 rfl) ?_
    refine W_s (s_iload_n dX12_fill_5 rfl rfl) ?_
    refine W_ite (fun h4 => ?_) (fun h4 => ?_)
    · refine W_s (s_icmp_gt_t dX12_fill_6 rfl h4) ?_
      exact W_wk (hk μ2) le_n
    · refine W_s (s_icmp_gt_f dX12_fill_6 rfl h4) ?_
      refine W_s (s_aload_n dX12_fill_9 rfl rfl) ?_
      refine W_s (gf_RX12_160 rfl dX12_fill_10) ?_
      refine W_ite (fun h5 => ?_) (fun h5 => ?_)
      · refine W_s (s_if_eq_t dX12_fill_13 rfl h5) ?_
        exact W_wk (hk μ2) le_n
      · refine W_s (s_if_eq_f dX12_fill_13 rfl h5) ?_
        refine W_s (s_aload_n dX12_fill_16 rfl rfl) ?_
        refine W_s (gf_RX12_38 rfl dX12_fill_17) ?_
        refine W_s (s_iload_n dX12_fill_20 rfl rfl) ?_
        refine W_s (s_iload dX12_fill_21 rfl) ?_
        refine W_s (s_iadd dX12_fill_23) ?_
        refine W_s (s_iload dX12_fill_24 rfl) ?_
        refine W_ck (fun h6 => ?_)
        refine W_s (s_iast dX12_fill_26 g_216 (gx_ixv h6)) ?_
        refine W_letM (fun μ7 => ?_)
        refine W_s (s_iinc dX12_fill_27 rfl (kinc_1 v5_1) (Nat.le_of_ble_eq_true rfl)) ?_
        refine W_s (s_goto dX12_fill_30 rfl) ?_
        exact W_wk (ih (v5_1 + 1) μ7) (le_s rfl (le_s rfl (le_o (le_s rfl (le_s rfl (le_s rfl le_n))))))
theorem ev_X12_fill {E : gx_E} {l : Launch} (p1 : Int32) (p2 : Int32) (p3 : Int32) (p4 : Int32) (μ : gx_M) {r : Unit} {μ' : gx_M} (hr : f_X12_fill p1 p2 p3 p4 μ = some (r, μ')) : gEv E l 0 Y_X12_fill [.ref (E.2.2.1 + 206), .int p1, .int p2, .int p3, .int p4] gx_G1 μ (gx_eV r) gx_G1 μ' := by
  refine W_ev (by decide) (Nat.le_of_ble_eq_true rfl) (em := gx_eV) (T := f_X12_fill p1 p2 p3 p4 μ) ?_ hr
  show GoW E l Y_X12_fill 0 gx_eV 0 (gx_el [.ref (E.2.2.1 + 206), .int p1, .int p2, .int p3, .int p4]) [] μ (f_X12_fill p1 p2 p3 p4 μ)
  unfold f_X12_fill
  refine W_s (s_iload_n dX12_fill_0 rfl rfl) ?_
  refine W_s (s_istore dX12_fill_1 (Nat.le_of_ble_eq_true rfl)) ?_
  refine W_wk (okL_X12_fill_3 ?_ 4000 p2 μ) (le_s rfl (le_s rfl (le_o (le_s rfl (le_s rfl (le_s rfl le_n))))))
  intro μ9
  exact W_r (r := ()) (f_void dX12_fill_33 rfl)

def L_X12_keepRow_16 (p1 : Int32) (x1 : Int32) (k5 : gx_M → Option (Unit × gx_M)) : Nat → Int32 → gx_M → Option (Unit × gx_M)
  | 0, _, _ => none
  | n + 1, v4_3, μ4 => if p1 ≤ v4_3 then k5 μ4 else gx_ck (gx_ix v4_3 5 = true) (gx_ck (gx_ix ((1 + (p1 * x1)) + v4_3) 161 = true) (gx_lt (gx_uI μ4 216 ((1 + (p1 * x1)) + v4_3).toNatClampNeg (μ4.1 217 v4_3.toNatClampNeg)) (fun (μ9 : gx_M) => L_X12_keepRow_16 p1 x1 k5 n (v4_3 + 1) μ9)))
def f_X12_keepRow (p1 : Int32) (p2 : Int32) (μ : gx_M) : Option (Unit × gx_M) := gx_lt (μ.1 216 0) (fun (x1 : Int32) => if x1 = p2 then some ((), μ) else L_X12_keepRow_16 p1 x1 (fun (μ11 : gx_M) => gx_lt (gx_uI μ11 216 0 ((μ11.1 216 0) + 1)) (fun (μ12 : gx_M) => some ((), μ12))) 4000 0 μ)
theorem okL_X12_keepRow_16 {E : gx_E} {l : Launch} {p1 : Int32} {x1 : Int32} {k5 : gx_M → Option (Unit × gx_M)} (hk : ∀ (μ10 : gx_M), GoW E l Y_X12_keepRow 0 gx_eV 48 [some (.ref (E.2.2.1 + 206))] [] μ10 (k5 μ10)) : ∀ (n : Nat) (v4_3 : Int32) (μ4 : gx_M), GoW E l Y_X12_keepRow 0 gx_eV 16 [some (.ref (E.2.2.1 + 206)), some (.int p1), none, some (.int x1), some (.int v4_3)] [] μ4 (L_X12_keepRow_16 p1 x1 k5 n v4_3 μ4) := by
  intro n
  induction n with
  | zero => intros; exact W_no
  | succ n ih =>
    intro v4_3 μ4
    rw [L_X12_keepRow_16.eq_2]
    refine W_s (s_iload dX12_keepRow_16 rfl) ?_
    refine W_s (s_iload_n dX12_keepRow_18 rfl rfl) ?_
    refine W_ite (fun h6 => ?_) (fun h6 => ?_)
    · refine W_s (s_icmp_ge_t dX12_keepRow_19 rfl h6) ?_
      exact W_wk (hk μ4) (le_s rfl le_n)
    · refine W_s (s_icmp_ge_f dX12_keepRow_19 rfl h6) ?_
      refine W_s (s_aload_n dX12_keepRow_22 rfl rfl) ?_
      refine W_s (gf_RX12_38 rfl dX12_keepRow_23) ?_
      refine W_s (s_iconst dX12_keepRow_26 kci_1) ?_
      refine W_s (s_iload_n dX12_keepRow_27 rfl rfl) ?_
      refine W_s (s_iload_n dX12_keepRow_28 rfl rfl) ?_
      refine W_s (s_imul dX12_keepRow_29) ?_
      refine W_s (s_iadd dX12_keepRow_30) ?_
      refine W_s (s_iload dX12_keepRow_31 rfl) ?_
      refine W_s (s_iadd dX12_keepRow_33) ?_
      refine W_s (s_aload_n dX12_keepRow_34 rfl rfl) ?_
      refine W_s (gf_RX12_41 rfl dX12_keepRow_35) ?_
      refine W_s (s_iload dX12_keepRow_38 rfl) ?_
      refine W_ck (fun h7 => ?_)
      refine W_s (s_iald dX12_keepRow_40 g_217 (gx_ixv h7)) ?_
      refine W_ck (fun h8 => ?_)
      refine W_s (s_iast dX12_keepRow_41 g_216 (gx_ixv h8)) ?_
      refine W_letM (fun μ9 => ?_)
      refine W_s (s_iinc dX12_keepRow_42 rfl (kinc_1 v4_3) (Nat.le_of_ble_eq_true rfl)) ?_
      refine W_s (s_goto dX12_keepRow_45 rfl) ?_
      exact W_wk (ih (v4_3 + 1) μ9) (le_s rfl (le_s rfl (le_o (le_s rfl (le_s rfl le_n)))))
theorem ev_X12_keepRow {E : gx_E} {l : Launch} (p1 : Int32) (p2 : Int32) (μ : gx_M) {r : Unit} {μ' : gx_M} (hr : f_X12_keepRow p1 p2 μ = some (r, μ')) : gEv E l 0 Y_X12_keepRow [.ref (E.2.2.1 + 206), .int p1, .int p2] gx_G1 μ (gx_eV r) gx_G1 μ' := by
  refine W_ev (by decide) (Nat.le_of_ble_eq_true rfl) (em := gx_eV) (T := f_X12_keepRow p1 p2 μ) ?_ hr
  show GoW E l Y_X12_keepRow 0 gx_eV 0 (gx_el [.ref (E.2.2.1 + 206), .int p1, .int p2]) [] μ (f_X12_keepRow p1 p2 μ)
  unfold f_X12_keepRow
  refine W_s (s_aload_n dX12_keepRow_0 rfl rfl) ?_
  refine W_s (gf_RX12_38 rfl dX12_keepRow_1) ?_
  refine W_s (s_iconst dX12_keepRow_4 kci_0) ?_
  refine W_s (s_ialdL (k := 0) dX12_keepRow_5 g_216 (gx_inl (by decide)) (by decide)) ?_
  refine W_letI (fun x1 => ?_)
  refine W_s (s_istore_n dX12_keepRow_6 rfl (Nat.le_of_ble_eq_true rfl)) ?_
  refine W_s (s_iload_n dX12_keepRow_7 rfl rfl) ?_
  refine W_s (s_iload_n dX12_keepRow_8 rfl rfl) ?_
  refine W_ite (fun h2 => ?_) (fun h2 => ?_)
  · refine W_s (s_icmp_ne_f dX12_keepRow_9 rfl h2) ?_
    exact W_r (r := ()) (f_void dX12_keepRow_12 rfl)
  · refine W_s (s_icmp_ne_t dX12_keepRow_9 rfl h2) ?_
    refine W_s (s_iconst dX12_keepRow_13 kci_0) ?_
    refine W_s (s_istore dX12_keepRow_14 (Nat.le_of_ble_eq_true rfl)) ?_
    refine W_wk (okL_X12_keepRow_16 ?_ 4000 0 μ) (le_s rfl (le_s rfl (le_o (le_s rfl (le_s rfl le_n)))))
    intro μ11
    refine W_s (s_aload_n dX12_keepRow_48 rfl rfl) ?_
    refine W_s (gf_RX12_38 rfl dX12_keepRow_49) ?_
    refine W_s (s_iconst dX12_keepRow_52 kci_0) ?_
    refine W_s (s_dup2 dX12_keepRow_53 rfl rfl) ?_
    refine W_s (s_ialdL (k := 0) dX12_keepRow_54 g_216 (gx_inl (by decide)) (by decide)) ?_
    refine W_s (s_iconst dX12_keepRow_55 kci_1) ?_
    refine W_s (s_iadd dX12_keepRow_56) ?_
    refine W_s (s_iastL (k := 0) dX12_keepRow_57 g_216 (gx_inl (by decide)) (by decide)) ?_
    refine W_letM (fun μ12 => ?_)
    exact W_r (r := ()) (f_void dX12_keepRow_58 rfl)

def f_X12_deedBy (p0 : Int64) : Int32 := if p0 = 6452601 then 0 else if p0 = 499967946347 then 1 else if p0 = 495874040172 then 2 else if p0 = 1936026732 then 3 else if p0 = 25711 then 4 else if p0 = 110386589361522 then 5 else if p0 = 27980807330096498 then 6 else (-1)
theorem ev_X12_deedBy {E : gx_E} {l : Launch} (p0 : Int64) (μ : gx_M) : gEv E l 0 Y_X12_deedBy [.long p0] gx_G1 μ (gx_eI (f_X12_deedBy p0)) gx_G1 μ := by
  refine P_ev (by decide) (Nat.le_of_ble_eq_true rfl) (em := gx_eI) (T := f_X12_deedBy p0) ?_
  show GoP E l Y_X12_deedBy 0 gx_eI 0 (gx_el [.long p0]) [] μ (f_X12_deedBy p0)
  unfold f_X12_deedBy
  refine P_s (s_lload_n dX12_deedBy_0 rfl rfl) ?_
  refine P_s (s_ldc2 dX12_deedBy_1 kw_RX12_209) ?_
  refine P_s (s_lcmp dX12_deedBy_4) ?_
  refine P_ite (fun h1 => ?_) (fun h1 => ?_)
  · refine P_s (s_if_ne_f dX12_deedBy_5 rfl ((lgc_eq p0 6452601).mpr h1)) ?_
    refine P_s (s_iconst dX12_deedBy_8 kci_0) ?_
    refine P_s (s_goto dX12_deedBy_9 rfl) ?_
    exact P_r (r := 0) (f_int (ty := .int) dX12_deedBy_86 rfl rfl)
  · refine P_s (s_if_ne_t dX12_deedBy_5 rfl (fun hc => h1 ((lgc_eq p0 6452601).mp hc))) ?_
    refine P_s (s_lload_n dX12_deedBy_12 rfl rfl) ?_
    refine P_s (s_ldc2 dX12_deedBy_13 kw_RX12_211) ?_
    refine P_s (s_lcmp dX12_deedBy_16) ?_
    refine P_ite (fun h2 => ?_) (fun h2 => ?_)
    · refine P_s (s_if_ne_f dX12_deedBy_17 rfl ((lgc_eq p0 499967946347).mpr h2)) ?_
      refine P_s (s_iconst dX12_deedBy_20 kci_1) ?_
      refine P_s (s_goto dX12_deedBy_21 rfl) ?_
      exact P_r (r := 1) (f_int (ty := .int) dX12_deedBy_86 rfl rfl)
    · refine P_s (s_if_ne_t dX12_deedBy_17 rfl (fun hc => h2 ((lgc_eq p0 499967946347).mp hc))) ?_
      refine P_s (s_lload_n dX12_deedBy_24 rfl rfl) ?_
      refine P_s (s_ldc2 dX12_deedBy_25 kw_RX12_213) ?_
      refine P_s (s_lcmp dX12_deedBy_28) ?_
      refine P_ite (fun h3 => ?_) (fun h3 => ?_)
      · refine P_s (s_if_ne_f dX12_deedBy_29 rfl ((lgc_eq p0 495874040172).mpr h3)) ?_
        refine P_s (s_iconst dX12_deedBy_32 kci_2) ?_
        refine P_s (s_goto dX12_deedBy_33 rfl) ?_
        exact P_r (r := 2) (f_int (ty := .int) dX12_deedBy_86 rfl rfl)
      · refine P_s (s_if_ne_t dX12_deedBy_29 rfl (fun hc => h3 ((lgc_eq p0 495874040172).mp hc))) ?_
        refine P_s (s_lload_n dX12_deedBy_36 rfl rfl) ?_
        refine P_s (s_ldc2 dX12_deedBy_37 kw_RX12_215) ?_
        refine P_s (s_lcmp dX12_deedBy_40) ?_
        refine P_ite (fun h4 => ?_) (fun h4 => ?_)
        · refine P_s (s_if_ne_f dX12_deedBy_41 rfl ((lgc_eq p0 1936026732).mpr h4)) ?_
          refine P_s (s_iconst dX12_deedBy_44 kci_3) ?_
          refine P_s (s_goto dX12_deedBy_45 rfl) ?_
          exact P_r (r := 3) (f_int (ty := .int) dX12_deedBy_86 rfl rfl)
        · refine P_s (s_if_ne_t dX12_deedBy_41 rfl (fun hc => h4 ((lgc_eq p0 1936026732).mp hc))) ?_
          refine P_s (s_lload_n dX12_deedBy_48 rfl rfl) ?_
          refine P_s (s_ldc2 dX12_deedBy_49 kw_RX12_217) ?_
          refine P_s (s_lcmp dX12_deedBy_52) ?_
          refine P_ite (fun h5 => ?_) (fun h5 => ?_)
          · refine P_s (s_if_ne_f dX12_deedBy_53 rfl ((lgc_eq p0 25711).mpr h5)) ?_
            refine P_s (s_iconst dX12_deedBy_56 kci_4) ?_
            refine P_s (s_goto dX12_deedBy_57 rfl) ?_
            exact P_r (r := 4) (f_int (ty := .int) dX12_deedBy_86 rfl rfl)
          · refine P_s (s_if_ne_t dX12_deedBy_53 rfl (fun hc => h5 ((lgc_eq p0 25711).mp hc))) ?_
            refine P_s (s_lload_n dX12_deedBy_60 rfl rfl) ?_
            refine P_s (s_ldc2 dX12_deedBy_61 kw_RX12_219) ?_
            refine P_s (s_lcmp dX12_deedBy_64) ?_
            refine P_ite (fun h6 => ?_) (fun h6 => ?_)
            · refine P_s (s_if_ne_f dX12_deedBy_65 rfl ((lgc_eq p0 110386589361522).mpr h6)) ?_
              refine P_s (s_iconst dX12_deedBy_68 kci_5) ?_
              refine P_s (s_goto dX12_deedBy_69 rfl) ?_
              exact P_r (r := 5) (f_int (ty := .int) dX12_deedBy_86 rfl rfl)
            · refine P_s (s_if_ne_t dX12_deedBy_65 rfl (fun hc => h6 ((lgc_eq p0 110386589361522).mp hc))) ?_
              refine P_s (s_lload_n dX12_deedBy_72 rfl rfl) ?_
              refine P_s (s_ldc2 dX12_deedBy_73 kw_RX12_221) ?_
              refine P_s (s_lcmp dX12_deedBy_76) ?_
              refine P_ite (fun h7 => ?_) (fun h7 => ?_)
              · refine P_s (s_if_ne_f dX12_deedBy_77 rfl ((lgc_eq p0 27980807330096498).mpr h7)) ?_
                refine P_s (s_bipush dX12_deedBy_80 kcb_6) ?_
                refine P_s (s_goto dX12_deedBy_82 rfl) ?_
                exact P_r (r := 6) (f_int (ty := .int) dX12_deedBy_86 rfl rfl)
              · refine P_s (s_if_ne_t dX12_deedBy_77 rfl (fun hc => h7 ((lgc_eq p0 27980807330096498).mp hc))) ?_
                refine P_s (s_iconst dX12_deedBy_85 kci_m1) ?_
                exact P_r (r := (-1)) (f_int (ty := .int) dX12_deedBy_86 rfl rfl)

def L_X12_blank_2 (k3 : gx_M → Option (Unit × gx_M)) : Nat → Int32 → gx_M → Option (Unit × gx_M)
  | 0, _, _ => none
  | n + 1, v2_1, μ2 => if 161 ≤ v2_1 then k3 μ2 else gx_ck (gx_ix v2_1 161 = true) (gx_lt (gx_uI μ2 216 v2_1.toNatClampNeg 0) (fun (μ6 : gx_M) => L_X12_blank_2 k3 n (v2_1 + 1) μ6))
def L_X12_blank_60 (k19 : gx_M → Option (Unit × gx_M)) : Nat → Int32 → gx_M → Option (Unit × gx_M)
  | 0, _, _ => none
  | n + 1, v2_17, μ18 => if 4 ≤ v2_17 then k19 μ18 else gx_ck (gx_ix (3 + v2_17) 161 = true) (gx_lt (gx_uI μ18 216 (3 + v2_17).toNatClampNeg 20) (fun (μ22 : gx_M) => L_X12_blank_60 k19 n (v2_17 + 1) μ22))
def L_X12_blank_83 (k27 : gx_M → Option (Unit × gx_M)) : Nat → Int32 → gx_M → Option (Unit × gx_M)
  | 0, _, _ => none
  | n + 1, v2_25, μ26 => if 40 ≤ v2_25 then k27 μ26 else gx_ck (gx_ix (31 + v2_25) 161 = true) (gx_lt (gx_uI μ26 216 (31 + v2_25).toNatClampNeg 1) (fun (μ30 : gx_M) => gx_ck (gx_ix (71 + v2_25) 161 = true) (gx_lt (gx_uI μ30 216 (71 + v2_25).toNatClampNeg (-1)) (fun (μ32 : gx_M) => L_X12_blank_83 k27 n (v2_25 + 1) μ32))))
def f_X12_blank (p1 : Int32) (μ : gx_M) : Option (Unit × gx_M) := L_X12_blank_2 (fun (μ8 : gx_M) => gx_lt (fun (j0_12 : Int32) (μ13 : gx_M) => gx_lt (gx_uI μ13 216 0 j0_12) (fun (μ14 : gx_M) => if p1 = 0 then gx_lt (gx_uI μ14 216 1 2) (fun (μ16 : gx_M) => L_X12_blank_60 (fun (μ24 : gx_M) => L_X12_blank_83 (fun (μ34 : gx_M) => some ((), μ34)) 4000 0 μ24) 4000 0 μ16) else some ((), μ14))) (fun J9 => if p1 = 0 then J9 12 μ8 else if p1 = 3 then J9 3 μ8 else J9 0 μ8)) 4000 0 μ
theorem okL_X12_blank_2 {E : gx_E} {l : Launch} {p1 : Int32} {k3 : gx_M → Option (Unit × gx_M)} (hk : ∀ (μ7 : gx_M), GoW E l Y_X12_blank 0 gx_eV 22 [some (.ref (E.2.2.1 + 206)), some (.int p1)] [] μ7 (k3 μ7)) : ∀ (n : Nat) (v2_1 : Int32) (μ2 : gx_M), GoW E l Y_X12_blank 0 gx_eV 2 [some (.ref (E.2.2.1 + 206)), some (.int p1), some (.int v2_1)] [] μ2 (L_X12_blank_2 k3 n v2_1 μ2) := by
  intro n
  induction n with
  | zero => intros; exact W_no
  | succ n ih =>
    intro v2_1 μ2
    rw [L_X12_blank_2.eq_2]
    refine W_s (s_iload_n dX12_blank_2 rfl rfl) ?_
    refine W_s (s_sipush dX12_blank_3 kcs_161) ?_
    refine W_ite (fun h4 => ?_) (fun h4 => ?_)
    · refine W_s (s_icmp_ge_t dX12_blank_6 rfl h4) ?_
      exact W_wk (hk μ2) (le_s rfl (le_s rfl le_n))
    · refine W_s (s_icmp_ge_f dX12_blank_6 rfl h4) ?_
      refine W_s (s_aload_n dX12_blank_9 rfl rfl) ?_
      refine W_s (gf_RX12_38 rfl dX12_blank_10) ?_
      refine W_s (s_iload_n dX12_blank_13 rfl rfl) ?_
      refine W_s (s_iconst dX12_blank_14 kci_0) ?_
      refine W_ck (fun h5 => ?_)
      refine W_s (s_iast dX12_blank_15 g_216 (gx_ixv h5)) ?_
      refine W_letM (fun μ6 => ?_)
      refine W_s (s_iinc dX12_blank_16 rfl (kinc_1 v2_1) (Nat.le_of_ble_eq_true rfl)) ?_
      refine W_s (s_goto dX12_blank_19 rfl) ?_
      exact W_wk (ih (v2_1 + 1) μ6) (le_s rfl (le_s rfl (le_s rfl le_n)))
theorem okL_X12_blank_60 {E : gx_E} {l : Launch} {k19 : gx_M → Option (Unit × gx_M)} (hk : ∀ (μ23 : gx_M), GoW E l Y_X12_blank 0 gx_eV 81 [some (.ref (E.2.2.1 + 206))] [] μ23 (k19 μ23)) : ∀ (n : Nat) (v2_17 : Int32) (μ18 : gx_M), GoW E l Y_X12_blank 0 gx_eV 60 [some (.ref (E.2.2.1 + 206)), none, some (.int v2_17)] [] μ18 (L_X12_blank_60 k19 n v2_17 μ18) := by
  intro n
  induction n with
  | zero => intros; exact W_no
  | succ n ih =>
    intro v2_17 μ18
    rw [L_X12_blank_60.eq_2]
    refine W_s (s_iload_n dX12_blank_60 rfl rfl) ?_
    refine W_s (s_iconst dX12_blank_61 kci_4) ?_
    refine W_ite (fun h20 => ?_) (fun h20 => ?_)
    · refine W_s (s_icmp_ge_t dX12_blank_62 rfl h20) ?_
      exact W_wk (hk μ18) (le_s rfl le_n)
    · refine W_s (s_icmp_ge_f dX12_blank_62 rfl h20) ?_
      refine W_s (s_aload_n dX12_blank_65 rfl rfl) ?_
      refine W_s (gf_RX12_38 rfl dX12_blank_66) ?_
      refine W_s (s_iconst dX12_blank_69 kci_3) ?_
      refine W_s (s_iload_n dX12_blank_70 rfl rfl) ?_
      refine W_s (s_iadd dX12_blank_71) ?_
      refine W_s (s_bipush dX12_blank_72 kcb_20) ?_
      refine W_ck (fun h21 => ?_)
      refine W_s (s_iast dX12_blank_74 g_216 (gx_ixv h21)) ?_
      refine W_letM (fun μ22 => ?_)
      refine W_s (s_iinc dX12_blank_75 rfl (kinc_1 v2_17) (Nat.le_of_ble_eq_true rfl)) ?_
      refine W_s (s_goto dX12_blank_78 rfl) ?_
      exact W_wk (ih (v2_17 + 1) μ22) (le_s rfl (le_o (le_s rfl le_n)))
theorem okL_X12_blank_83 {E : gx_E} {l : Launch} {k27 : gx_M → Option (Unit × gx_M)} (hk : ∀ (μ33 : gx_M), GoW E l Y_X12_blank 0 gx_eV 115 [] [] μ33 (k27 μ33)) : ∀ (n : Nat) (v2_25 : Int32) (μ26 : gx_M), GoW E l Y_X12_blank 0 gx_eV 83 [some (.ref (E.2.2.1 + 206)), none, some (.int v2_25)] [] μ26 (L_X12_blank_83 k27 n v2_25 μ26) := by
  intro n
  induction n with
  | zero => intros; exact W_no
  | succ n ih =>
    intro v2_25 μ26
    rw [L_X12_blank_83.eq_2]
    refine W_s (s_iload_n dX12_blank_83 rfl rfl) ?_
    refine W_s (s_bipush dX12_blank_84 kcb_40) ?_
    refine W_ite (fun h28 => ?_) (fun h28 => ?_)
    · refine W_s (s_icmp_ge_t dX12_blank_86 rfl h28) ?_
      exact W_wk (hk μ26) le_n
    · refine W_s (s_icmp_ge_f dX12_blank_86 rfl h28) ?_
      refine W_s (s_aload_n dX12_blank_89 rfl rfl) ?_
      refine W_s (gf_RX12_38 rfl dX12_blank_90) ?_
      refine W_s (s_bipush dX12_blank_93 kcb_31) ?_
      refine W_s (s_iload_n dX12_blank_95 rfl rfl) ?_
      refine W_s (s_iadd dX12_blank_96) ?_
      refine W_s (s_iconst dX12_blank_97 kci_1) ?_
      refine W_ck (fun h29 => ?_)
      refine W_s (s_iast dX12_blank_98 g_216 (gx_ixv h29)) ?_
      refine W_letM (fun μ30 => ?_)
      refine W_s (s_aload_n dX12_blank_99 rfl rfl) ?_
      refine W_s (gf_RX12_38 rfl dX12_blank_100) ?_
      refine W_s (s_bipush dX12_blank_103 kcb_71) ?_
      refine W_s (s_iload_n dX12_blank_105 rfl rfl) ?_
      refine W_s (s_iadd dX12_blank_106) ?_
      refine W_s (s_iconst dX12_blank_107 kci_m1) ?_
      refine W_ck (fun h31 => ?_)
      refine W_s (s_iast dX12_blank_108 g_216 (gx_ixv h31)) ?_
      refine W_letM (fun μ32 => ?_)
      refine W_s (s_iinc dX12_blank_109 rfl (kinc_1 v2_25) (Nat.le_of_ble_eq_true rfl)) ?_
      refine W_s (s_goto dX12_blank_112 rfl) ?_
      exact W_wk (ih (v2_25 + 1) μ32) (le_s rfl (le_o (le_s rfl le_n)))
theorem ev_X12_blank {E : gx_E} {l : Launch} (p1 : Int32) (μ : gx_M) {r : Unit} {μ' : gx_M} (hr : f_X12_blank p1 μ = some (r, μ')) : gEv E l 0 Y_X12_blank [.ref (E.2.2.1 + 206), .int p1] gx_G1 μ (gx_eV r) gx_G1 μ' := by
  refine W_ev (by decide) (Nat.le_of_ble_eq_true rfl) (em := gx_eV) (T := f_X12_blank p1 μ) ?_ hr
  show GoW E l Y_X12_blank 0 gx_eV 0 (gx_el [.ref (E.2.2.1 + 206), .int p1]) [] μ (f_X12_blank p1 μ)
  unfold f_X12_blank
  refine W_s (s_iconst dX12_blank_0 kci_0) ?_
  refine W_s (s_istore_n dX12_blank_1 rfl (Nat.le_of_ble_eq_true rfl)) ?_
  refine W_wk (okL_X12_blank_2 ?_ 4000 0 μ) (le_s rfl (le_s rfl (le_s rfl le_n)))
  intro μ8
  refine W_s (s_aload_n dX12_blank_22 rfl rfl) ?_
  refine W_s (gf_RX12_38 rfl dX12_blank_23) ?_
  refine W_s (s_iconst dX12_blank_26 kci_0) ?_
  refine W_s (s_iload_n dX12_blank_27 rfl rfl) ?_
  refine W_fun (fun J => ∀ (j0_12 : Int32) (μ13 : gx_M), GoW E l Y_X12_blank 0 gx_eV 46 [some (.ref (E.2.2.1 + 206)), some (.int p1)] [.int j0_12, .int 0, .ref (E.2.2.1 + 216)] μ13 (J j0_12 μ13)) ?_ (fun J9 hJ9 => ?_)
  · intro j0_12 μ13
    refine W_s (s_iastL (k := 0) dX12_blank_46 g_216 (gx_inl (by decide)) (by decide)) ?_
    refine W_letM (fun μ14 => ?_)
    refine W_s (s_iload_n dX12_blank_47 rfl rfl) ?_
    refine W_ite (fun h15 => ?_) (fun h15 => ?_)
    · refine W_s (s_if_ne_f dX12_blank_48 rfl h15) ?_
      refine W_s (s_aload_n dX12_blank_51 rfl rfl) ?_
      refine W_s (gf_RX12_38 rfl dX12_blank_52) ?_
      refine W_s (s_iconst dX12_blank_55 kci_1) ?_
      refine W_s (s_iconst dX12_blank_56 kci_2) ?_
      refine W_s (s_iastL (k := 1) dX12_blank_57 g_216 (gx_inl (by decide)) (by decide)) ?_
      refine W_letM (fun μ16 => ?_)
      refine W_s (s_iconst dX12_blank_58 kci_0) ?_
      refine W_s (s_istore_n dX12_blank_59 rfl (Nat.le_of_ble_eq_true rfl)) ?_
      refine W_wk (okL_X12_blank_60 ?_ 4000 0 μ16) (le_s rfl (le_o (le_s rfl le_n)))
      intro μ24
      refine W_s (s_iconst dX12_blank_81 kci_0) ?_
      refine W_s (s_istore_n dX12_blank_82 rfl (Nat.le_of_ble_eq_true rfl)) ?_
      refine W_wk (okL_X12_blank_83 ?_ 4000 0 μ24) (le_s rfl (le_o (le_s rfl le_n)))
      intro μ34
      exact W_r (r := ()) (f_void dX12_blank_115 rfl)
    · refine W_s (s_if_ne_t dX12_blank_48 rfl h15) ?_
      exact W_r (r := ()) (f_void dX12_blank_115 rfl)
  · skip
    refine W_ite (fun h10 => ?_) (fun h10 => ?_)
    · refine W_s (s_if_ne_f dX12_blank_28 rfl h10) ?_
      refine W_s (s_bipush dX12_blank_31 kcb_12) ?_
      refine W_s (s_goto dX12_blank_33 rfl) ?_
      exact W_wk (hJ9 12 μ8) (le_s rfl (le_s rfl le_n))
    · refine W_s (s_if_ne_t dX12_blank_28 rfl h10) ?_
      refine W_s (s_iload_n dX12_blank_36 rfl rfl) ?_
      refine W_s (s_iconst dX12_blank_37 kci_3) ?_
      refine W_ite (fun h11 => ?_) (fun h11 => ?_)
      · refine W_s (s_icmp_ne_f dX12_blank_38 rfl h11) ?_
        refine W_s (s_iconst dX12_blank_41 kci_3) ?_
        refine W_s (s_goto dX12_blank_42 rfl) ?_
        exact W_wk (hJ9 3 μ8) (le_s rfl (le_s rfl le_n))
      · refine W_s (s_icmp_ne_t dX12_blank_38 rfl h11) ?_
        refine W_s (s_iconst dX12_blank_45 kci_0) ?_
        exact W_wk (hJ9 0 μ8) (le_s rfl (le_s rfl le_n))

def L_X12_store_3 (p2 : Int32) (p3 : Int32) (n1 : Nat) (a1 : Nat) (k3 : gx_M → Option (Unit × gx_M)) : Nat → Int32 → gx_M → Option (Unit × gx_M)
  | 0, _, _ => none
  | n + 1, v4_1, μ2 => if p2 ≤ v4_1 then k3 μ2 else gx_ck (gx_ix v4_1 161 = true) (gx_ck (gx_ix ((p2 * p3) + v4_1) n1 = true) (gx_lt (gx_uI μ2 a1 ((p2 * p3) + v4_1).toNatClampNeg (μ2.1 216 v4_1.toNatClampNeg)) (fun (μ7 : gx_M) => L_X12_store_3 p2 p3 n1 a1 k3 n (v4_1 + 1) μ7)))
def f_X12_store (a1 : Nat) (n1 : Nat) (p2 : Int32) (p3 : Int32) (μ : gx_M) : Option (Unit × gx_M) := L_X12_store_3 p2 p3 n1 a1 (fun (μ9 : gx_M) => some ((), μ9)) 4000 0 μ
theorem okL_X12_store_3 {E : gx_E} {l : Launch} {p2 : Int32} {p3 : Int32} {n1 : Nat} {a1 : Nat} (ha1 : gx_G1[a1]? = some (50, n1, [])) {k3 : gx_M → Option (Unit × gx_M)} (hk : ∀ (μ8 : gx_M), GoW E l Y_X12_store 0 gx_eV 30 [] [] μ8 (k3 μ8)) : ∀ (n : Nat) (v4_1 : Int32) (μ2 : gx_M), GoW E l Y_X12_store 0 gx_eV 3 [some (.ref (E.2.2.1 + 206)), some (.ref (E.2.2.1 + a1)), some (.int p2), some (.int p3), some (.int v4_1)] [] μ2 (L_X12_store_3 p2 p3 n1 a1 k3 n v4_1 μ2) := by
  intro n
  induction n with
  | zero => intros; exact W_no
  | succ n ih =>
    intro v4_1 μ2
    rw [L_X12_store_3.eq_2]
    refine W_s (s_iload dX12_store_3 rfl) ?_
    refine W_s (s_iload_n dX12_store_5 rfl rfl) ?_
    refine W_ite (fun h4 => ?_) (fun h4 => ?_)
    · refine W_s (s_icmp_ge_t dX12_store_6 rfl h4) ?_
      exact W_wk (hk μ2) le_n
    · refine W_s (s_icmp_ge_f dX12_store_6 rfl h4) ?_
      refine W_s (s_aload_n dX12_store_9 rfl rfl) ?_
      refine W_s (s_iload_n dX12_store_10 rfl rfl) ?_
      refine W_s (s_iload_n dX12_store_11 rfl rfl) ?_
      refine W_s (s_imul dX12_store_12) ?_
      refine W_s (s_iload dX12_store_13 rfl) ?_
      refine W_s (s_iadd dX12_store_15) ?_
      refine W_s (s_aload_n dX12_store_16 rfl rfl) ?_
      refine W_s (gf_RX12_38 rfl dX12_store_17) ?_
      refine W_s (s_iload dX12_store_20 rfl) ?_
      refine W_ck (fun h5 => ?_)
      refine W_s (s_iald dX12_store_22 g_216 (gx_ixv h5)) ?_
      refine W_ck (fun h6 => ?_)
      refine W_s (s_iast dX12_store_23 ha1 (gx_ixv h6)) ?_
      refine W_letM (fun μ7 => ?_)
      refine W_s (s_iinc dX12_store_24 rfl (kinc_1 v4_1) (Nat.le_of_ble_eq_true rfl)) ?_
      refine W_s (s_goto dX12_store_27 rfl) ?_
      exact W_wk (ih (v4_1 + 1) μ7) (le_s rfl (le_s rfl (le_s rfl (le_s rfl (le_s rfl le_n)))))
theorem ev_X12_store {E : gx_E} {l : Launch} (a1 : Nat) (n1 : Nat) (p2 : Int32) (p3 : Int32) (ha1 : gx_G1[a1]? = some (50, n1, [])) (μ : gx_M) {r : Unit} {μ' : gx_M} (hr : f_X12_store a1 n1 p2 p3 μ = some (r, μ')) : gEv E l 0 Y_X12_store [.ref (E.2.2.1 + 206), .ref (E.2.2.1 + a1), .int p2, .int p3] gx_G1 μ (gx_eV r) gx_G1 μ' := by
  refine W_ev (by decide) (Nat.le_of_ble_eq_true rfl) (em := gx_eV) (T := f_X12_store a1 n1 p2 p3 μ) ?_ hr
  show GoW E l Y_X12_store 0 gx_eV 0 (gx_el [.ref (E.2.2.1 + 206), .ref (E.2.2.1 + a1), .int p2, .int p3]) [] μ (f_X12_store a1 n1 p2 p3 μ)
  unfold f_X12_store
  refine W_s (s_iconst dX12_store_0 kci_0) ?_
  refine W_s (s_istore dX12_store_1 (Nat.le_of_ble_eq_true rfl)) ?_
  refine W_wk (okL_X12_store_3 ha1 ?_ 4000 0 μ) (le_s rfl (le_s rfl (le_s rfl (le_s rfl (le_s rfl le_n)))))
  intro μ9
  exact W_r (r := ()) (f_void dX12_store_30 rfl)

def f_X12_fault (p1 : Int32) (μ : gx_M) : Option (Int32 × gx_M) := gx_lt (gx_uI μ 206 0 0) (fun (μ1 : gx_M) => if p1 = 0 then some ((μ1.1 209 0), μ1) else if p1 = 1 then some ((μ1.1 210 0), μ1) else some ((-1), μ1))
theorem ev_X12_fault {E : gx_E} {l : Launch} (p1 : Int32) (μ : gx_M) {r : Int32} {μ' : gx_M} (hr : f_X12_fault p1 μ = some (r, μ')) : gEv E l 0 Y_X12_fault [.ref (E.2.2.1 + 206), .int p1] gx_G1 μ (gx_eI r) gx_G1 μ' := by
  refine W_ev (by decide) (Nat.le_of_ble_eq_true rfl) (em := gx_eI) (T := f_X12_fault p1 μ) ?_ hr
  show GoW E l Y_X12_fault 0 gx_eI 0 (gx_el [.ref (E.2.2.1 + 206), .int p1]) [] μ (f_X12_fault p1 μ)
  unfold f_X12_fault
  refine W_s (s_aload_n dX12_fault_0 rfl rfl) ?_
  refine W_s (s_iconst dX12_fault_1 kci_0) ?_
  refine W_s (pf_RX12_100 rfl dX12_fault_2) ?_
  refine W_letM (fun μ1 => ?_)
  refine W_s (s_iload_n dX12_fault_5 rfl rfl) ?_
  refine W_ite (fun h2 => ?_) (fun h2 => ?_)
  · refine W_s (s_if_ne_f dX12_fault_6 rfl h2) ?_
    refine W_s (s_aload_n dX12_fault_9 rfl rfl) ?_
    refine W_s (gf_RX12_17 rfl dX12_fault_10) ?_
    refine W_s (s_iconst dX12_fault_13 kci_0) ?_
    refine W_s (s_ialdL (k := 0) dX12_fault_14 g_209 (gx_inl (by decide)) (by decide)) ?_
    refine W_s (s_goto dX12_fault_15 rfl) ?_
    exact W_r (r := (μ1.1 209 0)) (f_int (ty := .int) dX12_fault_33 rfl rfl)
  · refine W_s (s_if_ne_t dX12_fault_6 rfl h2) ?_
    refine W_s (s_iload_n dX12_fault_18 rfl rfl) ?_
    refine W_s (s_iconst dX12_fault_19 kci_1) ?_
    refine W_ite (fun h3 => ?_) (fun h3 => ?_)
    · refine W_s (s_icmp_ne_f dX12_fault_20 rfl h3) ?_
      refine W_s (s_aload_n dX12_fault_23 rfl rfl) ?_
      refine W_s (gf_RX12_20 rfl dX12_fault_24) ?_
      refine W_s (s_iconst dX12_fault_27 kci_0) ?_
      refine W_s (s_ialdL (k := 0) dX12_fault_28 g_210 (gx_inl (by decide)) (by decide)) ?_
      refine W_s (s_goto dX12_fault_29 rfl) ?_
      exact W_r (r := (μ1.1 210 0)) (f_int (ty := .int) dX12_fault_33 rfl rfl)
    · refine W_s (s_icmp_ne_t dX12_fault_20 rfl h3) ?_
      refine W_s (s_iconst dX12_fault_32 kci_m1) ?_
      exact W_r (r := (-1)) (f_int (ty := .int) dX12_fault_33 rfl rfl)

def f_X12_of (p1 : Int32) (μ : gx_M) : Option Int32 := gx_ck (gx_ix ((111 * (μ.1 206 24)) + p1) 888 = true) (some (μ.1 212 ((111 * (μ.1 206 24)) + p1).toNatClampNeg))
theorem ev_X12_of {E : gx_E} {l : Launch} (p1 : Int32) (μ : gx_M) {r : Int32} (hr : f_X12_of p1 μ = some r) : gEv E l 0 Y_X12_of [.ref (E.2.2.1 + 206), .int p1] gx_G1 μ (gx_eI r) gx_G1 μ := by
  refine R_ev (by decide) (Nat.le_of_ble_eq_true rfl) (em := gx_eI) (T := f_X12_of p1 μ) ?_ hr
  show GoR E l Y_X12_of 0 gx_eI 0 (gx_el [.ref (E.2.2.1 + 206), .int p1]) [] μ (f_X12_of p1 μ)
  unfold f_X12_of
  refine R_s (s_aload_n dX12_of_0 rfl rfl) ?_
  refine R_s (gf_RX12_26 rfl dX12_of_1) ?_
  refine R_s (s_bipush dX12_of_4 kcb_111) ?_
  refine R_s (s_aload_n dX12_of_6 rfl rfl) ?_
  refine R_s (gf_RX12_276 rfl dX12_of_7) ?_
  refine R_s (s_imul dX12_of_10) ?_
  refine R_s (s_iload_n dX12_of_11 rfl rfl) ?_
  refine R_s (s_iadd dX12_of_12) ?_
  refine R_ck (fun h1 => ?_)
  refine R_s (s_iald dX12_of_13 g_212 (gx_ixv h1)) ?_
  exact R_r (r := (μ.1 212 ((111 * (μ.1 206 24)) + p1).toNatClampNeg)) (f_int (ty := .int) dX12_of_14 rfl rfl)

def f_X12_deeds (μ : gx_M) : Option Int32 := gx_ck (gx_ix (161 * (μ.1 206 33)) 1288 = true) (some (μ.1 213 (161 * (μ.1 206 33)).toNatClampNeg))
theorem ev_X12_deeds {E : gx_E} {l : Launch} (μ : gx_M) {r : Int32} (hr : f_X12_deeds μ = some r) : gEv E l 0 Y_X12_deeds [.ref (E.2.2.1 + 206)] gx_G1 μ (gx_eI r) gx_G1 μ := by
  refine R_ev (by decide) (Nat.le_of_ble_eq_true rfl) (em := gx_eI) (T := f_X12_deeds μ) ?_ hr
  show GoR E l Y_X12_deeds 0 gx_eI 0 (gx_el [.ref (E.2.2.1 + 206)]) [] μ (f_X12_deeds μ)
  unfold f_X12_deeds
  refine R_s (s_aload_n dX12_deeds_0 rfl rfl) ?_
  refine R_s (gf_RX12_29 rfl dX12_deeds_1) ?_
  refine R_s (s_sipush dX12_deeds_4 kcs_161) ?_
  refine R_s (s_aload_n dX12_deeds_7 rfl rfl) ?_
  refine R_s (gf_RX12_301 rfl dX12_deeds_8) ?_
  refine R_s (s_imul dX12_deeds_11) ?_
  refine R_ck (fun h1 => ?_)
  refine R_s (s_iald dX12_deeds_12 g_213 (gx_ixv h1)) ?_
  exact R_r (r := (μ.1 213 (161 * (μ.1 206 33)).toNatClampNeg)) (f_int (ty := .int) dX12_deeds_13 rfl rfl)

def f_X12_deedOf (p1 : Int32) (p2 : Int32) (μ : gx_M) : Option Int32 := gx_ck (gx_ix ((((161 * (μ.1 206 33)) + 1) + (4 * p1)) + p2) 1288 = true) (some (μ.1 213 ((((161 * (μ.1 206 33)) + 1) + (4 * p1)) + p2).toNatClampNeg))
theorem ev_X12_deedOf {E : gx_E} {l : Launch} (p1 : Int32) (p2 : Int32) (μ : gx_M) {r : Int32} (hr : f_X12_deedOf p1 p2 μ = some r) : gEv E l 0 Y_X12_deedOf [.ref (E.2.2.1 + 206), .int p1, .int p2] gx_G1 μ (gx_eI r) gx_G1 μ := by
  refine R_ev (by decide) (Nat.le_of_ble_eq_true rfl) (em := gx_eI) (T := f_X12_deedOf p1 p2 μ) ?_ hr
  show GoR E l Y_X12_deedOf 0 gx_eI 0 (gx_el [.ref (E.2.2.1 + 206), .int p1, .int p2]) [] μ (f_X12_deedOf p1 p2 μ)
  unfold f_X12_deedOf
  refine R_s (s_aload_n dX12_deedOf_0 rfl rfl) ?_
  refine R_s (gf_RX12_29 rfl dX12_deedOf_1) ?_
  refine R_s (s_sipush dX12_deedOf_4 kcs_161) ?_
  refine R_s (s_aload_n dX12_deedOf_7 rfl rfl) ?_
  refine R_s (gf_RX12_301 rfl dX12_deedOf_8) ?_
  refine R_s (s_imul dX12_deedOf_11) ?_
  refine R_s (s_iconst dX12_deedOf_12 kci_1) ?_
  refine R_s (s_iadd dX12_deedOf_13) ?_
  refine R_s (s_iconst dX12_deedOf_14 kci_4) ?_
  refine R_s (s_iload_n dX12_deedOf_15 rfl rfl) ?_
  refine R_s (s_imul dX12_deedOf_16) ?_
  refine R_s (s_iadd dX12_deedOf_17) ?_
  refine R_s (s_iload_n dX12_deedOf_18 rfl rfl) ?_
  refine R_s (s_iadd dX12_deedOf_19) ?_
  refine R_ck (fun h1 => ?_)
  refine R_s (s_iald dX12_deedOf_20 g_213 (gx_ixv h1)) ?_
  exact R_r (r := (μ.1 213 ((((161 * (μ.1 206 33)) + 1) + (4 * p1)) + p2).toNatClampNeg)) (f_int (ty := .int) dX12_deedOf_21 rfl rfl)

def L_X12_opens_7 (k4 : gx_M → Option (Unit × gx_M)) : Nat → Int32 → gx_M → Option (Unit × gx_M)
  | 0, _, _ => none
  | n + 1, v1_2, μ3 => if 4 ≤ v1_2 then k4 μ3 else gx_ck (gx_ix v1_2 4 = true) (gx_lt (gx_uI μ3 223 v1_2.toNatClampNeg 0) (fun (μ7 : gx_M) => L_X12_opens_7 k4 n (v1_2 + 1) μ7))
def L_X12_opens_27 (k12 : gx_M → Option (Unit × gx_M)) : Nat → Int32 → gx_M → Option (Unit × gx_M)
  | 0, _, _ => none
  | n + 1, v1_10, μ11 => if 40 ≤ v1_10 then k12 μ11 else gx_ck (gx_ix v1_10 40 = true) (gx_lt (gx_uI μ11 224 v1_10.toNatClampNeg 0) (fun (μ15 : gx_M) => L_X12_opens_27 k12 n (v1_10 + 1) μ15))
def f_X12_opens (μ : gx_M) : Option (Unit × gx_M) := gx_lt (gx_uI μ 206 34 (-1)) (fun (μ1 : gx_M) => L_X12_opens_7 (fun (μ9 : gx_M) => L_X12_opens_27 (fun (μ17 : gx_M) => some ((), μ17)) 4000 0 μ9) 4000 0 μ1)
theorem okL_X12_opens_7 {E : gx_E} {l : Launch} {k4 : gx_M → Option (Unit × gx_M)} (hk : ∀ (μ8 : gx_M), GoW E l Y_X12_opens 0 gx_eV 25 [some (.ref (E.2.2.1 + 206))] [] μ8 (k4 μ8)) : ∀ (n : Nat) (v1_2 : Int32) (μ3 : gx_M), GoW E l Y_X12_opens 0 gx_eV 7 [some (.ref (E.2.2.1 + 206)), some (.int v1_2)] [] μ3 (L_X12_opens_7 k4 n v1_2 μ3) := by
  intro n
  induction n with
  | zero => intros; exact W_no
  | succ n ih =>
    intro v1_2 μ3
    rw [L_X12_opens_7.eq_2]
    refine W_s (s_iload_n dX12_opens_7 rfl rfl) ?_
    refine W_s (s_iconst dX12_opens_8 kci_4) ?_
    refine W_ite (fun h5 => ?_) (fun h5 => ?_)
    · refine W_s (s_icmp_ge_t dX12_opens_9 rfl h5) ?_
      exact W_wk (hk μ3) (le_s rfl le_n)
    · refine W_s (s_icmp_ge_f dX12_opens_9 rfl h5) ?_
      refine W_s (s_aload_n dX12_opens_12 rfl rfl) ?_
      refine W_s (gf_RX12_60 rfl dX12_opens_13) ?_
      refine W_s (s_iload_n dX12_opens_16 rfl rfl) ?_
      refine W_s (s_iconst dX12_opens_17 kci_0) ?_
      refine W_ck (fun h6 => ?_)
      refine W_s (s_iast dX12_opens_18 g_223 (gx_ixv h6)) ?_
      refine W_letM (fun μ7 => ?_)
      refine W_s (s_iinc dX12_opens_19 rfl (kinc_1 v1_2) (Nat.le_of_ble_eq_true rfl)) ?_
      refine W_s (s_goto dX12_opens_22 rfl) ?_
      exact W_wk (ih (v1_2 + 1) μ7) (le_s rfl (le_s rfl le_n))
theorem okL_X12_opens_27 {E : gx_E} {l : Launch} {k12 : gx_M → Option (Unit × gx_M)} (hk : ∀ (μ16 : gx_M), GoW E l Y_X12_opens 0 gx_eV 46 [] [] μ16 (k12 μ16)) : ∀ (n : Nat) (v1_10 : Int32) (μ11 : gx_M), GoW E l Y_X12_opens 0 gx_eV 27 [some (.ref (E.2.2.1 + 206)), some (.int v1_10)] [] μ11 (L_X12_opens_27 k12 n v1_10 μ11) := by
  intro n
  induction n with
  | zero => intros; exact W_no
  | succ n ih =>
    intro v1_10 μ11
    rw [L_X12_opens_27.eq_2]
    refine W_s (s_iload_n dX12_opens_27 rfl rfl) ?_
    refine W_s (s_bipush dX12_opens_28 kcb_40) ?_
    refine W_ite (fun h13 => ?_) (fun h13 => ?_)
    · refine W_s (s_icmp_ge_t dX12_opens_30 rfl h13) ?_
      exact W_wk (hk μ11) le_n
    · refine W_s (s_icmp_ge_f dX12_opens_30 rfl h13) ?_
      refine W_s (s_aload_n dX12_opens_33 rfl rfl) ?_
      refine W_s (gf_RX12_63 rfl dX12_opens_34) ?_
      refine W_s (s_iload_n dX12_opens_37 rfl rfl) ?_
      refine W_s (s_iconst dX12_opens_38 kci_0) ?_
      refine W_ck (fun h14 => ?_)
      refine W_s (s_iast dX12_opens_39 g_224 (gx_ixv h14)) ?_
      refine W_letM (fun μ15 => ?_)
      refine W_s (s_iinc dX12_opens_40 rfl (kinc_1 v1_10) (Nat.le_of_ble_eq_true rfl)) ?_
      refine W_s (s_goto dX12_opens_43 rfl) ?_
      exact W_wk (ih (v1_10 + 1) μ15) (le_s rfl (le_s rfl le_n))
theorem ev_X12_opens {E : gx_E} {l : Launch} (μ : gx_M) {r : Unit} {μ' : gx_M} (hr : f_X12_opens μ = some (r, μ')) : gEv E l 0 Y_X12_opens [.ref (E.2.2.1 + 206)] gx_G1 μ (gx_eV r) gx_G1 μ' := by
  refine W_ev (by decide) (Nat.le_of_ble_eq_true rfl) (em := gx_eV) (T := f_X12_opens μ) ?_ hr
  show GoW E l Y_X12_opens 0 gx_eV 0 (gx_el [.ref (E.2.2.1 + 206)]) [] μ (f_X12_opens μ)
  unfold f_X12_opens
  refine W_s (s_aload_n dX12_opens_0 rfl rfl) ?_
  refine W_s (s_iconst dX12_opens_1 kci_m1) ?_
  refine W_s (pf_RX12_313 rfl dX12_opens_2) ?_
  refine W_letM (fun μ1 => ?_)
  refine W_s (s_iconst dX12_opens_5 kci_0) ?_
  refine W_s (s_istore_n dX12_opens_6 rfl (Nat.le_of_ble_eq_true rfl)) ?_
  refine W_wk (okL_X12_opens_7 ?_ 4000 0 μ1) (le_s rfl (le_s rfl le_n))
  intro μ9
  refine W_s (s_iconst dX12_opens_25 kci_0) ?_
  refine W_s (s_istore_n dX12_opens_26 rfl (Nat.le_of_ble_eq_true rfl)) ?_
  refine W_wk (okL_X12_opens_27 ?_ 4000 0 μ9) (le_s rfl (le_s rfl le_n))
  intro μ17
  exact W_r (r := ()) (f_void dX12_opens_46 rfl)

def f_X12_buys (p1 : Int32) (p2 : Int32) (μ : gx_M) : Option (Bool × gx_M) := gx_ck (gx_ix p2 40 = true) (if (μ.1 220 p2.toNatClampNeg) = p1 then some (false, μ) else gx_ck (gx_ix p1 4 = true) (if (μ.1 219 p2.toNatClampNeg) ≤ (μ.1 218 p1.toNatClampNeg) then gx_lt (gx_uI μ 218 p1.toNatClampNeg ((μ.1 218 p1.toNatClampNeg) - (μ.1 219 p2.toNatClampNeg))) (fun (μ5 : gx_M) => gx_lt (fun (μ10 : gx_M) => gx_lt (gx_uI μ10 220 p2.toNatClampNeg p1) (fun (μ11 : gx_M) => gx_lt (gx_uI μ11 224 p2.toNatClampNeg ((μ11.1 224 p2.toNatClampNeg) + 1)) (fun (μ12 : gx_M) => some (true, μ12)))) (fun J6 => if (μ5.1 220 p2.toNatClampNeg) = (-1) then J6 μ5 else gx_ck (gx_ix (μ5.1 220 p2.toNatClampNeg) 4 = true) (gx_lt (gx_uI μ5 218 (μ5.1 220 p2.toNatClampNeg).toNatClampNeg ((μ5.1 218 (μ5.1 220 p2.toNatClampNeg).toNatClampNeg) + (μ5.1 219 p2.toNatClampNeg))) (fun (μ9 : gx_M) => J6 μ9)))) else some (false, μ)))
theorem ev_X12_buys {E : gx_E} {l : Launch} (p1 : Int32) (p2 : Int32) (μ : gx_M) {r : Bool} {μ' : gx_M} (hr : f_X12_buys p1 p2 μ = some (r, μ')) : gEv E l 0 Y_X12_buys [.ref (E.2.2.1 + 206), .int p1, .int p2] gx_G1 μ (gx_eB r) gx_G1 μ' := by
  refine W_ev (by decide) (Nat.le_of_ble_eq_true rfl) (em := gx_eB) (T := f_X12_buys p1 p2 μ) ?_ hr
  show GoW E l Y_X12_buys 0 gx_eB 0 (gx_el [.ref (E.2.2.1 + 206), .int p1, .int p2]) [] μ (f_X12_buys p1 p2 μ)
  unfold f_X12_buys
  refine W_s (s_aload_n dX12_buys_0 rfl rfl) ?_
  refine W_s (gf_RX12_50 rfl dX12_buys_1) ?_
  refine W_s (s_iload_n dX12_buys_4 rfl rfl) ?_
  refine W_ck (fun h1 => ?_)
  refine W_s (s_iald dX12_buys_5 g_220 (gx_ixv h1)) ?_
  refine W_s (s_iload_n dX12_buys_6 rfl rfl) ?_
  refine W_ite (fun h2 => ?_) (fun h2 => ?_)
  · refine W_s (s_icmp_eq_t dX12_buys_7 rfl h2) ?_
    refine W_s (s_iconst dX12_buys_25 kci_0) ?_
    exact W_r (r := false) (f_int (ty := .boolean) (x := gx_bi false) dX12_buys_26 rfl (gx_bn false))
  · refine W_s (s_icmp_eq_f dX12_buys_7 rfl h2) ?_
    refine W_s (s_aload_n dX12_buys_10 rfl rfl) ?_
    refine W_s (gf_RX12_44 rfl dX12_buys_11) ?_
    refine W_s (s_iload_n dX12_buys_14 rfl rfl) ?_
    refine W_ck (fun h3 => ?_)
    refine W_s (s_iald dX12_buys_15 g_218 (gx_ixv h3)) ?_
    refine W_s (s_aload_n dX12_buys_16 rfl rfl) ?_
    refine W_s (gf_RX12_47 rfl dX12_buys_17) ?_
    refine W_s (s_iload_n dX12_buys_20 rfl rfl) ?_
    refine W_s (s_iald dX12_buys_21 g_219 (gx_ixv h1)) ?_
    refine W_ite (fun h4 => ?_) (fun h4 => ?_)
    · refine W_s (s_icmp_ge_t dX12_buys_22 rfl h4) ?_
      refine W_s (s_aload_n dX12_buys_27 rfl rfl) ?_
      refine W_s (gf_RX12_44 rfl dX12_buys_28) ?_
      refine W_s (s_iload_n dX12_buys_31 rfl rfl) ?_
      refine W_s (s_dup2 dX12_buys_32 rfl rfl) ?_
      refine W_s (s_iald dX12_buys_33 g_218 (gx_ixv h3)) ?_
      refine W_s (s_aload_n dX12_buys_34 rfl rfl) ?_
      refine W_s (gf_RX12_47 rfl dX12_buys_35) ?_
      refine W_s (s_iload_n dX12_buys_38 rfl rfl) ?_
      refine W_s (s_iald dX12_buys_39 g_219 (gx_ixv h1)) ?_
      refine W_s (s_isub dX12_buys_40) ?_
      refine W_s (s_iast dX12_buys_41 g_218 (gx_ixv h3)) ?_
      refine W_letM (fun μ5 => ?_)
      refine W_s (s_aload_n dX12_buys_42 rfl rfl) ?_
      refine W_s (gf_RX12_50 rfl dX12_buys_43) ?_
      refine W_s (s_iload_n dX12_buys_46 rfl rfl) ?_
      refine W_s (s_iald dX12_buys_47 g_220 (gx_ixv h1)) ?_
      refine W_s (s_iconst dX12_buys_48 kci_m1) ?_
      refine W_fun (fun J => ∀ (μ10 : gx_M), GoW E l Y_X12_buys 0 gx_eB 72 [some (.ref (E.2.2.1 + 206)), some (.int p1), some (.int p2)] [] μ10 (J μ10)) ?_ (fun J6 hJ6 => ?_)
      · intro μ10
        refine W_s (s_aload_n dX12_buys_72 rfl rfl) ?_
        refine W_s (gf_RX12_50 rfl dX12_buys_73) ?_
        refine W_s (s_iload_n dX12_buys_76 rfl rfl) ?_
        refine W_s (s_iload_n dX12_buys_77 rfl rfl) ?_
        refine W_s (s_iast dX12_buys_78 g_220 (gx_ixv h1)) ?_
        refine W_letM (fun μ11 => ?_)
        refine W_s (s_aload_n dX12_buys_79 rfl rfl) ?_
        refine W_s (gf_RX12_63 rfl dX12_buys_80) ?_
        refine W_s (s_iload_n dX12_buys_83 rfl rfl) ?_
        refine W_s (s_dup2 dX12_buys_84 rfl rfl) ?_
        refine W_s (s_iald dX12_buys_85 g_224 (gx_ixv h1)) ?_
        refine W_s (s_iconst dX12_buys_86 kci_1) ?_
        refine W_s (s_iadd dX12_buys_87) ?_
        refine W_s (s_iast dX12_buys_88 g_224 (gx_ixv h1)) ?_
        refine W_letM (fun μ12 => ?_)
        refine W_s (s_iconst dX12_buys_89 kci_1) ?_
        exact W_r (r := true) (f_int (ty := .boolean) (x := gx_bi true) dX12_buys_90 rfl (gx_bn true))
      · skip
        refine W_ite (fun h7 => ?_) (fun h7 => ?_)
        · refine W_s (s_icmp_eq_t dX12_buys_49 rfl h7) ?_
          exact W_wk (hJ6 μ5) (le_s rfl (le_s rfl (le_s rfl le_n)))
        · refine W_s (s_icmp_eq_f dX12_buys_49 rfl h7) ?_
          refine W_s (s_aload_n dX12_buys_52 rfl rfl) ?_
          refine W_s (gf_RX12_44 rfl dX12_buys_53) ?_
          refine W_s (s_aload_n dX12_buys_56 rfl rfl) ?_
          refine W_s (gf_RX12_50 rfl dX12_buys_57) ?_
          refine W_s (s_iload_n dX12_buys_60 rfl rfl) ?_
          refine W_s (s_iald dX12_buys_61 g_220 (gx_ixv h1)) ?_
          refine W_s (s_dup2 dX12_buys_62 rfl rfl) ?_
          refine W_ck (fun h8 => ?_)
          refine W_s (s_iald dX12_buys_63 g_218 (gx_ixv h8)) ?_
          refine W_s (s_aload_n dX12_buys_64 rfl rfl) ?_
          refine W_s (gf_RX12_47 rfl dX12_buys_65) ?_
          refine W_s (s_iload_n dX12_buys_68 rfl rfl) ?_
          refine W_s (s_iald dX12_buys_69 g_219 (gx_ixv h1)) ?_
          refine W_s (s_iadd dX12_buys_70) ?_
          refine W_s (s_iast dX12_buys_71 g_218 (gx_ixv h8)) ?_
          refine W_letM (fun μ9 => ?_)
          exact W_wk (hJ6 μ9) (le_s rfl (le_s rfl (le_s rfl le_n)))
    · refine W_s (s_icmp_ge_f dX12_buys_22 rfl h4) ?_
      refine W_s (s_iconst dX12_buys_25 kci_0) ?_
      exact W_r (r := false) (f_int (ty := .boolean) (x := gx_bi false) dX12_buys_26 rfl (gx_bn false))

def f_X12_steals (p1 : Int32) (p2 : Int32) (μ : gx_M) : Option (Bool × gx_M) := gx_ck (gx_ix p2 40 = true) (if (μ.1 220 p2.toNatClampNeg) = (-1) then some (false, μ) else if (μ.1 220 p2.toNatClampNeg) = p1 then some (false, μ) else gx_ck (gx_ix (μ.1 220 p2.toNatClampNeg) 4 = true) (gx_lt (gx_uI μ 223 (μ.1 220 p2.toNatClampNeg).toNatClampNeg ((μ.1 223 (μ.1 220 p2.toNatClampNeg).toNatClampNeg) + 1)) (fun (μ5 : gx_M) => gx_lt (gx_uI μ5 220 p2.toNatClampNeg p1) (fun (μ6 : gx_M) => gx_lt (gx_uI μ6 224 p2.toNatClampNeg ((μ6.1 224 p2.toNatClampNeg) + 1)) (fun (μ7 : gx_M) => some (true, μ7))))))
theorem ev_X12_steals {E : gx_E} {l : Launch} (p1 : Int32) (p2 : Int32) (μ : gx_M) {r : Bool} {μ' : gx_M} (hr : f_X12_steals p1 p2 μ = some (r, μ')) : gEv E l 0 Y_X12_steals [.ref (E.2.2.1 + 206), .int p1, .int p2] gx_G1 μ (gx_eB r) gx_G1 μ' := by
  refine W_ev (by decide) (Nat.le_of_ble_eq_true rfl) (em := gx_eB) (T := f_X12_steals p1 p2 μ) ?_ hr
  show GoW E l Y_X12_steals 0 gx_eB 0 (gx_el [.ref (E.2.2.1 + 206), .int p1, .int p2]) [] μ (f_X12_steals p1 p2 μ)
  unfold f_X12_steals
  refine W_s (s_aload_n dX12_steals_0 rfl rfl) ?_
  refine W_s (gf_RX12_50 rfl dX12_steals_1) ?_
  refine W_s (s_iload_n dX12_steals_4 rfl rfl) ?_
  refine W_ck (fun h1 => ?_)
  refine W_s (s_iald dX12_steals_5 g_220 (gx_ixv h1)) ?_
  refine W_s (s_iconst dX12_steals_6 kci_m1) ?_
  refine W_ite (fun h2 => ?_) (fun h2 => ?_)
  · refine W_s (s_icmp_eq_t dX12_steals_7 rfl h2) ?_
    refine W_s (s_iconst dX12_steals_20 kci_0) ?_
    exact W_r (r := false) (f_int (ty := .boolean) (x := gx_bi false) dX12_steals_21 rfl (gx_bn false))
  · refine W_s (s_icmp_eq_f dX12_steals_7 rfl h2) ?_
    refine W_s (s_aload_n dX12_steals_10 rfl rfl) ?_
    refine W_s (gf_RX12_50 rfl dX12_steals_11) ?_
    refine W_s (s_iload_n dX12_steals_14 rfl rfl) ?_
    refine W_s (s_iald dX12_steals_15 g_220 (gx_ixv h1)) ?_
    refine W_s (s_iload_n dX12_steals_16 rfl rfl) ?_
    refine W_ite (fun h3 => ?_) (fun h3 => ?_)
    · refine W_s (s_icmp_ne_f dX12_steals_17 rfl h3) ?_
      refine W_s (s_iconst dX12_steals_20 kci_0) ?_
      exact W_r (r := false) (f_int (ty := .boolean) (x := gx_bi false) dX12_steals_21 rfl (gx_bn false))
    · refine W_s (s_icmp_ne_t dX12_steals_17 rfl h3) ?_
      refine W_s (s_aload_n dX12_steals_22 rfl rfl) ?_
      refine W_s (gf_RX12_60 rfl dX12_steals_23) ?_
      refine W_s (s_aload_n dX12_steals_26 rfl rfl) ?_
      refine W_s (gf_RX12_50 rfl dX12_steals_27) ?_
      refine W_s (s_iload_n dX12_steals_30 rfl rfl) ?_
      refine W_s (s_iald dX12_steals_31 g_220 (gx_ixv h1)) ?_
      refine W_s (s_dup2 dX12_steals_32 rfl rfl) ?_
      refine W_ck (fun h4 => ?_)
      refine W_s (s_iald dX12_steals_33 g_223 (gx_ixv h4)) ?_
      refine W_s (s_iconst dX12_steals_34 kci_1) ?_
      refine W_s (s_iadd dX12_steals_35) ?_
      refine W_s (s_iast dX12_steals_36 g_223 (gx_ixv h4)) ?_
      refine W_letM (fun μ5 => ?_)
      refine W_s (s_aload_n dX12_steals_37 rfl rfl) ?_
      refine W_s (gf_RX12_50 rfl dX12_steals_38) ?_
      refine W_s (s_iload_n dX12_steals_41 rfl rfl) ?_
      refine W_s (s_iload_n dX12_steals_42 rfl rfl) ?_
      refine W_s (s_iast dX12_steals_43 g_220 (gx_ixv h1)) ?_
      refine W_letM (fun μ6 => ?_)
      refine W_s (s_aload_n dX12_steals_44 rfl rfl) ?_
      refine W_s (gf_RX12_63 rfl dX12_steals_45) ?_
      refine W_s (s_iload_n dX12_steals_48 rfl rfl) ?_
      refine W_s (s_dup2 dX12_steals_49 rfl rfl) ?_
      refine W_s (s_iald dX12_steals_50 g_224 (gx_ixv h1)) ?_
      refine W_s (s_iconst dX12_steals_51 kci_1) ?_
      refine W_s (s_iadd dX12_steals_52) ?_
      refine W_s (s_iast dX12_steals_53 g_224 (gx_ixv h1)) ?_
      refine W_letM (fun μ7 => ?_)
      refine W_s (s_iconst dX12_steals_54 kci_1) ?_
      exact W_r (r := true) (f_int (ty := .boolean) (x := gx_bi true) dX12_steals_55 rfl (gx_bn true))

def f_X12_sells (p1 : Int32) (p2 : Int32) (μ : gx_M) : Option (Bool × gx_M) := gx_ck (gx_ix p2 40 = true) (if (μ.1 220 p2.toNatClampNeg) = p1 then gx_lt (gx_uI μ 220 p2.toNatClampNeg (-1)) (fun (μ3 : gx_M) => gx_ck (gx_ix p1 4 = true) (gx_lt (gx_uI μ3 218 p1.toNatClampNeg ((μ3.1 218 p1.toNatClampNeg) + (μ3.1 219 p2.toNatClampNeg))) (fun (μ5 : gx_M) => gx_lt (gx_uI μ5 224 p2.toNatClampNeg ((μ5.1 224 p2.toNatClampNeg) + 1)) (fun (μ6 : gx_M) => some (true, μ6))))) else some (false, μ))
theorem ev_X12_sells {E : gx_E} {l : Launch} (p1 : Int32) (p2 : Int32) (μ : gx_M) {r : Bool} {μ' : gx_M} (hr : f_X12_sells p1 p2 μ = some (r, μ')) : gEv E l 0 Y_X12_sells [.ref (E.2.2.1 + 206), .int p1, .int p2] gx_G1 μ (gx_eB r) gx_G1 μ' := by
  refine W_ev (by decide) (Nat.le_of_ble_eq_true rfl) (em := gx_eB) (T := f_X12_sells p1 p2 μ) ?_ hr
  show GoW E l Y_X12_sells 0 gx_eB 0 (gx_el [.ref (E.2.2.1 + 206), .int p1, .int p2]) [] μ (f_X12_sells p1 p2 μ)
  unfold f_X12_sells
  refine W_s (s_aload_n dX12_sells_0 rfl rfl) ?_
  refine W_s (gf_RX12_50 rfl dX12_sells_1) ?_
  refine W_s (s_iload_n dX12_sells_4 rfl rfl) ?_
  refine W_ck (fun h1 => ?_)
  refine W_s (s_iald dX12_sells_5 g_220 (gx_ixv h1)) ?_
  refine W_s (s_iload_n dX12_sells_6 rfl rfl) ?_
  refine W_ite (fun h2 => ?_) (fun h2 => ?_)
  · refine W_s (s_icmp_eq_t dX12_sells_7 rfl h2) ?_
    refine W_s (s_aload_n dX12_sells_12 rfl rfl) ?_
    refine W_s (gf_RX12_50 rfl dX12_sells_13) ?_
    refine W_s (s_iload_n dX12_sells_16 rfl rfl) ?_
    refine W_s (s_iconst dX12_sells_17 kci_m1) ?_
    refine W_s (s_iast dX12_sells_18 g_220 (gx_ixv h1)) ?_
    refine W_letM (fun μ3 => ?_)
    refine W_s (s_aload_n dX12_sells_19 rfl rfl) ?_
    refine W_s (gf_RX12_44 rfl dX12_sells_20) ?_
    refine W_s (s_iload_n dX12_sells_23 rfl rfl) ?_
    refine W_s (s_dup2 dX12_sells_24 rfl rfl) ?_
    refine W_ck (fun h4 => ?_)
    refine W_s (s_iald dX12_sells_25 g_218 (gx_ixv h4)) ?_
    refine W_s (s_aload_n dX12_sells_26 rfl rfl) ?_
    refine W_s (gf_RX12_47 rfl dX12_sells_27) ?_
    refine W_s (s_iload_n dX12_sells_30 rfl rfl) ?_
    refine W_s (s_iald dX12_sells_31 g_219 (gx_ixv h1)) ?_
    refine W_s (s_iadd dX12_sells_32) ?_
    refine W_s (s_iast dX12_sells_33 g_218 (gx_ixv h4)) ?_
    refine W_letM (fun μ5 => ?_)
    refine W_s (s_aload_n dX12_sells_34 rfl rfl) ?_
    refine W_s (gf_RX12_63 rfl dX12_sells_35) ?_
    refine W_s (s_iload_n dX12_sells_38 rfl rfl) ?_
    refine W_s (s_dup2 dX12_sells_39 rfl rfl) ?_
    refine W_s (s_iald dX12_sells_40 g_224 (gx_ixv h1)) ?_
    refine W_s (s_iconst dX12_sells_41 kci_1) ?_
    refine W_s (s_iadd dX12_sells_42) ?_
    refine W_s (s_iast dX12_sells_43 g_224 (gx_ixv h1)) ?_
    refine W_letM (fun μ6 => ?_)
    refine W_s (s_iconst dX12_sells_44 kci_1) ?_
    exact W_r (r := true) (f_int (ty := .boolean) (x := gx_bi true) dX12_sells_45 rfl (gx_bn true))
  · refine W_s (s_icmp_eq_f dX12_sells_7 rfl h2) ?_
    refine W_s (s_iconst dX12_sells_10 kci_0) ?_
    exact W_r (r := false) (f_int (ty := .boolean) (x := gx_bi false) dX12_sells_11 rfl (gx_bn false))

def f_X12_thinks (p1 : Int32) (p2 : Int32) (μ : gx_M) : Option (Bool × gx_M) := gx_ck (gx_ix p2 40 = true) (if (μ.1 220 p2.toNatClampNeg) = p1 then gx_lt (gx_uI μ 221 p2.toNatClampNeg (gx_bi true)) (fun (μ3 : gx_M) => if (μ3.1 206 34) = (-1) then gx_lt (gx_uI μ3 206 34 p1) (fun (μ6 : gx_M) => some (true, μ6)) else gx_lt (gx_uI μ3 206 34 (μ3.1 206 34)) (fun (μ5 : gx_M) => some (true, μ5))) else some (false, μ))
theorem ev_X12_thinks {E : gx_E} {l : Launch} (p1 : Int32) (p2 : Int32) (μ : gx_M) {r : Bool} {μ' : gx_M} (hr : f_X12_thinks p1 p2 μ = some (r, μ')) : gEv E l 0 Y_X12_thinks [.ref (E.2.2.1 + 206), .int p1, .int p2] gx_G1 μ (gx_eB r) gx_G1 μ' := by
  refine W_ev (by decide) (Nat.le_of_ble_eq_true rfl) (em := gx_eB) (T := f_X12_thinks p1 p2 μ) ?_ hr
  show GoW E l Y_X12_thinks 0 gx_eB 0 (gx_el [.ref (E.2.2.1 + 206), .int p1, .int p2]) [] μ (f_X12_thinks p1 p2 μ)
  unfold f_X12_thinks
  refine W_s (s_aload_n dX12_thinks_0 rfl rfl) ?_
  refine W_s (gf_RX12_50 rfl dX12_thinks_1) ?_
  refine W_s (s_iload_n dX12_thinks_4 rfl rfl) ?_
  refine W_ck (fun h1 => ?_)
  refine W_s (s_iald dX12_thinks_5 g_220 (gx_ixv h1)) ?_
  refine W_s (s_iload_n dX12_thinks_6 rfl rfl) ?_
  refine W_ite (fun h2 => ?_) (fun h2 => ?_)
  · refine W_s (s_icmp_eq_t dX12_thinks_7 rfl h2) ?_
    refine W_s (s_aload_n dX12_thinks_12 rfl rfl) ?_
    refine W_s (gf_RX12_53 rfl dX12_thinks_13) ?_
    refine W_s (s_iload_n dX12_thinks_16 rfl rfl) ?_
    refine W_s (s_iconst dX12_thinks_17 kci_1) ?_
    refine W_s (s_zastB (b := true) dX12_thinks_18 g_221 (gx_ixv h1)) ?_
    refine W_letM (fun μ3 => ?_)
    refine W_s (s_aload_n dX12_thinks_19 rfl rfl) ?_
    refine W_s (s_aload_n dX12_thinks_20 rfl rfl) ?_
    refine W_s (gf_RX12_313 rfl dX12_thinks_21) ?_
    refine W_s (s_iconst dX12_thinks_24 kci_m1) ?_
    refine W_ite (fun h4 => ?_) (fun h4 => ?_)
    · refine W_s (s_icmp_ne_f dX12_thinks_25 rfl h4) ?_
      refine W_s (s_iload_n dX12_thinks_28 rfl rfl) ?_
      refine W_s (s_goto dX12_thinks_29 rfl) ?_
      refine W_s (pf_RX12_313 rfl dX12_thinks_36) ?_
      refine W_letM (fun μ6 => ?_)
      refine W_s (s_iconst dX12_thinks_39 kci_1) ?_
      exact W_r (r := true) (f_int (ty := .boolean) (x := gx_bi true) dX12_thinks_40 rfl (gx_bn true))
    · refine W_s (s_icmp_ne_t dX12_thinks_25 rfl h4) ?_
      refine W_s (s_aload_n dX12_thinks_32 rfl rfl) ?_
      refine W_s (gf_RX12_313 rfl dX12_thinks_33) ?_
      refine W_s (pf_RX12_313 rfl dX12_thinks_36) ?_
      refine W_letM (fun μ5 => ?_)
      refine W_s (s_iconst dX12_thinks_39 kci_1) ?_
      exact W_r (r := true) (f_int (ty := .boolean) (x := gx_bi true) dX12_thinks_40 rfl (gx_bn true))
  · refine W_s (s_icmp_eq_f dX12_thinks_7 rfl h2) ?_
    refine W_s (s_iconst dX12_thinks_10 kci_0) ?_
    exact W_r (r := false) (f_int (ty := .boolean) (x := gx_bi false) dX12_thinks_11 rfl (gx_bn false))

def L_X12_minutesOf_4 (μ : gx_M) (p1 : Int32) (k3 : Int32 → Option Int32) : Nat → Int32 → Int32 → Option Int32
  | 0, _, _ => none
  | n + 1, v2_1, v3_2 => if (μ.1 206 25) ≤ v3_2 then k3 v2_1 else gx_ck (gx_ix v3_2 40 = true) (gx_lt (fun (j0_8 : Bool) => gx_lt (v2_1 + (gx_bi j0_8)) (fun (x9 : Int32) => L_X12_minutesOf_4 μ p1 k3 n x9 (v3_2 + 1))) (fun J6 => if (μ.1 220 v3_2.toNatClampNeg) = p1 then J6 true else J6 false))
def f_X12_minutesOf (p1 : Int32) (μ : gx_M) : Option Int32 := L_X12_minutesOf_4 μ p1 (fun (x2_11 : Int32) => some x2_11) 4000 0 0
theorem okL_X12_minutesOf_4 {E : gx_E} {l : Launch} {μ : gx_M} {p1 : Int32} {k3 : Int32 → Option Int32} (hk : ∀ (w10 : Int32), GoR E l Y_X12_minutesOf 0 gx_eI 36 [none, none, some (.int w10)] [] μ (k3 w10)) : ∀ (n : Nat) (v2_1 : Int32) (v3_2 : Int32), GoR E l Y_X12_minutesOf 0 gx_eI 4 [some (.ref (E.2.2.1 + 206)), some (.int p1), some (.int v2_1), some (.int v3_2)] [] μ (L_X12_minutesOf_4 μ p1 k3 n v2_1 v3_2) := by
  intro n
  induction n with
  | zero => intros; exact R_no
  | succ n ih =>
    intro v2_1 v3_2
    rw [L_X12_minutesOf_4.eq_2]
    refine R_s (s_iload_n dX12_minutesOf_4 rfl rfl) ?_
    refine R_s (s_aload_n dX12_minutesOf_5 rfl rfl) ?_
    refine R_s (gf_RX12_283 rfl dX12_minutesOf_6) ?_
    refine R_ite (fun h4 => ?_) (fun h4 => ?_)
    · refine R_s (s_icmp_ge_t dX12_minutesOf_9 rfl h4) ?_
      exact R_wk (hk v2_1) (le_o (le_o (le_s rfl le_n)))
    · refine R_s (s_icmp_ge_f dX12_minutesOf_9 rfl h4) ?_
      refine R_s (s_iload_n dX12_minutesOf_12 rfl rfl) ?_
      refine R_s (s_aload_n dX12_minutesOf_13 rfl rfl) ?_
      refine R_s (gf_RX12_50 rfl dX12_minutesOf_14) ?_
      refine R_s (s_iload_n dX12_minutesOf_17 rfl rfl) ?_
      refine R_ck (fun h5 => ?_)
      refine R_s (s_iald dX12_minutesOf_18 g_220 (gx_ixv h5)) ?_
      refine R_s (s_iload_n dX12_minutesOf_19 rfl rfl) ?_
      refine R_fun (fun J => ∀ (j0_8 : Bool), GoR E l Y_X12_minutesOf 0 gx_eI 28 [some (.ref (E.2.2.1 + 206)), some (.int p1), none, some (.int v3_2)] [.int (gx_bi j0_8), .int v2_1] μ (J j0_8)) ?_ (fun J6 hJ6 => ?_)
      · intro j0_8
        refine R_s (s_iadd dX12_minutesOf_28) ?_
        refine R_letI (fun x9 => ?_)
        refine R_s (s_istore_n dX12_minutesOf_29 rfl (Nat.le_of_ble_eq_true rfl)) ?_
        refine R_s (s_iinc dX12_minutesOf_30 rfl (kinc_1 v3_2) (Nat.le_of_ble_eq_true rfl)) ?_
        refine R_s (s_goto dX12_minutesOf_33 rfl) ?_
        exact R_wk (ih x9 (v3_2 + 1)) (le_s rfl (le_s rfl (le_s rfl (le_s rfl le_n))))
      · skip
        refine R_ite (fun h7 => ?_) (fun h7 => ?_)
        · refine R_s (s_icmp_ne_f dX12_minutesOf_20 rfl h7) ?_
          refine R_s (s_iconst dX12_minutesOf_23 kci_1) ?_
          refine R_s (s_goto dX12_minutesOf_24 rfl) ?_
          exact R_wk (hJ6 true) (le_s rfl (le_s rfl (le_o (le_s rfl le_n))))
        · refine R_s (s_icmp_ne_t dX12_minutesOf_20 rfl h7) ?_
          refine R_s (s_iconst dX12_minutesOf_27 kci_0) ?_
          exact R_wk (hJ6 false) (le_s rfl (le_s rfl (le_o (le_s rfl le_n))))
theorem ev_X12_minutesOf {E : gx_E} {l : Launch} (p1 : Int32) (μ : gx_M) {r : Int32} (hr : f_X12_minutesOf p1 μ = some r) : gEv E l 0 Y_X12_minutesOf [.ref (E.2.2.1 + 206), .int p1] gx_G1 μ (gx_eI r) gx_G1 μ := by
  refine R_ev (by decide) (Nat.le_of_ble_eq_true rfl) (em := gx_eI) (T := f_X12_minutesOf p1 μ) ?_ hr
  show GoR E l Y_X12_minutesOf 0 gx_eI 0 (gx_el [.ref (E.2.2.1 + 206), .int p1]) [] μ (f_X12_minutesOf p1 μ)
  unfold f_X12_minutesOf
  refine R_s (s_iconst dX12_minutesOf_0 kci_0) ?_
  refine R_s (s_istore_n dX12_minutesOf_1 rfl (Nat.le_of_ble_eq_true rfl)) ?_
  refine R_s (s_iconst dX12_minutesOf_2 kci_0) ?_
  refine R_s (s_istore_n dX12_minutesOf_3 rfl (Nat.le_of_ble_eq_true rfl)) ?_
  refine R_wk (okL_X12_minutesOf_4 ?_ 4000 0 0) (le_s rfl (le_s rfl (le_s rfl (le_s rfl le_n))))
  intro x2_11
  refine R_s (s_iload_n dX12_minutesOf_36 rfl rfl) ?_
  exact R_r (r := x2_11) (f_int (ty := .int) dX12_minutesOf_37 rfl rfl)

def L_X12_ofAll_4 (μ : gx_M) (p1 : Int32) (k3 : Int32 → Option Int32) : Nat → Int32 → Int32 → Option Int32
  | 0, _, _ => none
  | n + 1, v2_1, v3_2 => if (μ.1 206 25) ≤ v3_2 then k3 v2_1 else if p1 = 0 then gx_ck (gx_ix v3_2 40 = true) (gx_lt (fun (j0_9 : Bool) => gx_lt (v2_1 + (gx_bi j0_9)) (fun (x10 : Int32) => L_X12_ofAll_4 μ p1 k3 n x10 (v3_2 + 1))) (fun J7 => if (μ.1 221 v3_2.toNatClampNeg) = 0 then J7 false else J7 true)) else k3 v2_1
def L_X12_ofAll_41 (μ : gx_M) (p1 : Int32) (k15 : Int32 → Option Int32) : Nat → Int32 → Int32 → Option Int32
  | 0, _, _ => none
  | n + 1, v2_13, v3_14 => if (μ.1 206 27) ≤ v3_14 then k15 v2_13 else if p1 = 1 then gx_ck (gx_ix v3_14 6 = true) (gx_lt (fun (j0_21 : Bool) => gx_lt (v2_13 + (gx_bi j0_21)) (fun (x22 : Int32) => L_X12_ofAll_41 μ p1 k15 n x22 (v3_14 + 1))) (fun J19 => if (μ.1 222 v3_14.toNatClampNeg) = (-1) then J19 false else J19 true)) else k15 v2_13
def L_X12_ofAll_80 (μ : gx_M) (p1 : Int32) (k27 : Int32 → Option Int32) : Nat → Int32 → Int32 → Option Int32
  | 0, _, _ => none
  | n + 1, v2_25, v3_26 => if (μ.1 206 26) ≤ v3_26 then k27 v2_25 else if p1 = 2 then gx_ck (gx_ix v3_26 4 = true) (gx_lt (v2_25 + (μ.1 218 v3_26.toNatClampNeg)) (fun (x31 : Int32) => L_X12_ofAll_80 μ p1 k27 n x31 (v3_26 + 1))) else k27 v2_25
def f_X12_ofAll (p1 : Int32) (μ : gx_M) : Option Int32 := L_X12_ofAll_4 μ p1 (fun (x2_12 : Int32) => L_X12_ofAll_41 μ p1 (fun (x2_24 : Int32) => L_X12_ofAll_80 μ p1 (fun (x2_33 : Int32) => some x2_33) 4000 x2_24 0) 4000 x2_12 0) 4000 0 0
theorem okL_X12_ofAll_4 {E : gx_E} {l : Launch} {μ : gx_M} {p1 : Int32} {k3 : Int32 → Option Int32} (hk : ∀ (w11 : Int32), GoR E l Y_X12_ofAll 0 gx_eI 39 [some (.ref (E.2.2.1 + 206)), some (.int p1), some (.int w11)] [] μ (k3 w11)) : ∀ (n : Nat) (v2_1 : Int32) (v3_2 : Int32), GoR E l Y_X12_ofAll 0 gx_eI 4 [some (.ref (E.2.2.1 + 206)), some (.int p1), some (.int v2_1), some (.int v3_2)] [] μ (L_X12_ofAll_4 μ p1 k3 n v2_1 v3_2) := by
  intro n
  induction n with
  | zero => intros; exact R_no
  | succ n ih =>
    intro v2_1 v3_2
    rw [L_X12_ofAll_4.eq_2]
    refine R_s (s_iload_n dX12_ofAll_4 rfl rfl) ?_
    refine R_s (s_aload_n dX12_ofAll_5 rfl rfl) ?_
    refine R_s (gf_RX12_283 rfl dX12_ofAll_6) ?_
    refine R_ite (fun h4 => ?_) (fun h4 => ?_)
    · refine R_s (s_icmp_ge_t dX12_ofAll_9 rfl h4) ?_
      exact R_wk (hk v2_1) (le_s rfl (le_s rfl (le_s rfl le_n)))
    · refine R_s (s_icmp_ge_f dX12_ofAll_9 rfl h4) ?_
      refine R_s (s_iload_n dX12_ofAll_12 rfl rfl) ?_
      refine R_ite (fun h5 => ?_) (fun h5 => ?_)
      · refine R_s (s_if_ne_f dX12_ofAll_13 rfl h5) ?_
        refine R_s (s_iload_n dX12_ofAll_16 rfl rfl) ?_
        refine R_s (s_aload_n dX12_ofAll_17 rfl rfl) ?_
        refine R_s (gf_RX12_53 rfl dX12_ofAll_18) ?_
        refine R_s (s_iload_n dX12_ofAll_21 rfl rfl) ?_
        refine R_ck (fun h6 => ?_)
        refine R_s (s_zald dX12_ofAll_22 g_221 (gx_ixv h6)) ?_
        refine R_fun (fun J => ∀ (j0_9 : Bool), GoR E l Y_X12_ofAll 0 gx_eI 31 [some (.ref (E.2.2.1 + 206)), some (.int p1), none, some (.int v3_2)] [.int (gx_bi j0_9), .int v2_1] μ (J j0_9)) ?_ (fun J7 hJ7 => ?_)
        · intro j0_9
          refine R_s (s_iadd dX12_ofAll_31) ?_
          refine R_letI (fun x10 => ?_)
          refine R_s (s_istore_n dX12_ofAll_32 rfl (Nat.le_of_ble_eq_true rfl)) ?_
          refine R_s (s_iinc dX12_ofAll_33 rfl (kinc_1 v3_2) (Nat.le_of_ble_eq_true rfl)) ?_
          refine R_s (s_goto dX12_ofAll_36 rfl) ?_
          exact R_wk (ih x10 (v3_2 + 1)) (le_s rfl (le_s rfl (le_s rfl (le_s rfl le_n))))
        · skip
          refine R_ite (fun h8 => ?_) (fun h8 => ?_)
          · refine R_s (s_if_eq_t dX12_ofAll_23 rfl h8) ?_
            refine R_s (s_iconst dX12_ofAll_30 kci_0) ?_
            exact R_wk (hJ7 false) (le_s rfl (le_s rfl (le_o (le_s rfl le_n))))
          · refine R_s (s_if_eq_f dX12_ofAll_23 rfl h8) ?_
            refine R_s (s_iconst dX12_ofAll_26 kci_1) ?_
            refine R_s (s_goto dX12_ofAll_27 rfl) ?_
            exact R_wk (hJ7 true) (le_s rfl (le_s rfl (le_o (le_s rfl le_n))))
      · refine R_s (s_if_ne_t dX12_ofAll_13 rfl h5) ?_
        exact R_wk (hk v2_1) (le_s rfl (le_s rfl (le_s rfl le_n)))
theorem okL_X12_ofAll_41 {E : gx_E} {l : Launch} {μ : gx_M} {p1 : Int32} {k15 : Int32 → Option Int32} (hk : ∀ (w23 : Int32), GoR E l Y_X12_ofAll 0 gx_eI 78 [some (.ref (E.2.2.1 + 206)), some (.int p1), some (.int w23)] [] μ (k15 w23)) : ∀ (n : Nat) (v2_13 : Int32) (v3_14 : Int32), GoR E l Y_X12_ofAll 0 gx_eI 41 [some (.ref (E.2.2.1 + 206)), some (.int p1), some (.int v2_13), some (.int v3_14)] [] μ (L_X12_ofAll_41 μ p1 k15 n v2_13 v3_14) := by
  intro n
  induction n with
  | zero => intros; exact R_no
  | succ n ih =>
    intro v2_13 v3_14
    rw [L_X12_ofAll_41.eq_2]
    refine R_s (s_iload_n dX12_ofAll_41 rfl rfl) ?_
    refine R_s (s_aload_n dX12_ofAll_42 rfl rfl) ?_
    refine R_s (gf_RX12_289 rfl dX12_ofAll_43) ?_
    refine R_ite (fun h16 => ?_) (fun h16 => ?_)
    · refine R_s (s_icmp_ge_t dX12_ofAll_46 rfl h16) ?_
      exact R_wk (hk v2_13) (le_s rfl (le_s rfl (le_s rfl le_n)))
    · refine R_s (s_icmp_ge_f dX12_ofAll_46 rfl h16) ?_
      refine R_s (s_iload_n dX12_ofAll_49 rfl rfl) ?_
      refine R_s (s_iconst dX12_ofAll_50 kci_1) ?_
      refine R_ite (fun h17 => ?_) (fun h17 => ?_)
      · refine R_s (s_icmp_ne_f dX12_ofAll_51 rfl h17) ?_
        refine R_s (s_iload_n dX12_ofAll_54 rfl rfl) ?_
        refine R_s (s_aload_n dX12_ofAll_55 rfl rfl) ?_
        refine R_s (gf_RX12_57 rfl dX12_ofAll_56) ?_
        refine R_s (s_iload_n dX12_ofAll_59 rfl rfl) ?_
        refine R_ck (fun h18 => ?_)
        refine R_s (s_iald dX12_ofAll_60 g_222 (gx_ixv h18)) ?_
        refine R_s (s_iconst dX12_ofAll_61 kci_m1) ?_
        refine R_fun (fun J => ∀ (j0_21 : Bool), GoR E l Y_X12_ofAll 0 gx_eI 70 [some (.ref (E.2.2.1 + 206)), some (.int p1), none, some (.int v3_14)] [.int (gx_bi j0_21), .int v2_13] μ (J j0_21)) ?_ (fun J19 hJ19 => ?_)
        · intro j0_21
          refine R_s (s_iadd dX12_ofAll_70) ?_
          refine R_letI (fun x22 => ?_)
          refine R_s (s_istore_n dX12_ofAll_71 rfl (Nat.le_of_ble_eq_true rfl)) ?_
          refine R_s (s_iinc dX12_ofAll_72 rfl (kinc_1 v3_14) (Nat.le_of_ble_eq_true rfl)) ?_
          refine R_s (s_goto dX12_ofAll_75 rfl) ?_
          exact R_wk (ih x22 (v3_14 + 1)) (le_s rfl (le_s rfl (le_s rfl (le_s rfl le_n))))
        · skip
          refine R_ite (fun h20 => ?_) (fun h20 => ?_)
          · refine R_s (s_icmp_eq_t dX12_ofAll_62 rfl h20) ?_
            refine R_s (s_iconst dX12_ofAll_69 kci_0) ?_
            exact R_wk (hJ19 false) (le_s rfl (le_s rfl (le_o (le_s rfl le_n))))
          · refine R_s (s_icmp_eq_f dX12_ofAll_62 rfl h20) ?_
            refine R_s (s_iconst dX12_ofAll_65 kci_1) ?_
            refine R_s (s_goto dX12_ofAll_66 rfl) ?_
            exact R_wk (hJ19 true) (le_s rfl (le_s rfl (le_o (le_s rfl le_n))))
      · refine R_s (s_icmp_ne_t dX12_ofAll_51 rfl h17) ?_
        exact R_wk (hk v2_13) (le_s rfl (le_s rfl (le_s rfl le_n)))
theorem okL_X12_ofAll_80 {E : gx_E} {l : Launch} {μ : gx_M} {p1 : Int32} {k27 : Int32 → Option Int32} (hk : ∀ (w32 : Int32), GoR E l Y_X12_ofAll 0 gx_eI 108 [none, none, some (.int w32)] [] μ (k27 w32)) : ∀ (n : Nat) (v2_25 : Int32) (v3_26 : Int32), GoR E l Y_X12_ofAll 0 gx_eI 80 [some (.ref (E.2.2.1 + 206)), some (.int p1), some (.int v2_25), some (.int v3_26)] [] μ (L_X12_ofAll_80 μ p1 k27 n v2_25 v3_26) := by
  intro n
  induction n with
  | zero => intros; exact R_no
  | succ n ih =>
    intro v2_25 v3_26
    rw [L_X12_ofAll_80.eq_2]
    refine R_s (s_iload_n dX12_ofAll_80 rfl rfl) ?_
    refine R_s (s_aload_n dX12_ofAll_81 rfl rfl) ?_
    refine R_s (gf_RX12_286 rfl dX12_ofAll_82) ?_
    refine R_ite (fun h28 => ?_) (fun h28 => ?_)
    · refine R_s (s_icmp_ge_t dX12_ofAll_85 rfl h28) ?_
      exact R_wk (hk v2_25) (le_o (le_o (le_s rfl le_n)))
    · refine R_s (s_icmp_ge_f dX12_ofAll_85 rfl h28) ?_
      refine R_s (s_iload_n dX12_ofAll_88 rfl rfl) ?_
      refine R_s (s_iconst dX12_ofAll_89 kci_2) ?_
      refine R_ite (fun h29 => ?_) (fun h29 => ?_)
      · refine R_s (s_icmp_ne_f dX12_ofAll_90 rfl h29) ?_
        refine R_s (s_iload_n dX12_ofAll_93 rfl rfl) ?_
        refine R_s (s_aload_n dX12_ofAll_94 rfl rfl) ?_
        refine R_s (gf_RX12_44 rfl dX12_ofAll_95) ?_
        refine R_s (s_iload_n dX12_ofAll_98 rfl rfl) ?_
        refine R_ck (fun h30 => ?_)
        refine R_s (s_iald dX12_ofAll_99 g_218 (gx_ixv h30)) ?_
        refine R_s (s_iadd dX12_ofAll_100) ?_
        refine R_letI (fun x31 => ?_)
        refine R_s (s_istore_n dX12_ofAll_101 rfl (Nat.le_of_ble_eq_true rfl)) ?_
        refine R_s (s_iinc dX12_ofAll_102 rfl (kinc_1 v3_26) (Nat.le_of_ble_eq_true rfl)) ?_
        refine R_s (s_goto dX12_ofAll_105 rfl) ?_
        exact R_wk (ih x31 (v3_26 + 1)) (le_s rfl (le_s rfl (le_s rfl (le_s rfl le_n))))
      · refine R_s (s_icmp_ne_t dX12_ofAll_90 rfl h29) ?_
        exact R_wk (hk v2_25) (le_o (le_o (le_s rfl le_n)))
theorem ev_X12_ofAll {E : gx_E} {l : Launch} (p1 : Int32) (μ : gx_M) {r : Int32} (hr : f_X12_ofAll p1 μ = some r) : gEv E l 0 Y_X12_ofAll [.ref (E.2.2.1 + 206), .int p1] gx_G1 μ (gx_eI r) gx_G1 μ := by
  refine R_ev (by decide) (Nat.le_of_ble_eq_true rfl) (em := gx_eI) (T := f_X12_ofAll p1 μ) ?_ hr
  show GoR E l Y_X12_ofAll 0 gx_eI 0 (gx_el [.ref (E.2.2.1 + 206), .int p1]) [] μ (f_X12_ofAll p1 μ)
  unfold f_X12_ofAll
  refine R_s (s_iconst dX12_ofAll_0 kci_0) ?_
  refine R_s (s_istore_n dX12_ofAll_1 rfl (Nat.le_of_ble_eq_true rfl)) ?_
  refine R_s (s_iconst dX12_ofAll_2 kci_0) ?_
  refine R_s (s_istore_n dX12_ofAll_3 rfl (Nat.le_of_ble_eq_true rfl)) ?_
  refine R_wk (okL_X12_ofAll_4 ?_ 4000 0 0) (le_s rfl (le_s rfl (le_s rfl (le_s rfl le_n))))
  intro x2_12
  refine R_s (s_iconst dX12_ofAll_39 kci_0) ?_
  refine R_s (s_istore_n dX12_ofAll_40 rfl (Nat.le_of_ble_eq_true rfl)) ?_
  refine R_wk (okL_X12_ofAll_41 ?_ 4000 x2_12 0) (le_s rfl (le_s rfl (le_s rfl (le_s rfl le_n))))
  intro x2_24
  refine R_s (s_iconst dX12_ofAll_78 kci_0) ?_
  refine R_s (s_istore_n dX12_ofAll_79 rfl (Nat.le_of_ble_eq_true rfl)) ?_
  refine R_wk (okL_X12_ofAll_80 ?_ 4000 x2_24 0) (le_s rfl (le_s rfl (le_s rfl (le_s rfl le_n))))
  intro x2_33
  refine R_s (s_iload_n dX12_ofAll_108 rfl rfl) ?_
  exact R_r (r := x2_33) (f_int (ty := .int) dX12_ofAll_109 rfl rfl)

def f_X12_cost (p1 : Int32) (p2 : Int32) (μ : gx_M) : Option Int32 := gx_ck (gx_ix p2 40 = true) (if (μ.1 220 p2.toNatClampNeg) = p1 then some 0 else some (μ.1 219 p2.toNatClampNeg))
theorem ev_X12_cost {E : gx_E} {l : Launch} (p1 : Int32) (p2 : Int32) (μ : gx_M) {r : Int32} (hr : f_X12_cost p1 p2 μ = some r) : gEv E l 0 Y_X12_cost [.ref (E.2.2.1 + 206), .int p1, .int p2] gx_G1 μ (gx_eI r) gx_G1 μ := by
  refine R_ev (by decide) (Nat.le_of_ble_eq_true rfl) (em := gx_eI) (T := f_X12_cost p1 p2 μ) ?_ hr
  show GoR E l Y_X12_cost 0 gx_eI 0 (gx_el [.ref (E.2.2.1 + 206), .int p1, .int p2]) [] μ (f_X12_cost p1 p2 μ)
  unfold f_X12_cost
  refine R_s (s_aload_n dX12_cost_0 rfl rfl) ?_
  refine R_s (gf_RX12_50 rfl dX12_cost_1) ?_
  refine R_s (s_iload_n dX12_cost_4 rfl rfl) ?_
  refine R_ck (fun h1 => ?_)
  refine R_s (s_iald dX12_cost_5 g_220 (gx_ixv h1)) ?_
  refine R_s (s_iload_n dX12_cost_6 rfl rfl) ?_
  refine R_ite (fun h2 => ?_) (fun h2 => ?_)
  · refine R_s (s_icmp_ne_f dX12_cost_7 rfl h2) ?_
    refine R_s (s_iconst dX12_cost_10 kci_0) ?_
    refine R_s (s_goto dX12_cost_11 rfl) ?_
    exact R_r (r := 0) (f_int (ty := .int) dX12_cost_20 rfl rfl)
  · refine R_s (s_icmp_ne_t dX12_cost_7 rfl h2) ?_
    refine R_s (s_aload_n dX12_cost_14 rfl rfl) ?_
    refine R_s (gf_RX12_47 rfl dX12_cost_15) ?_
    refine R_s (s_iload_n dX12_cost_18 rfl rfl) ?_
    refine R_s (s_iald dX12_cost_19 g_219 (gx_ixv h1)) ?_
    exact R_r (r := (μ.1 219 p2.toNatClampNeg)) (f_int (ty := .int) dX12_cost_20 rfl rfl)

def L_X12_leadBy_5 (p2 : Int32) (p1 : Int32) (μ : gx_M) (k3 : Int32 → Option Int32) : Nat → Int32 → Int32 → Option Int32
  | 0, _, _ => none
  | n + 1, v3_1, v4_2 => if p2 ≤ v4_2 then k3 v3_1 else gx_ck (gx_ix (p1 + v4_2) 40 = true) (gx_lt (v3_1 + (μ.1 219 (p1 + v4_2).toNatClampNeg)) (fun (x6 : Int32) => L_X12_leadBy_5 p2 p1 μ k3 n x6 (v4_2 + 1)))
def f_X12_leadBy (p1 : Int32) (p2 : Int32) (μ : gx_M) : Option Int32 := L_X12_leadBy_5 p2 p1 μ (fun (x3_8 : Int32) => gx_ck (gx_ix (p1 + p2) 41 = true) (some (x3_8 - (μ.1 228 (p1 + p2).toNatClampNeg)))) 4000 0 0
theorem okL_X12_leadBy_5 {E : gx_E} {l : Launch} {p2 : Int32} {p1 : Int32} {μ : gx_M} {k3 : Int32 → Option Int32} (hk : ∀ (w7 : Int32), GoR E l Y_X12_leadBy 0 gx_eI 29 [some (.ref (E.2.2.1 + 206)), some (.int p1), some (.int p2), some (.int w7)] [] μ (k3 w7)) : ∀ (n : Nat) (v3_1 : Int32) (v4_2 : Int32), GoR E l Y_X12_leadBy 0 gx_eI 5 [some (.ref (E.2.2.1 + 206)), some (.int p1), some (.int p2), some (.int v3_1), some (.int v4_2)] [] μ (L_X12_leadBy_5 p2 p1 μ k3 n v3_1 v4_2) := by
  intro n
  induction n with
  | zero => intros; exact R_no
  | succ n ih =>
    intro v3_1 v4_2
    rw [L_X12_leadBy_5.eq_2]
    refine R_s (s_iload dX12_leadBy_5 rfl) ?_
    refine R_s (s_iload_n dX12_leadBy_7 rfl rfl) ?_
    refine R_ite (fun h4 => ?_) (fun h4 => ?_)
    · refine R_s (s_icmp_ge_t dX12_leadBy_8 rfl h4) ?_
      exact R_wk (hk v3_1) (le_s rfl (le_s rfl (le_s rfl (le_s rfl le_n))))
    · refine R_s (s_icmp_ge_f dX12_leadBy_8 rfl h4) ?_
      refine R_s (s_iload_n dX12_leadBy_11 rfl rfl) ?_
      refine R_s (s_aload_n dX12_leadBy_12 rfl rfl) ?_
      refine R_s (gf_RX12_47 rfl dX12_leadBy_13) ?_
      refine R_s (s_iload_n dX12_leadBy_16 rfl rfl) ?_
      refine R_s (s_iload dX12_leadBy_17 rfl) ?_
      refine R_s (s_iadd dX12_leadBy_19) ?_
      refine R_ck (fun h5 => ?_)
      refine R_s (s_iald dX12_leadBy_20 g_219 (gx_ixv h5)) ?_
      refine R_s (s_iadd dX12_leadBy_21) ?_
      refine R_letI (fun x6 => ?_)
      refine R_s (s_istore_n dX12_leadBy_22 rfl (Nat.le_of_ble_eq_true rfl)) ?_
      refine R_s (s_iinc dX12_leadBy_23 rfl (kinc_1 v4_2) (Nat.le_of_ble_eq_true rfl)) ?_
      refine R_s (s_goto dX12_leadBy_26 rfl) ?_
      exact R_wk (ih x6 (v4_2 + 1)) (le_s rfl (le_s rfl (le_s rfl (le_s rfl (le_s rfl le_n)))))
theorem ev_X12_leadBy {E : gx_E} {l : Launch} (p1 : Int32) (p2 : Int32) (μ : gx_M) {r : Int32} (hr : f_X12_leadBy p1 p2 μ = some r) : gEv E l 0 Y_X12_leadBy [.ref (E.2.2.1 + 206), .int p1, .int p2] gx_G1 μ (gx_eI r) gx_G1 μ := by
  refine R_ev (by decide) (Nat.le_of_ble_eq_true rfl) (em := gx_eI) (T := f_X12_leadBy p1 p2 μ) ?_ hr
  show GoR E l Y_X12_leadBy 0 gx_eI 0 (gx_el [.ref (E.2.2.1 + 206), .int p1, .int p2]) [] μ (f_X12_leadBy p1 p2 μ)
  unfold f_X12_leadBy
  refine R_s (s_iconst dX12_leadBy_0 kci_0) ?_
  refine R_s (s_istore_n dX12_leadBy_1 rfl (Nat.le_of_ble_eq_true rfl)) ?_
  refine R_s (s_iconst dX12_leadBy_2 kci_0) ?_
  refine R_s (s_istore dX12_leadBy_3 (Nat.le_of_ble_eq_true rfl)) ?_
  refine R_wk (okL_X12_leadBy_5 ?_ 4000 0 0) (le_s rfl (le_s rfl (le_s rfl (le_s rfl (le_s rfl le_n)))))
  intro x3_8
  refine R_s (s_iload_n dX12_leadBy_29 rfl rfl) ?_
  refine R_s (s_aload_n dX12_leadBy_30 rfl rfl) ?_
  refine R_s (gf_RX12_75 rfl dX12_leadBy_31) ?_
  refine R_s (s_iload_n dX12_leadBy_34 rfl rfl) ?_
  refine R_s (s_iload_n dX12_leadBy_35 rfl rfl) ?_
  refine R_s (s_iadd dX12_leadBy_36) ?_
  refine R_ck (fun h9 => ?_)
  refine R_s (s_iald dX12_leadBy_37 g_228 (gx_ixv h9)) ?_
  refine R_s (s_isub dX12_leadBy_38) ?_
  exact R_r (r := (x3_8 - (μ.1 228 (p1 + p2).toNatClampNeg))) (f_int (ty := .int) dX12_leadBy_39 rfl rfl)

def L_X12_handsOf_5 (μ : gx_M) (p1 : Int32) (k3 : Int64 → Option Int64) : Nat → Int64 → Int32 → Option Int64
  | 0, _, _ => none
  | n + 1, v2_1, v4_2 => if (μ.1 206 25) ≤ v4_2 then k3 v2_1 else gx_ck (gx_ix v4_2 40 = true) (gx_lt (fun (j0_8 : Int64) => gx_lt (v2_1 ||| j0_8) (fun (x9 : Int64) => L_X12_handsOf_5 μ p1 k3 n x9 (v4_2 + 1))) (fun J6 => if (μ.1 220 v4_2.toNatClampNeg) = p1 then J6 (1 <<< ((v4_2 : Int32).toInt64 &&& 63)) else J6 0))
def f_X12_handsOf (p1 : Int32) (μ : gx_M) : Option Int64 := L_X12_handsOf_5 μ p1 (fun (x2_11 : Int64) => some x2_11) 4000 0 0
theorem okL_X12_handsOf_5 {E : gx_E} {l : Launch} {μ : gx_M} {p1 : Int32} {k3 : Int64 → Option Int64} (hk : ∀ (w10 : Int64), GoR E l Y_X12_handsOf 0 gx_eL 42 [none, none, some (.long w10)] [] μ (k3 w10)) : ∀ (n : Nat) (v2_1 : Int64) (v4_2 : Int32), GoR E l Y_X12_handsOf 0 gx_eL 5 [some (.ref (E.2.2.1 + 206)), some (.int p1), some (.long v2_1), none, some (.int v4_2)] [] μ (L_X12_handsOf_5 μ p1 k3 n v2_1 v4_2) := by
  intro n
  induction n with
  | zero => intros; exact R_no
  | succ n ih =>
    intro v2_1 v4_2
    rw [L_X12_handsOf_5.eq_2]
    refine R_s (s_iload dX12_handsOf_5 rfl) ?_
    refine R_s (s_aload_n dX12_handsOf_7 rfl rfl) ?_
    refine R_s (gf_RX12_283 rfl dX12_handsOf_8) ?_
    refine R_ite (fun h4 => ?_) (fun h4 => ?_)
    · refine R_s (s_icmp_ge_t dX12_handsOf_11 rfl h4) ?_
      exact R_wk (hk v2_1) (le_o (le_o (le_s rfl le_n)))
    · refine R_s (s_icmp_ge_f dX12_handsOf_11 rfl h4) ?_
      refine R_s (s_lload_n dX12_handsOf_14 rfl rfl) ?_
      refine R_s (s_aload_n dX12_handsOf_15 rfl rfl) ?_
      refine R_s (gf_RX12_50 rfl dX12_handsOf_16) ?_
      refine R_s (s_iload dX12_handsOf_19 rfl) ?_
      refine R_ck (fun h5 => ?_)
      refine R_s (s_iald dX12_handsOf_21 g_220 (gx_ixv h5)) ?_
      refine R_s (s_iload_n dX12_handsOf_22 rfl rfl) ?_
      refine R_fun (fun J => ∀ (j0_8 : Int64), GoR E l Y_X12_handsOf 0 gx_eL 34 [some (.ref (E.2.2.1 + 206)), some (.int p1), none, none, some (.int v4_2)] [.long j0_8, .long v2_1] μ (J j0_8)) ?_ (fun J6 hJ6 => ?_)
      · intro j0_8
        refine R_s (s_lor dX12_handsOf_34) ?_
        refine R_letL (fun x9 => ?_)
        refine R_s (s_lstore_n dX12_handsOf_35 rfl (Nat.le_of_ble_eq_true rfl)) ?_
        refine R_s (s_iinc dX12_handsOf_36 rfl (kinc_1 v4_2) (Nat.le_of_ble_eq_true rfl)) ?_
        refine R_s (s_goto dX12_handsOf_39 rfl) ?_
        exact R_wk (ih x9 (v4_2 + 1)) (le_s rfl (le_s rfl (le_s rfl (le_o (le_s rfl le_n)))))
      · skip
        refine R_ite (fun h7 => ?_) (fun h7 => ?_)
        · refine R_s (s_icmp_ne_f dX12_handsOf_23 rfl h7) ?_
          refine R_s (s_lconst dX12_handsOf_26 kcl_1) ?_
          refine R_s (s_iload dX12_handsOf_27 rfl) ?_
          refine R_s (s_lshl dX12_handsOf_29) ?_
          refine R_s (s_goto dX12_handsOf_30 rfl) ?_
          exact R_wk (hJ6 (1 <<< ((v4_2 : Int32).toInt64 &&& 63))) (le_s rfl (le_s rfl (le_o (le_o (le_s rfl le_n)))))
        · refine R_s (s_icmp_ne_t dX12_handsOf_23 rfl h7) ?_
          refine R_s (s_lconst dX12_handsOf_33 kcl_0) ?_
          exact R_wk (hJ6 0) (le_s rfl (le_s rfl (le_o (le_o (le_s rfl le_n)))))
theorem ev_X12_handsOf {E : gx_E} {l : Launch} (p1 : Int32) (μ : gx_M) {r : Int64} (hr : f_X12_handsOf p1 μ = some r) : gEv E l 0 Y_X12_handsOf [.ref (E.2.2.1 + 206), .int p1] gx_G1 μ (gx_eL r) gx_G1 μ := by
  refine R_ev (by decide) (Nat.le_of_ble_eq_true rfl) (em := gx_eL) (T := f_X12_handsOf p1 μ) ?_ hr
  show GoR E l Y_X12_handsOf 0 gx_eL 0 (gx_el [.ref (E.2.2.1 + 206), .int p1]) [] μ (f_X12_handsOf p1 μ)
  unfold f_X12_handsOf
  refine R_s (s_lconst dX12_handsOf_0 kcl_0) ?_
  refine R_s (s_lstore_n dX12_handsOf_1 rfl (Nat.le_of_ble_eq_true rfl)) ?_
  refine R_s (s_iconst dX12_handsOf_2 kci_0) ?_
  refine R_s (s_istore dX12_handsOf_3 (Nat.le_of_ble_eq_true rfl)) ?_
  refine R_wk (okL_X12_handsOf_5 ?_ 4000 0 0) (le_s rfl (le_s rfl (le_s rfl (le_o (le_s rfl le_n)))))
  intro x2_11
  refine R_s (s_lload_n dX12_handsOf_42 rfl rfl) ?_
  exact R_r (r := x2_11) (f_long dX12_handsOf_43 rfl)

def L_X12_allHit_2 (μ : gx_M) (p1 : Int64) (k2 : Option Bool) : Nat → Int32 → Option Bool
  | 0, _ => none
  | n + 1, v3_1 => if (μ.1 206 44) ≤ v3_1 then k2 else gx_ck (gx_ix v3_1 240 = true) (if ((μ.2 229 v3_1.toNatClampNeg) &&& p1) = 0 then some false else L_X12_allHit_2 μ p1 k2 n (v3_1 + 1))
def f_X12_allHit (p1 : Int64) (μ : gx_M) : Option Bool := L_X12_allHit_2 μ p1 (some true) 4000 0
theorem okL_X12_allHit_2 {E : gx_E} {l : Launch} {μ : gx_M} {p1 : Int64} {k2 : Option Bool} (hk : GoR E l Y_X12_allHit 0 gx_eB 31 [] [] μ (k2)) : ∀ (n : Nat) (v3_1 : Int32), GoR E l Y_X12_allHit 0 gx_eB 2 [some (.ref (E.2.2.1 + 206)), some (.long p1), none, some (.int v3_1)] [] μ (L_X12_allHit_2 μ p1 k2 n v3_1) := by
  intro n
  induction n with
  | zero => intros; exact R_no
  | succ n ih =>
    intro v3_1
    rw [L_X12_allHit_2.eq_2]
    refine R_s (s_iload_n dX12_allHit_2 rfl rfl) ?_
    refine R_s (s_aload_n dX12_allHit_3 rfl rfl) ?_
    refine R_s (gf_RX12_412 rfl dX12_allHit_4) ?_
    refine R_ite (fun h3 => ?_) (fun h3 => ?_)
    · refine R_s (s_icmp_ge_t dX12_allHit_7 rfl h3) ?_
      exact R_wk (hk) le_n
    · refine R_s (s_icmp_ge_f dX12_allHit_7 rfl h3) ?_
      refine R_s (s_aload_n dX12_allHit_10 rfl rfl) ?_
      refine R_s (gf_RX12_78 rfl dX12_allHit_11) ?_
      refine R_s (s_iload_n dX12_allHit_14 rfl rfl) ?_
      refine R_ck (fun h4 => ?_)
      refine R_s (s_lald dX12_allHit_15 g_229 (gx_ixv h4)) ?_
      refine R_s (s_lload_n dX12_allHit_16 rfl rfl) ?_
      refine R_s (s_land dX12_allHit_17) ?_
      refine R_s (s_lconst dX12_allHit_18 kcl_0) ?_
      refine R_s (s_lcmp dX12_allHit_19) ?_
      refine R_ite (fun h5 => ?_) (fun h5 => ?_)
      · refine R_s (s_if_ne_f dX12_allHit_20 rfl ((lgc_eq ((μ.2 229 v3_1.toNatClampNeg) &&& p1) 0).mpr h5)) ?_
        refine R_s (s_iconst dX12_allHit_23 kci_0) ?_
        exact R_r (r := false) (f_int (ty := .boolean) (x := gx_bi false) dX12_allHit_24 rfl (gx_bn false))
      · refine R_s (s_if_ne_t dX12_allHit_20 rfl (fun hc => h5 ((lgc_eq ((μ.2 229 v3_1.toNatClampNeg) &&& p1) 0).mp hc))) ?_
        refine R_s (s_iinc dX12_allHit_25 rfl (kinc_1 v3_1) (Nat.le_of_ble_eq_true rfl)) ?_
        refine R_s (s_goto dX12_allHit_28 rfl) ?_
        exact R_wk (ih (v3_1 + 1)) (le_s rfl (le_s rfl (le_o (le_s rfl le_n))))
theorem ev_X12_allHit {E : gx_E} {l : Launch} (p1 : Int64) (μ : gx_M) {r : Bool} (hr : f_X12_allHit p1 μ = some r) : gEv E l 0 Y_X12_allHit [.ref (E.2.2.1 + 206), .long p1] gx_G1 μ (gx_eB r) gx_G1 μ := by
  refine R_ev (by decide) (Nat.le_of_ble_eq_true rfl) (em := gx_eB) (T := f_X12_allHit p1 μ) ?_ hr
  show GoR E l Y_X12_allHit 0 gx_eB 0 (gx_el [.ref (E.2.2.1 + 206), .long p1]) [] μ (f_X12_allHit p1 μ)
  unfold f_X12_allHit
  refine R_s (s_iconst dX12_allHit_0 kci_0) ?_
  refine R_s (s_istore_n dX12_allHit_1 rfl (Nat.le_of_ble_eq_true rfl)) ?_
  refine R_wk (okL_X12_allHit_2 ?_ 4000 0) (le_s rfl (le_s rfl (le_o (le_s rfl le_n))))
  refine R_s (s_iconst dX12_allHit_31 kci_1) ?_
  exact R_r (r := true) (f_int (ty := .boolean) (x := gx_bi true) dX12_allHit_32 rfl (gx_bn true))

def f_X12_hasBit (p0 : Int64) (p2 : Int32) : Bool := if ((p0 >>> ((p2 : Int32).toInt64 &&& 63)) &&& 1) = 1 then true else false
theorem ev_X12_hasBit {E : gx_E} {l : Launch} (p0 : Int64) (p2 : Int32) (μ : gx_M) : gEv E l 0 Y_X12_hasBit [.long p0, .int p2] gx_G1 μ (gx_eB (f_X12_hasBit p0 p2)) gx_G1 μ := by
  refine P_ev (by decide) (Nat.le_of_ble_eq_true rfl) (em := gx_eB) (T := f_X12_hasBit p0 p2) ?_
  show GoP E l Y_X12_hasBit 0 gx_eB 0 (gx_el [.long p0, .int p2]) [] μ (f_X12_hasBit p0 p2)
  unfold f_X12_hasBit
  refine P_s (s_lload_n dX12_hasBit_0 rfl rfl) ?_
  refine P_s (s_iload_n dX12_hasBit_1 rfl rfl) ?_
  refine P_s (s_lshr dX12_hasBit_2) ?_
  refine P_s (s_lconst dX12_hasBit_3 kcl_1) ?_
  refine P_s (s_land dX12_hasBit_4) ?_
  refine P_s (s_lconst dX12_hasBit_5 kcl_1) ?_
  refine P_s (s_lcmp dX12_hasBit_6) ?_
  refine P_ite (fun h1 => ?_) (fun h1 => ?_)
  · refine P_s (s_if_ne_f dX12_hasBit_7 rfl ((lgc_eq ((p0 >>> ((p2 : Int32).toInt64 &&& 63)) &&& 1) 1).mpr h1)) ?_
    refine P_s (s_iconst dX12_hasBit_10 kci_1) ?_
    refine P_s (s_goto dX12_hasBit_11 rfl) ?_
    exact P_r (r := true) (f_int (ty := .boolean) (x := gx_bi true) dX12_hasBit_15 rfl (gx_bn true))
  · refine P_s (s_if_ne_t dX12_hasBit_7 rfl (fun hc => h1 ((lgc_eq ((p0 >>> ((p2 : Int32).toInt64 &&& 63)) &&& 1) 1).mp hc))) ?_
    refine P_s (s_iconst dX12_hasBit_14 kci_0) ?_
    exact P_r (r := false) (f_int (ty := .boolean) (x := gx_bi false) dX12_hasBit_15 rfl (gx_bn false))

