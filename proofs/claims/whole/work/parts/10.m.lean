def f_X12_in (p0 : Int32) (p1 : Int32) (p2 : Int32) : Bool := if p0 < p1 then false else if p2 < p0 then false else true
theorem ev_X12_in {E : gx_E} {l : Launch} (p0 : Int32) (p1 : Int32) (p2 : Int32) (μ : gx_M) : gEv E l 0 Y_X12_in [.int p0, .int p1, .int p2] gx_G1 μ (gx_eB (f_X12_in p0 p1 p2)) gx_G1 μ := by
  refine P_ev (by decide) (Nat.le_of_ble_eq_true rfl) (em := gx_eB) (T := f_X12_in p0 p1 p2) ?_
  show GoP E l Y_X12_in 0 gx_eB 0 (gx_el [.int p0, .int p1, .int p2]) [] μ (f_X12_in p0 p1 p2)
  unfold f_X12_in
  refine P_s (s_iload_n dX12_in_0 rfl rfl) ?_
  refine P_s (s_iload_n dX12_in_1 rfl rfl) ?_
  refine P_ite (fun h1 => ?_) (fun h1 => ?_)
  · refine P_s (s_icmp_lt_t dX12_in_2 rfl h1) ?_
    refine P_s (s_iconst dX12_in_14 kci_0) ?_
    exact P_r (r := false) (f_int (ty := .boolean) (x := gx_bi false) dX12_in_15 rfl (gx_bn false))
  · refine P_s (s_icmp_lt_f dX12_in_2 rfl h1) ?_
    refine P_s (s_iload_n dX12_in_5 rfl rfl) ?_
    refine P_s (s_iload_n dX12_in_6 rfl rfl) ?_
    refine P_ite (fun h2 => ?_) (fun h2 => ?_)
    · refine P_s (s_icmp_gt_t dX12_in_7 rfl h2) ?_
      refine P_s (s_iconst dX12_in_14 kci_0) ?_
      exact P_r (r := false) (f_int (ty := .boolean) (x := gx_bi false) dX12_in_15 rfl (gx_bn false))
    · refine P_s (s_icmp_gt_f dX12_in_7 rfl h2) ?_
      refine P_s (s_iconst dX12_in_10 kci_1) ?_
      refine P_s (s_goto dX12_in_11 rfl) ?_
      exact P_r (r := true) (f_int (ty := .boolean) (x := gx_bi true) dX12_in_15 rfl (gx_bn true))

def f_X12_has (p0 : Int32) (p1 : Int32) : Bool := if ((p0 >>> (p1 &&& 31)) &&& 1) = 1 then true else false
theorem ev_X12_has {E : gx_E} {l : Launch} (p0 : Int32) (p1 : Int32) (μ : gx_M) : gEv E l 0 Y_X12_has [.int p0, .int p1] gx_G1 μ (gx_eB (f_X12_has p0 p1)) gx_G1 μ := by
  refine P_ev (by decide) (Nat.le_of_ble_eq_true rfl) (em := gx_eB) (T := f_X12_has p0 p1) ?_
  show GoP E l Y_X12_has 0 gx_eB 0 (gx_el [.int p0, .int p1]) [] μ (f_X12_has p0 p1)
  unfold f_X12_has
  refine P_s (s_iload_n dX12_has_0 rfl rfl) ?_
  refine P_s (s_iload_n dX12_has_1 rfl rfl) ?_
  refine P_s (s_ishr dX12_has_2) ?_
  refine P_s (s_iconst dX12_has_3 kci_1) ?_
  refine P_s (s_iand dX12_has_4) ?_
  refine P_s (s_iconst dX12_has_5 kci_1) ?_
  refine P_ite (fun h1 => ?_) (fun h1 => ?_)
  · refine P_s (s_icmp_ne_f dX12_has_6 rfl h1) ?_
    refine P_s (s_iconst dX12_has_9 kci_1) ?_
    refine P_s (s_goto dX12_has_10 rfl) ?_
    exact P_r (r := true) (f_int (ty := .boolean) (x := gx_bi true) dX12_has_14 rfl (gx_bn true))
  · refine P_s (s_icmp_ne_t dX12_has_6 rfl h1) ?_
    refine P_s (s_iconst dX12_has_13 kci_0) ?_
    exact P_r (r := false) (f_int (ty := .boolean) (x := gx_bi false) dX12_has_14 rfl (gx_bn false))

def f_X12_greater (p0 : Int32) (p1 : Int32) : Int32 := if p0 ≤ p1 then p1 else p0
theorem ev_X12_greater {E : gx_E} {l : Launch} (p0 : Int32) (p1 : Int32) (μ : gx_M) : gEv E l 0 Y_X12_greater [.int p0, .int p1] gx_G1 μ (gx_eI (f_X12_greater p0 p1)) gx_G1 μ := by
  refine P_ev (by decide) (Nat.le_of_ble_eq_true rfl) (em := gx_eI) (T := f_X12_greater p0 p1) ?_
  show GoP E l Y_X12_greater 0 gx_eI 0 (gx_el [.int p0, .int p1]) [] μ (f_X12_greater p0 p1)
  unfold f_X12_greater
  refine P_s (s_iload_n dX12_greater_0 rfl rfl) ?_
  refine P_s (s_iload_n dX12_greater_1 rfl rfl) ?_
  refine P_ite (fun h1 => ?_) (fun h1 => ?_)
  · refine P_s (s_icmp_le_t dX12_greater_2 rfl h1) ?_
    refine P_s (s_iload_n dX12_greater_9 rfl rfl) ?_
    exact P_r (r := p1) (f_int (ty := .int) dX12_greater_10 rfl rfl)
  · refine P_s (s_icmp_le_f dX12_greater_2 rfl h1) ?_
    refine P_s (s_iload_n dX12_greater_5 rfl rfl) ?_
    refine P_s (s_goto dX12_greater_6 rfl) ?_
    exact P_r (r := p0) (f_int (ty := .int) dX12_greater_10 rfl rfl)

def f_X12_lesser (p0 : Int32) (p1 : Int32) : Int32 := if p1 ≤ p0 then p1 else p0
theorem ev_X12_lesser {E : gx_E} {l : Launch} (p0 : Int32) (p1 : Int32) (μ : gx_M) : gEv E l 0 Y_X12_lesser [.int p0, .int p1] gx_G1 μ (gx_eI (f_X12_lesser p0 p1)) gx_G1 μ := by
  refine P_ev (by decide) (Nat.le_of_ble_eq_true rfl) (em := gx_eI) (T := f_X12_lesser p0 p1) ?_
  show GoP E l Y_X12_lesser 0 gx_eI 0 (gx_el [.int p0, .int p1]) [] μ (f_X12_lesser p0 p1)
  unfold f_X12_lesser
  refine P_s (s_iload_n dX12_lesser_0 rfl rfl) ?_
  refine P_s (s_iload_n dX12_lesser_1 rfl rfl) ?_
  refine P_ite (fun h1 => ?_) (fun h1 => ?_)
  · refine P_s (s_icmp_ge_t dX12_lesser_2 rfl h1) ?_
    refine P_s (s_iload_n dX12_lesser_9 rfl rfl) ?_
    exact P_r (r := p1) (f_int (ty := .int) dX12_lesser_10 rfl rfl)
  · refine P_s (s_icmp_ge_f dX12_lesser_2 rfl h1) ?_
    refine P_s (s_iload_n dX12_lesser_5 rfl rfl) ?_
    refine P_s (s_goto dX12_lesser_6 rfl) ?_
    exact P_r (r := p0) (f_int (ty := .int) dX12_lesser_10 rfl rfl)

def L_X12_copyRow_3 (p1 : Int32) (p2 : Int32) (n0 : Nat) (p3 : Int32) (a0 : Nat) (k3 : gx_M → Option (Unit × gx_M)) : Nat → Int32 → gx_M → Option (Unit × gx_M)
  | 0, _, _ => none
  | n + 1, v4_1, μ2 => if p1 ≤ v4_1 then k3 μ2 else gx_ck (gx_ix ((p1 * p2) + v4_1) n0 = true) (gx_ck (gx_ix ((p1 * p3) + v4_1) n0 = true) (gx_lt (gx_uI μ2 a0 ((p1 * p3) + v4_1).toNatClampNeg (μ2.1 a0 ((p1 * p2) + v4_1).toNatClampNeg)) (fun (μ7 : gx_M) => L_X12_copyRow_3 p1 p2 n0 p3 a0 k3 n (v4_1 + 1) μ7)))
def f_X12_copyRow (a0 : Nat) (n0 : Nat) (p1 : Int32) (p2 : Int32) (p3 : Int32) (μ : gx_M) : Option (Unit × gx_M) := L_X12_copyRow_3 p1 p2 n0 p3 a0 (fun (μ9 : gx_M) => some ((), μ9)) 4000 0 μ
theorem okL_X12_copyRow_3 {E : gx_E} {l : Launch} {p1 : Int32} {p2 : Int32} {n0 : Nat} {p3 : Int32} {a0 : Nat} (ha0 : gx_G1[a0]? = some (50, n0, [])) {k3 : gx_M → Option (Unit × gx_M)} (hk : ∀ (μ8 : gx_M), GoW E l Y_X12_copyRow 0 gx_eV 31 [] [] μ8 (k3 μ8)) : ∀ (n : Nat) (v4_1 : Int32) (μ2 : gx_M), GoW E l Y_X12_copyRow 0 gx_eV 3 [some (.ref (E.2.2.1 + a0)), some (.int p1), some (.int p2), some (.int p3), some (.int v4_1)] [] μ2 (L_X12_copyRow_3 p1 p2 n0 p3 a0 k3 n v4_1 μ2) := by
  intro n
  induction n with
  | zero => intros; exact W_no
  | succ n ih =>
    intro v4_1 μ2
    rw [L_X12_copyRow_3.eq_2]
    refine W_s (s_iload dX12_copyRow_3 rfl) ?_
    refine W_s (s_iload_n dX12_copyRow_5 rfl rfl) ?_
    refine W_ite (fun h4 => ?_) (fun h4 => ?_)
    · refine W_s (s_icmp_ge_t dX12_copyRow_6 rfl h4) ?_
      exact W_wk (hk μ2) le_n
    · refine W_s (s_icmp_ge_f dX12_copyRow_6 rfl h4) ?_
      refine W_s (s_aload_n dX12_copyRow_9 rfl rfl) ?_
      refine W_s (s_iload_n dX12_copyRow_10 rfl rfl) ?_
      refine W_s (s_iload_n dX12_copyRow_11 rfl rfl) ?_
      refine W_s (s_imul dX12_copyRow_12) ?_
      refine W_s (s_iload dX12_copyRow_13 rfl) ?_
      refine W_s (s_iadd dX12_copyRow_15) ?_
      refine W_s (s_aload_n dX12_copyRow_16 rfl rfl) ?_
      refine W_s (s_iload_n dX12_copyRow_17 rfl rfl) ?_
      refine W_s (s_iload_n dX12_copyRow_18 rfl rfl) ?_
      refine W_s (s_imul dX12_copyRow_19) ?_
      refine W_s (s_iload dX12_copyRow_20 rfl) ?_
      refine W_s (s_iadd dX12_copyRow_22) ?_
      refine W_ck (fun h5 => ?_)
      refine W_s (s_iald dX12_copyRow_23 ha0 (gx_ixv h5)) ?_
      refine W_ck (fun h6 => ?_)
      refine W_s (s_iast dX12_copyRow_24 ha0 (gx_ixv h6)) ?_
      refine W_letM (fun μ7 => ?_)
      refine W_s (s_iinc dX12_copyRow_25 rfl (kinc_1 v4_1) (Nat.le_of_ble_eq_true rfl)) ?_
      refine W_s (s_goto dX12_copyRow_28 rfl) ?_
      exact W_wk (ih (v4_1 + 1) μ7) (le_s rfl (le_s rfl (le_s rfl (le_s rfl (le_s rfl le_n)))))
theorem ev_X12_copyRow {E : gx_E} {l : Launch} (a0 : Nat) (n0 : Nat) (p1 : Int32) (p2 : Int32) (p3 : Int32) (ha0 : gx_G1[a0]? = some (50, n0, [])) (μ : gx_M) {r : Unit} {μ' : gx_M} (hr : f_X12_copyRow a0 n0 p1 p2 p3 μ = some (r, μ')) : gEv E l 0 Y_X12_copyRow [.ref (E.2.2.1 + a0), .int p1, .int p2, .int p3] gx_G1 μ (gx_eV r) gx_G1 μ' := by
  refine W_ev (by decide) (Nat.le_of_ble_eq_true rfl) (em := gx_eV) (T := f_X12_copyRow a0 n0 p1 p2 p3 μ) ?_ hr
  show GoW E l Y_X12_copyRow 0 gx_eV 0 (gx_el [.ref (E.2.2.1 + a0), .int p1, .int p2, .int p3]) [] μ (f_X12_copyRow a0 n0 p1 p2 p3 μ)
  unfold f_X12_copyRow
  refine W_s (s_iconst dX12_copyRow_0 kci_0) ?_
  refine W_s (s_istore dX12_copyRow_1 (Nat.le_of_ble_eq_true rfl)) ?_
  refine W_wk (okL_X12_copyRow_3 ha0 ?_ 4000 0 μ) (le_s rfl (le_s rfl (le_s rfl (le_s rfl (le_s rfl le_n)))))
  intro μ9
  exact W_r (r := ()) (f_void dX12_copyRow_31 rfl)

def L_X12_four_3 (p1 : Int32) (k3 : gx_M → Option (Unit × gx_M)) : Nat → Int32 → gx_M → Option (Unit × gx_M)
  | 0, _, _ => none
  | n + 1, v2_1, μ2 => if v2_1 < 0 then k3 μ2 else gx_ck (gx_ix (μ2.1 208 0) 2400 = true) (gx_lt (gx_uI μ2 207 (μ2.1 208 0).toNatClampNeg (vp_nar .byte (((p1 >>> (v2_1 &&& 31)) : Int32).toInt8.toInt32))) (fun (μ6 : gx_M) => gx_lt (gx_uI μ6 208 0 ((μ6.1 208 0) + 1)) (fun (μ7 : gx_M) => L_X12_four_3 p1 k3 n (v2_1 + (-8)) μ7)))
def f_X12_four (p1 : Int32) (μ : gx_M) : Option (Unit × gx_M) := L_X12_four_3 p1 (fun (μ9 : gx_M) => some ((), μ9)) 4000 24 μ
theorem okL_X12_four_3 {E : gx_E} {l : Launch} {p1 : Int32} {k3 : gx_M → Option (Unit × gx_M)} (hk : ∀ (μ8 : gx_M), GoW E l Y_X12_four 0 gx_eV 38 [] [] μ8 (k3 μ8)) : ∀ (n : Nat) (v2_1 : Int32) (μ2 : gx_M), GoW E l Y_X12_four 0 gx_eV 3 [some (.ref (E.2.2.1 + 206)), some (.int p1), some (.int v2_1)] [] μ2 (L_X12_four_3 p1 k3 n v2_1 μ2) := by
  intro n
  induction n with
  | zero => intros; exact W_no
  | succ n ih =>
    intro v2_1 μ2
    rw [L_X12_four_3.eq_2]
    refine W_s (s_iload_n dX12_four_3 rfl rfl) ?_
    refine W_ite (fun h4 => ?_) (fun h4 => ?_)
    · refine W_s (s_if_lt_t dX12_four_4 rfl h4) ?_
      exact W_wk (hk μ2) le_n
    · refine W_s (s_if_lt_f dX12_four_4 rfl h4) ?_
      refine W_s (s_aload_n dX12_four_7 rfl rfl) ?_
      refine W_s (gf_RX12_7 rfl dX12_four_8) ?_
      refine W_s (s_aload_n dX12_four_11 rfl rfl) ?_
      refine W_s (gf_RX12_13 rfl dX12_four_12) ?_
      refine W_s (s_iconst dX12_four_15 kci_0) ?_
      refine W_s (s_ialdL (k := 0) dX12_four_16 g_208 (gx_inl (by decide)) (by decide)) ?_
      refine W_s (s_iload_n dX12_four_17 rfl rfl) ?_
      refine W_s (s_iload_n dX12_four_18 rfl rfl) ?_
      refine W_s (s_ishr dX12_four_19) ?_
      refine W_s (s_i2b dX12_four_20) ?_
      refine W_ck (fun h5 => ?_)
      refine W_s (s_bast dX12_four_21 g_207 (gx_ixv h5)) ?_
      refine W_letM (fun μ6 => ?_)
      refine W_s (s_aload_n dX12_four_22 rfl rfl) ?_
      refine W_s (gf_RX12_13 rfl dX12_four_23) ?_
      refine W_s (s_iconst dX12_four_26 kci_0) ?_
      refine W_s (s_dup2 dX12_four_27 rfl rfl) ?_
      refine W_s (s_ialdL (k := 0) dX12_four_28 g_208 (gx_inl (by decide)) (by decide)) ?_
      refine W_s (s_iconst dX12_four_29 kci_1) ?_
      refine W_s (s_iadd dX12_four_30) ?_
      refine W_s (s_iastL (k := 0) dX12_four_31 g_208 (gx_inl (by decide)) (by decide)) ?_
      refine W_letM (fun μ7 => ?_)
      refine W_s (s_iinc dX12_four_32 rfl (kinc_m8 v2_1) (Nat.le_of_ble_eq_true rfl)) ?_
      refine W_s (s_goto dX12_four_35 rfl) ?_
      exact W_wk (ih (v2_1 + (-8)) μ7) (le_s rfl (le_s rfl (le_s rfl le_n)))
theorem ev_X12_four {E : gx_E} {l : Launch} (p1 : Int32) (μ : gx_M) {r : Unit} {μ' : gx_M} (hr : f_X12_four p1 μ = some (r, μ')) : gEv E l 0 Y_X12_four [.ref (E.2.2.1 + 206), .int p1] gx_G1 μ (gx_eV r) gx_G1 μ' := by
  refine W_ev (by decide) (Nat.le_of_ble_eq_true rfl) (em := gx_eV) (T := f_X12_four p1 μ) ?_ hr
  show GoW E l Y_X12_four 0 gx_eV 0 (gx_el [.ref (E.2.2.1 + 206), .int p1]) [] μ (f_X12_four p1 μ)
  unfold f_X12_four
  refine W_s (s_bipush dX12_four_0 kcb_24) ?_
  refine W_s (s_istore_n dX12_four_2 rfl (Nat.le_of_ble_eq_true rfl)) ?_
  refine W_wk (okL_X12_four_3 ?_ 4000 24 μ) (le_s rfl (le_s rfl (le_s rfl le_n)))
  intro μ9
  exact W_r (r := ()) (f_void dX12_four_38 rfl)

def f_X12_see (μ : gx_M) : Option Int32 := if (μ.1 206 11) ≤ (μ.1 206 10) then some (-1) else gx_ck (gx_ix (μ.1 206 10) 2400 = true) (some ((μ.1 207 (μ.1 206 10).toNatClampNeg) &&& 255))
theorem ev_X12_see {E : gx_E} {l : Launch} (μ : gx_M) {r : Int32} (hr : f_X12_see μ = some r) : gEv E l 0 Y_X12_see [.ref (E.2.2.1 + 206)] gx_G1 μ (gx_eI r) gx_G1 μ := by
  refine R_ev (by decide) (Nat.le_of_ble_eq_true rfl) (em := gx_eI) (T := f_X12_see μ) ?_ hr
  show GoR E l Y_X12_see 0 gx_eI 0 (gx_el [.ref (E.2.2.1 + 206)]) [] μ (f_X12_see μ)
  unfold f_X12_see
  refine R_s (s_aload_n dX12_see_0 rfl rfl) ?_
  refine R_s (gf_RX12_120 rfl dX12_see_1) ?_
  refine R_s (s_aload_n dX12_see_4 rfl rfl) ?_
  refine R_s (gf_RX12_123 rfl dX12_see_5) ?_
  refine R_ite (fun h1 => ?_) (fun h1 => ?_)
  · refine R_s (s_icmp_ge_t dX12_see_8 rfl h1) ?_
    refine R_s (s_iconst dX12_see_27 kci_m1) ?_
    exact R_r (r := (-1)) (f_int (ty := .int) dX12_see_28 rfl rfl)
  · refine R_s (s_icmp_ge_f dX12_see_8 rfl h1) ?_
    refine R_s (s_aload_n dX12_see_11 rfl rfl) ?_
    refine R_s (gf_RX12_7 rfl dX12_see_12) ?_
    refine R_s (s_aload_n dX12_see_15 rfl rfl) ?_
    refine R_s (gf_RX12_120 rfl dX12_see_16) ?_
    refine R_ck (fun h2 => ?_)
    refine R_s (s_bald dX12_see_19 g_207 (gx_ixv h2)) ?_
    refine R_s (s_sipush dX12_see_20 kcs_255) ?_
    refine R_s (s_iand dX12_see_23) ?_
    refine R_s (s_goto dX12_see_24 rfl) ?_
    exact R_r (r := ((μ.1 207 (μ.1 206 10).toNatClampNeg) &&& 255)) (f_int (ty := .int) dX12_see_28 rfl rfl)

def f_X12_fails (μ : gx_M) : Option (Bool × gx_M) := gx_lt (gx_uI μ 206 16 (μ.1 206 12)) (fun (μ1 : gx_M) => some (false, μ1))
theorem ev_X12_fails {E : gx_E} {l : Launch} (μ : gx_M) {r : Bool} {μ' : gx_M} (hr : f_X12_fails μ = some (r, μ')) : gEv E l 0 Y_X12_fails [.ref (E.2.2.1 + 206)] gx_G1 μ (gx_eB r) gx_G1 μ' := by
  refine W_ev (by decide) (Nat.le_of_ble_eq_true rfl) (em := gx_eB) (T := f_X12_fails μ) ?_ hr
  show GoW E l Y_X12_fails 0 gx_eB 0 (gx_el [.ref (E.2.2.1 + 206)]) [] μ (f_X12_fails μ)
  unfold f_X12_fails
  refine W_s (s_aload_n dX12_fails_0 rfl rfl) ?_
  refine W_s (s_aload_n dX12_fails_1 rfl rfl) ?_
  refine W_s (gf_RX12_130 rfl dX12_fails_2) ?_
  refine W_s (pf_RX12_143 rfl dX12_fails_5) ?_
  refine W_letM (fun μ1 => ?_)
  refine W_s (s_iconst dX12_fails_8 kci_0) ?_
  exact W_r (r := false) (f_int (ty := .boolean) (x := gx_bi false) dX12_fails_9 rfl (gx_bn false))

def f_X12_later (p1 : Int32) (p2 : Int32) (μ : gx_M) : Option (Unit × gx_M) := gx_lt (fun (μ6 : gx_M) => gx_lt (gx_uI μ6 206 17 p1) (fun (μ7 : gx_M) => gx_lt (gx_uI μ7 206 18 p2) (fun (μ8 : gx_M) => some ((), μ8)))) (fun J1 => if (μ.1 206 17) = 0 then J1 μ else if p2 < (μ.1 206 18) then J1 μ else if p2 = (μ.1 206 18) then if (μ.1 206 17) ≤ p1 then some ((), μ) else J1 μ else some ((), μ))
theorem ev_X12_later {E : gx_E} {l : Launch} (p1 : Int32) (p2 : Int32) (μ : gx_M) {r : Unit} {μ' : gx_M} (hr : f_X12_later p1 p2 μ = some (r, μ')) : gEv E l 0 Y_X12_later [.ref (E.2.2.1 + 206), .int p1, .int p2] gx_G1 μ (gx_eV r) gx_G1 μ' := by
  refine W_ev (by decide) (Nat.le_of_ble_eq_true rfl) (em := gx_eV) (T := f_X12_later p1 p2 μ) ?_ hr
  show GoW E l Y_X12_later 0 gx_eV 0 (gx_el [.ref (E.2.2.1 + 206), .int p1, .int p2]) [] μ (f_X12_later p1 p2 μ)
  unfold f_X12_later
  refine W_s (s_aload_n dX12_later_0 rfl rfl) ?_
  refine W_s (gf_RX12_146 rfl dX12_later_1) ?_
  refine W_fun (fun J => ∀ (μ6 : gx_M), GoW E l Y_X12_later 0 gx_eV 31 [some (.ref (E.2.2.1 + 206)), some (.int p1), some (.int p2)] [] μ6 (J μ6)) ?_ (fun J1 hJ1 => ?_)
  · intro μ6
    refine W_s (s_aload_n dX12_later_31 rfl rfl) ?_
    refine W_s (s_iload_n dX12_later_32 rfl rfl) ?_
    refine W_s (pf_RX12_146 rfl dX12_later_33) ?_
    refine W_letM (fun μ7 => ?_)
    refine W_s (s_aload_n dX12_later_36 rfl rfl) ?_
    refine W_s (s_iload_n dX12_later_37 rfl rfl) ?_
    refine W_s (pf_RX12_149 rfl dX12_later_38) ?_
    refine W_letM (fun μ8 => ?_)
    exact W_r (r := ()) (f_void dX12_later_41 rfl)
  · skip
    refine W_ite (fun h2 => ?_) (fun h2 => ?_)
    · refine W_s (s_if_eq_t dX12_later_4 rfl h2) ?_
      exact W_wk (hJ1 μ) (le_s rfl (le_s rfl (le_s rfl le_n)))
    · refine W_s (s_if_eq_f dX12_later_4 rfl h2) ?_
      refine W_s (s_iload_n dX12_later_7 rfl rfl) ?_
      refine W_s (s_aload_n dX12_later_8 rfl rfl) ?_
      refine W_s (gf_RX12_149 rfl dX12_later_9) ?_
      refine W_ite (fun h3 => ?_) (fun h3 => ?_)
      · refine W_s (s_icmp_lt_t dX12_later_12 rfl h3) ?_
        exact W_wk (hJ1 μ) (le_s rfl (le_s rfl (le_s rfl le_n)))
      · refine W_s (s_icmp_lt_f dX12_later_12 rfl h3) ?_
        refine W_s (s_iload_n dX12_later_15 rfl rfl) ?_
        refine W_s (s_aload_n dX12_later_16 rfl rfl) ?_
        refine W_s (gf_RX12_149 rfl dX12_later_17) ?_
        refine W_ite (fun h4 => ?_) (fun h4 => ?_)
        · refine W_s (s_icmp_ne_f dX12_later_20 rfl h4) ?_
          refine W_s (s_iload_n dX12_later_23 rfl rfl) ?_
          refine W_s (s_aload_n dX12_later_24 rfl rfl) ?_
          refine W_s (gf_RX12_146 rfl dX12_later_25) ?_
          refine W_ite (fun h5 => ?_) (fun h5 => ?_)
          · refine W_s (s_icmp_ge_t dX12_later_28 rfl h5) ?_
            exact W_r (r := ()) (f_void dX12_later_41 rfl)
          · refine W_s (s_icmp_ge_f dX12_later_28 rfl h5) ?_
            exact W_wk (hJ1 μ) (le_s rfl (le_s rfl (le_s rfl le_n)))
        · refine W_s (s_icmp_ne_t dX12_later_20 rfl h4) ?_
          exact W_r (r := ()) (f_void dX12_later_41 rfl)

def L_X12_fill_3 (p3 : Int32) (p1 : Int32) (p4 : Int32) (k3 : gx_M → Option (Unit × gx_M)) : Nat → Int32 → gx_M → Option (Unit × gx_M)
  | 0, _, _ => none
  | n + 1, v5_1, μ2 => if p3 < v5_1 then k3 μ2 else if (μ2.1 206 23) = 0 then k3 μ2 else gx_ck (gx_ix (p1 + v5_1) 161 = true) (gx_lt (gx_uI μ2 216 (p1 + v5_1).toNatClampNeg p4) (fun (μ7 : gx_M) => L_X12_fill_3 p3 p1 p4 k3 n (v5_1 + 1) μ7))
def f_X12_fill (p1 : Int32) (p2 : Int32) (p3 : Int32) (p4 : Int32) (μ : gx_M) : Option (Unit × gx_M) := L_X12_fill_3 p3 p1 p4 (fun (μ9 : gx_M) => some ((), μ9)) 4000 p2 μ
theorem okL_X12_fill_3 {E : gx_E} {l : Launch} {p3 : Int32} {p1 : Int32} {p4 : Int32} {k3 : gx_M → Option (Unit × gx_M)} (hk : ∀ (μ8 : gx_M), GoW E l Y_X12_fill 0 gx_eV 33 [] [] μ8 (k3 μ8)) : ∀ (n : Nat) (v5_1 : Int32) (μ2 : gx_M), GoW E l Y_X12_fill 0 gx_eV 3 [some (.ref (E.2.2.1 + 206)), some (.int p1), none, some (.int p3), some (.int p4), some (.int v5_1)] [] μ2 (L_X12_fill_3 p3 p1 p4 k3 n v5_1 μ2) := by
  intro n
  induction n with
  | zero => intros; exact W_no
  | succ n ih =>
    intro v5_1 μ2
    rw [L_X12_fill_3.eq_2]
    refine W_s (s_iload dX12_fill_3 rfl) ?_
    refine W_s (s_iload_n dX12_fill_5 rfl rfl) ?_
    refine W_ite (fun h4 => ?_) (fun h4 => ?_)
    · refine W_s (s_icmp_gt_t dX12_fill_6 rfl h4) ?_
      exact W_wk (hk μ2) le_n
    · refine W_s (s_icmp_gt_f dX12_fill_6 rfl h4) ?_
      refine W_s (s_aload_n dX12_fill_9 rfl rfl) ?_
      refine W_s (gf_RX12_160 rfl dX12_fill_10) ?_
      refine W_ite (fun h5 => ?_) (fun h5 => ?_)
      · refine W_s (s_if_eq_t dX12_fill_13 rfl h5) ?_
        exact W_wk (hk μ2) le_n
      · refine W_s (s_if_eq_f dX12_fill_13 rfl h5) ?_
        refine W_s (s_aload_n dX12_fill_16 rfl rfl) ?_
        refine W_s (gf_RX12_38 rfl dX12_fill_17) ?_
        refine W_s (s_iload_n dX12_fill_20 rfl rfl) ?_
        refine W_s (s_iload dX12_fill_21 rfl) ?_
        refine W_s (s_iadd dX12_fill_23) ?_
        refine W_s (s_iload dX12_fill_24 rfl) ?_
        refine W_ck (fun h6 => ?_)
        refine W_s (s_iast dX12_fill_26 g_216 (gx_ixv h6)) ?_
        refine W_letM (fun μ7 => ?_)
        refine W_s (s_iinc dX12_fill_27 rfl (kinc_1 v5_1) (Nat.le_of_ble_eq_true rfl)) ?_
        refine W_s (s_goto dX12_fill_30 rfl) ?_
        exact W_wk (ih (v5_1 + 1) μ7) (le_s rfl (le_s rfl (le_o (le_s rfl (le_s rfl (le_s rfl le_n))))))
theorem ev_X12_fill {E : gx_E} {l : Launch} (p1 : Int32) (p2 : Int32) (p3 : Int32) (p4 : Int32) (μ : gx_M) {r : Unit} {μ' : gx_M} (hr : f_X12_fill p1 p2 p3 p4 μ = some (r, μ')) : gEv E l 0 Y_X12_fill [.ref (E.2.2.1 + 206), .int p1, .int p2, .int p3, .int p4] gx_G1 μ (gx_eV r) gx_G1 μ' := by
  refine W_ev (by decide) (Nat.le_of_ble_eq_true rfl) (em := gx_eV) (T := f_X12_fill p1 p2 p3 p4 μ) ?_ hr
  show GoW E l Y_X12_fill 0 gx_eV 0 (gx_el [.ref (E.2.2.1 + 206), .int p1, .int p2, .int p3, .int p4]) [] μ (f_X12_fill p1 p2 p3 p4 μ)
  unfold f_X12_fill
  refine W_s (s_iload_n dX12_fill_0 rfl rfl) ?_
  refine W_s (s_istore dX12_fill_1 (Nat.le_of_ble_eq_true rfl)) ?_
  refine W_wk (okL_X12_fill_3 ?_ 4000 p2 μ) (le_s rfl (le_s rfl (le_o (le_s rfl (le_s rfl (le_s rfl le_n))))))
  intro μ9
  exact W_r (r := ()) (f_void dX12_fill_33 rfl)

def L_X12_keepRow_16 (p1 : Int32) (x1 : Int32) (k5 : gx_M → Option (Unit × gx_M)) : Nat → Int32 → gx_M → Option (Unit × gx_M)
  | 0, _, _ => none
  | n + 1, v4_3, μ4 => if p1 ≤ v4_3 then k5 μ4 else gx_ck (gx_ix v4_3 5 = true) (gx_ck (gx_ix (((1 : Int32) + (p1 * x1)) + v4_3) 161 = true) (gx_lt (gx_uI μ4 216 (((1 : Int32) + (p1 * x1)) + v4_3).toNatClampNeg (μ4.1 217 v4_3.toNatClampNeg)) (fun (μ9 : gx_M) => L_X12_keepRow_16 p1 x1 k5 n (v4_3 + 1) μ9)))
def f_X12_keepRow (p1 : Int32) (p2 : Int32) (μ : gx_M) : Option (Unit × gx_M) := gx_lt (μ.1 216 0) (fun (x1 : Int32) => if x1 = p2 then some ((), μ) else L_X12_keepRow_16 p1 x1 (fun (μ11 : gx_M) => gx_lt (gx_uI μ11 216 0 ((μ11.1 216 0) + 1)) (fun (μ12 : gx_M) => some ((), μ12))) 4000 0 μ)
theorem okL_X12_keepRow_16 {E : gx_E} {l : Launch} {p1 : Int32} {x1 : Int32} {k5 : gx_M → Option (Unit × gx_M)} (hk : ∀ (μ10 : gx_M), GoW E l Y_X12_keepRow 0 gx_eV 48 [some (.ref (E.2.2.1 + 206))] [] μ10 (k5 μ10)) : ∀ (n : Nat) (v4_3 : Int32) (μ4 : gx_M), GoW E l Y_X12_keepRow 0 gx_eV 16 [some (.ref (E.2.2.1 + 206)), some (.int p1), none, some (.int x1), some (.int v4_3)] [] μ4 (L_X12_keepRow_16 p1 x1 k5 n v4_3 μ4) := by
  intro n
  induction n with
  | zero => intros; exact W_no
  | succ n ih =>
    intro v4_3 μ4
    rw [L_X12_keepRow_16.eq_2]
    refine W_s (s_iload dX12_keepRow_16 rfl) ?_
    refine W_s (s_iload_n dX12_keepRow_18 rfl rfl) ?_
    refine W_ite (fun h6 => ?_) (fun h6 => ?_)
    · refine W_s (s_icmp_ge_t dX12_keepRow_19 rfl h6) ?_
      exact W_wk (hk μ4) (le_s rfl le_n)
    · refine W_s (s_icmp_ge_f dX12_keepRow_19 rfl h6) ?_
      refine W_s (s_aload_n dX12_keepRow_22 rfl rfl) ?_
      refine W_s (gf_RX12_38 rfl dX12_keepRow_23) ?_
      refine W_s (s_iconst dX12_keepRow_26 kci_1) ?_
      refine W_s (s_iload_n dX12_keepRow_27 rfl rfl) ?_
      refine W_s (s_iload_n dX12_keepRow_28 rfl rfl) ?_
      refine W_s (s_imul dX12_keepRow_29) ?_
      refine W_s (s_iadd dX12_keepRow_30) ?_
      refine W_s (s_iload dX12_keepRow_31 rfl) ?_
      refine W_s (s_iadd dX12_keepRow_33) ?_
      refine W_s (s_aload_n dX12_keepRow_34 rfl rfl) ?_
      refine W_s (gf_RX12_41 rfl dX12_keepRow_35) ?_
      refine W_s (s_iload dX12_keepRow_38 rfl) ?_
      refine W_ck (fun h7 => ?_)
      refine W_s (s_iald dX12_keepRow_40 g_217 (gx_ixv h7)) ?_
      refine W_ck (fun h8 => ?_)
      refine W_s (s_iast dX12_keepRow_41 g_216 (gx_ixv h8)) ?_
      refine W_letM (fun μ9 => ?_)
      refine W_s (s_iinc dX12_keepRow_42 rfl (kinc_1 v4_3) (Nat.le_of_ble_eq_true rfl)) ?_
      refine W_s (s_goto dX12_keepRow_45 rfl) ?_
      exact W_wk (ih (v4_3 + 1) μ9) (le_s rfl (le_s rfl (le_o (le_s rfl (le_s rfl le_n)))))
theorem ev_X12_keepRow {E : gx_E} {l : Launch} (p1 : Int32) (p2 : Int32) (μ : gx_M) {r : Unit} {μ' : gx_M} (hr : f_X12_keepRow p1 p2 μ = some (r, μ')) : gEv E l 0 Y_X12_keepRow [.ref (E.2.2.1 + 206), .int p1, .int p2] gx_G1 μ (gx_eV r) gx_G1 μ' := by
  refine W_ev (by decide) (Nat.le_of_ble_eq_true rfl) (em := gx_eV) (T := f_X12_keepRow p1 p2 μ) ?_ hr
  show GoW E l Y_X12_keepRow 0 gx_eV 0 (gx_el [.ref (E.2.2.1 + 206), .int p1, .int p2]) [] μ (f_X12_keepRow p1 p2 μ)
  unfold f_X12_keepRow
  refine W_s (s_aload_n dX12_keepRow_0 rfl rfl) ?_
  refine W_s (gf_RX12_38 rfl dX12_keepRow_1) ?_
  refine W_s (s_iconst dX12_keepRow_4 kci_0) ?_
  refine W_s (s_ialdL (k := 0) dX12_keepRow_5 g_216 (gx_inl (by decide)) (by decide)) ?_
  refine W_letI (fun x1 => ?_)
  refine W_s (s_istore_n dX12_keepRow_6 rfl (Nat.le_of_ble_eq_true rfl)) ?_
  refine W_s (s_iload_n dX12_keepRow_7 rfl rfl) ?_
  refine W_s (s_iload_n dX12_keepRow_8 rfl rfl) ?_
  refine W_ite (fun h2 => ?_) (fun h2 => ?_)
  · refine W_s (s_icmp_ne_f dX12_keepRow_9 rfl h2) ?_
    exact W_r (r := ()) (f_void dX12_keepRow_12 rfl)
  · refine W_s (s_icmp_ne_t dX12_keepRow_9 rfl h2) ?_
    refine W_s (s_iconst dX12_keepRow_13 kci_0) ?_
    refine W_s (s_istore dX12_keepRow_14 (Nat.le_of_ble_eq_true rfl)) ?_
    refine W_wk (okL_X12_keepRow_16 ?_ 4000 0 μ) (le_s rfl (le_s rfl (le_o (le_s rfl (le_s rfl le_n)))))
    intro μ11
    refine W_s (s_aload_n dX12_keepRow_48 rfl rfl) ?_
    refine W_s (gf_RX12_38 rfl dX12_keepRow_49) ?_
    refine W_s (s_iconst dX12_keepRow_52 kci_0) ?_
    refine W_s (s_dup2 dX12_keepRow_53 rfl rfl) ?_
    refine W_s (s_ialdL (k := 0) dX12_keepRow_54 g_216 (gx_inl (by decide)) (by decide)) ?_
    refine W_s (s_iconst dX12_keepRow_55 kci_1) ?_
    refine W_s (s_iadd dX12_keepRow_56) ?_
    refine W_s (s_iastL (k := 0) dX12_keepRow_57 g_216 (gx_inl (by decide)) (by decide)) ?_
    refine W_letM (fun μ12 => ?_)
    exact W_r (r := ()) (f_void dX12_keepRow_58 rfl)

def f_X12_deedBy (p0 : Int64) : Int32 := if p0 = 6452601 then 0 else if p0 = 499967946347 then 1 else if p0 = 495874040172 then 2 else if p0 = 1936026732 then 3 else if p0 = 25711 then 4 else if p0 = 110386589361522 then 5 else if p0 = 27980807330096498 then 6 else (-1)
theorem ev_X12_deedBy {E : gx_E} {l : Launch} (p0 : Int64) (μ : gx_M) : gEv E l 0 Y_X12_deedBy [.long p0] gx_G1 μ (gx_eI (f_X12_deedBy p0)) gx_G1 μ := by
  refine P_ev (by decide) (Nat.le_of_ble_eq_true rfl) (em := gx_eI) (T := f_X12_deedBy p0) ?_
  show GoP E l Y_X12_deedBy 0 gx_eI 0 (gx_el [.long p0]) [] μ (f_X12_deedBy p0)
  unfold f_X12_deedBy
  refine P_s (s_lload_n dX12_deedBy_0 rfl rfl) ?_
  refine P_s (s_ldc2 dX12_deedBy_1 kw_RX12_209) ?_
  refine P_s (s_lcmp dX12_deedBy_4) ?_
  refine P_ite (fun h1 => ?_) (fun h1 => ?_)
  · refine P_s (s_if_ne_f dX12_deedBy_5 rfl ((lgc_eq p0 6452601).mpr h1)) ?_
    refine P_s (s_iconst dX12_deedBy_8 kci_0) ?_
    refine P_s (s_goto dX12_deedBy_9 rfl) ?_
    exact P_r (r := 0) (f_int (ty := .int) dX12_deedBy_86 rfl rfl)
  · refine P_s (s_if_ne_t dX12_deedBy_5 rfl (fun hc => h1 ((lgc_eq p0 6452601).mp hc))) ?_
    refine P_s (s_lload_n dX12_deedBy_12 rfl rfl) ?_
    refine P_s (s_ldc2 dX12_deedBy_13 kw_RX12_211) ?_
    refine P_s (s_lcmp dX12_deedBy_16) ?_
    refine P_ite (fun h2 => ?_) (fun h2 => ?_)
    · refine P_s (s_if_ne_f dX12_deedBy_17 rfl ((lgc_eq p0 499967946347).mpr h2)) ?_
      refine P_s (s_iconst dX12_deedBy_20 kci_1) ?_
      refine P_s (s_goto dX12_deedBy_21 rfl) ?_
      exact P_r (r := 1) (f_int (ty := .int) dX12_deedBy_86 rfl rfl)
    · refine P_s (s_if_ne_t dX12_deedBy_17 rfl (fun hc => h2 ((lgc_eq p0 499967946347).mp hc))) ?_
      refine P_s (s_lload_n dX12_deedBy_24 rfl rfl) ?_
      refine P_s (s_ldc2 dX12_deedBy_25 kw_RX12_213) ?_
      refine P_s (s_lcmp dX12_deedBy_28) ?_
      refine P_ite (fun h3 => ?_) (fun h3 => ?_)
      · refine P_s (s_if_ne_f dX12_deedBy_29 rfl ((lgc_eq p0 495874040172).mpr h3)) ?_
        refine P_s (s_iconst dX12_deedBy_32 kci_2) ?_
        refine P_s (s_goto dX12_deedBy_33 rfl) ?_
        exact P_r (r := 2) (f_int (ty := .int) dX12_deedBy_86 rfl rfl)
      · refine P_s (s_if_ne_t dX12_deedBy_29 rfl (fun hc => h3 ((lgc_eq p0 495874040172).mp hc))) ?_
        refine P_s (s_lload_n dX12_deedBy_36 rfl rfl) ?_
        refine P_s (s_ldc2 dX12_deedBy_37 kw_RX12_215) ?_
        refine P_s (s_lcmp dX12_deedBy_40) ?_
        refine P_ite (fun h4 => ?_) (fun h4 => ?_)
        · refine P_s (s_if_ne_f dX12_deedBy_41 rfl ((lgc_eq p0 1936026732).mpr h4)) ?_
          refine P_s (s_iconst dX12_deedBy_44 kci_3) ?_
          refine P_s (s_goto dX12_deedBy_45 rfl) ?_
          exact P_r (r := 3) (f_int (ty := .int) dX12_deedBy_86 rfl rfl)
        · refine P_s (s_if_ne_t dX12_deedBy_41 rfl (fun hc => h4 ((lgc_eq p0 1936026732).mp hc))) ?_
          refine P_s (s_lload_n dX12_deedBy_48 rfl rfl) ?_
          refine P_s (s_ldc2 dX12_deedBy_49 kw_RX12_217) ?_
          refine P_s (s_lcmp dX12_deedBy_52) ?_
          refine P_ite (fun h5 => ?_) (fun h5 => ?_)
          · refine P_s (s_if_ne_f dX12_deedBy_53 rfl ((lgc_eq p0 25711).mpr h5)) ?_
            refine P_s (s_iconst dX12_deedBy_56 kci_4) ?_
            refine P_s (s_goto dX12_deedBy_57 rfl) ?_
            exact P_r (r := 4) (f_int (ty := .int) dX12_deedBy_86 rfl rfl)
          · refine P_s (s_if_ne_t dX12_deedBy_53 rfl (fun hc => h5 ((lgc_eq p0 25711).mp hc))) ?_
            refine P_s (s_lload_n dX12_deedBy_60 rfl rfl) ?_
            refine P_s (s_ldc2 dX12_deedBy_61 kw_RX12_219) ?_
            refine P_s (s_lcmp dX12_deedBy_64) ?_
            refine P_ite (fun h6 => ?_) (fun h6 => ?_)
            · refine P_s (s_if_ne_f dX12_deedBy_65 rfl ((lgc_eq p0 110386589361522).mpr h6)) ?_
              refine P_s (s_iconst dX12_deedBy_68 kci_5) ?_
              refine P_s (s_goto dX12_deedBy_69 rfl) ?_
              exact P_r (r := 5) (f_int (ty := .int) dX12_deedBy_86 rfl rfl)
            · refine P_s (s_if_ne_t dX12_deedBy_65 rfl (fun hc => h6 ((lgc_eq p0 110386589361522).mp hc))) ?_
              refine P_s (s_lload_n dX12_deedBy_72 rfl rfl) ?_
              refine P_s (s_ldc2 dX12_deedBy_73 kw_RX12_221) ?_
              refine P_s (s_lcmp dX12_deedBy_76) ?_
              refine P_ite (fun h7 => ?_) (fun h7 => ?_)
              · refine P_s (s_if_ne_f dX12_deedBy_77 rfl ((lgc_eq p0 27980807330096498).mpr h7)) ?_
                refine P_s (s_bipush dX12_deedBy_80 kcb_6) ?_
                refine P_s (s_goto dX12_deedBy_82 rfl) ?_
                exact P_r (r := 6) (f_int (ty := .int) dX12_deedBy_86 rfl rfl)
              · refine P_s (s_if_ne_t dX12_deedBy_77 rfl (fun hc => h7 ((lgc_eq p0 27980807330096498).mp hc))) ?_
                refine P_s (s_iconst dX12_deedBy_85 kci_m1) ?_
                exact P_r (r := (-1)) (f_int (ty := .int) dX12_deedBy_86 rfl rfl)

def L_X12_blank_2 (k3 : gx_M → Option (Unit × gx_M)) : Nat → Int32 → gx_M → Option (Unit × gx_M)
  | 0, _, _ => none
  | n + 1, v2_1, μ2 => if 161 ≤ v2_1 then k3 μ2 else gx_ck (gx_ix v2_1 161 = true) (gx_lt (gx_uI μ2 216 v2_1.toNatClampNeg 0) (fun (μ6 : gx_M) => L_X12_blank_2 k3 n (v2_1 + 1) μ6))
def L_X12_blank_60 (k19 : gx_M → Option (Unit × gx_M)) : Nat → Int32 → gx_M → Option (Unit × gx_M)
  | 0, _, _ => none
  | n + 1, v2_17, μ18 => if 4 ≤ v2_17 then k19 μ18 else gx_ck (gx_ix ((3 : Int32) + v2_17) 161 = true) (gx_lt (gx_uI μ18 216 ((3 : Int32) + v2_17).toNatClampNeg 20) (fun (μ22 : gx_M) => L_X12_blank_60 k19 n (v2_17 + 1) μ22))
def L_X12_blank_83 (k27 : gx_M → Option (Unit × gx_M)) : Nat → Int32 → gx_M → Option (Unit × gx_M)
  | 0, _, _ => none
  | n + 1, v2_25, μ26 => if 40 ≤ v2_25 then k27 μ26 else gx_ck (gx_ix ((31 : Int32) + v2_25) 161 = true) (gx_lt (gx_uI μ26 216 ((31 : Int32) + v2_25).toNatClampNeg 1) (fun (μ30 : gx_M) => gx_ck (gx_ix ((71 : Int32) + v2_25) 161 = true) (gx_lt (gx_uI μ30 216 ((71 : Int32) + v2_25).toNatClampNeg (-1)) (fun (μ32 : gx_M) => L_X12_blank_83 k27 n (v2_25 + 1) μ32))))
def f_X12_blank (p1 : Int32) (μ : gx_M) : Option (Unit × gx_M) := L_X12_blank_2 (fun (μ8 : gx_M) => gx_lt (fun (j0_12 : Int32) (μ13 : gx_M) => gx_lt (gx_uI μ13 216 0 j0_12) (fun (μ14 : gx_M) => if p1 = 0 then gx_lt (gx_uI μ14 216 1 2) (fun (μ16 : gx_M) => L_X12_blank_60 (fun (μ24 : gx_M) => L_X12_blank_83 (fun (μ34 : gx_M) => some ((), μ34)) 4000 0 μ24) 4000 0 μ16) else some ((), μ14))) (fun J9 => if p1 = 0 then J9 12 μ8 else if p1 = 3 then J9 3 μ8 else J9 0 μ8)) 4000 0 μ
theorem okL_X12_blank_2 {E : gx_E} {l : Launch} {p1 : Int32} {k3 : gx_M → Option (Unit × gx_M)} (hk : ∀ (μ7 : gx_M), GoW E l Y_X12_blank 0 gx_eV 22 [some (.ref (E.2.2.1 + 206)), some (.int p1)] [] μ7 (k3 μ7)) : ∀ (n : Nat) (v2_1 : Int32) (μ2 : gx_M), GoW E l Y_X12_blank 0 gx_eV 2 [some (.ref (E.2.2.1 + 206)), some (.int p1), some (.int v2_1)] [] μ2 (L_X12_blank_2 k3 n v2_1 μ2) := by
  intro n
  induction n with
  | zero => intros; exact W_no
  | succ n ih =>
    intro v2_1 μ2
    rw [L_X12_blank_2.eq_2]
    refine W_s (s_iload_n dX12_blank_2 rfl rfl) ?_
    refine W_s (s_sipush dX12_blank_3 kcs_161) ?_
    refine W_ite (fun h4 => ?_) (fun h4 => ?_)
    · refine W_s (s_icmp_ge_t dX12_blank_6 rfl h4) ?_
      exact W_wk (hk μ2) (le_s rfl (le_s rfl le_n))
    · refine W_s (s_icmp_ge_f dX12_blank_6 rfl h4) ?_
      refine W_s (s_aload_n dX12_blank_9 rfl rfl) ?_
      refine W_s (gf_RX12_38 rfl dX12_blank_10) ?_
      refine W_s (s_iload_n dX12_blank_13 rfl rfl) ?_
      refine W_s (s_iconst dX12_blank_14 kci_0) ?_
      refine W_ck (fun h5 => ?_)
      refine W_s (s_iast dX12_blank_15 g_216 (gx_ixv h5)) ?_
      refine W_letM (fun μ6 => ?_)
      refine W_s (s_iinc dX12_blank_16 rfl (kinc_1 v2_1) (Nat.le_of_ble_eq_true rfl)) ?_
      refine W_s (s_goto dX12_blank_19 rfl) ?_
      exact W_wk (ih (v2_1 + 1) μ6) (le_s rfl (le_s rfl (le_s rfl le_n)))
theorem okL_X12_blank_60 {E : gx_E} {l : Launch} {k19 : gx_M → Option (Unit × gx_M)} (hk : ∀ (μ23 : gx_M), GoW E l Y_X12_blank 0 gx_eV 81 [some (.ref (E.2.2.1 + 206))] [] μ23 (k19 μ23)) : ∀ (n : Nat) (v2_17 : Int32) (μ18 : gx_M), GoW E l Y_X12_blank 0 gx_eV 60 [some (.ref (E.2.2.1 + 206)), none, some (.int v2_17)] [] μ18 (L_X12_blank_60 k19 n v2_17 μ18) := by
  intro n
  induction n with
  | zero => intros; exact W_no
  | succ n ih =>
    intro v2_17 μ18
    rw [L_X12_blank_60.eq_2]
    refine W_s (s_iload_n dX12_blank_60 rfl rfl) ?_
    refine W_s (s_iconst dX12_blank_61 kci_4) ?_
    refine W_ite (fun h20 => ?_) (fun h20 => ?_)
    · refine W_s (s_icmp_ge_t dX12_blank_62 rfl h20) ?_
      exact W_wk (hk μ18) (le_s rfl le_n)
    · refine W_s (s_icmp_ge_f dX12_blank_62 rfl h20) ?_
      refine W_s (s_aload_n dX12_blank_65 rfl rfl) ?_
      refine W_s (gf_RX12_38 rfl dX12_blank_66) ?_
      refine W_s (s_iconst dX12_blank_69 kci_3) ?_
      refine W_s (s_iload_n dX12_blank_70 rfl rfl) ?_
      refine W_s (s_iadd dX12_blank_71) ?_
      refine W_s (s_bipush dX12_blank_72 kcb_20) ?_
      refine W_ck (fun h21 => ?_)
      refine W_s (s_iast dX12_blank_74 g_216 (gx_ixv h21)) ?_
      refine W_letM (fun μ22 => ?_)
      refine W_s (s_iinc dX12_blank_75 rfl (kinc_1 v2_17) (Nat.le_of_ble_eq_true rfl)) ?_
      refine W_s (s_goto dX12_blank_78 rfl) ?_
      exact W_wk (ih (v2_17 + 1) μ22) (le_s rfl (le_o (le_s rfl le_n)))
theorem okL_X12_blank_83 {E : gx_E} {l : Launch} {k27 : gx_M → Option (Unit × gx_M)} (hk : ∀ (μ33 : gx_M), GoW E l Y_X12_blank 0 gx_eV 115 [] [] μ33 (k27 μ33)) : ∀ (n : Nat) (v2_25 : Int32) (μ26 : gx_M), GoW E l Y_X12_blank 0 gx_eV 83 [some (.ref (E.2.2.1 + 206)), none, some (.int v2_25)] [] μ26 (L_X12_blank_83 k27 n v2_25 μ26) := by
  intro n
  induction n with
  | zero => intros; exact W_no
  | succ n ih =>
    intro v2_25 μ26
    rw [L_X12_blank_83.eq_2]
    refine W_s (s_iload_n dX12_blank_83 rfl rfl) ?_
    refine W_s (s_bipush dX12_blank_84 kcb_40) ?_
    refine W_ite (fun h28 => ?_) (fun h28 => ?_)
    · refine W_s (s_icmp_ge_t dX12_blank_86 rfl h28) ?_
      exact W_wk (hk μ26) le_n
    · refine W_s (s_icmp_ge_f dX12_blank_86 rfl h28) ?_
      refine W_s (s_aload_n dX12_blank_89 rfl rfl) ?_
      refine W_s (gf_RX12_38 rfl dX12_blank_90) ?_
      refine W_s (s_bipush dX12_blank_93 kcb_31) ?_
      refine W_s (s_iload_n dX12_blank_95 rfl rfl) ?_
      refine W_s (s_iadd dX12_blank_96) ?_
      refine W_s (s_iconst dX12_blank_97 kci_1) ?_
      refine W_ck (fun h29 => ?_)
      refine W_s (s_iast dX12_blank_98 g_216 (gx_ixv h29)) ?_
      refine W_letM (fun μ30 => ?_)
      refine W_s (s_aload_n dX12_blank_99 rfl rfl) ?_
      refine W_s (gf_RX12_38 rfl dX12_blank_100) ?_
      refine W_s (s_bipush dX12_blank_103 kcb_71) ?_
      refine W_s (s_iload_n dX12_blank_105 rfl rfl) ?_
      refine W_s (s_iadd dX12_blank_106) ?_
      refine W_s (s_iconst dX12_blank_107 kci_m1) ?_
      refine W_ck (fun h31 => ?_)
      refine W_s (s_iast dX12_blank_108 g_216 (gx_ixv h31)) ?_
      refine W_letM (fun μ32 => ?_)
      refine W_s (s_iinc dX12_blank_109 rfl (kinc_1 v2_25) (Nat.le_of_ble_eq_true rfl)) ?_
      refine W_s (s_goto dX12_blank_112 rfl) ?_
      exact W_wk (ih (v2_25 + 1) μ32) (le_s rfl (le_o (le_s rfl le_n)))
theorem ev_X12_blank {E : gx_E} {l : Launch} (p1 : Int32) (μ : gx_M) {r : Unit} {μ' : gx_M} (hr : f_X12_blank p1 μ = some (r, μ')) : gEv E l 0 Y_X12_blank [.ref (E.2.2.1 + 206), .int p1] gx_G1 μ (gx_eV r) gx_G1 μ' := by
  refine W_ev (by decide) (Nat.le_of_ble_eq_true rfl) (em := gx_eV) (T := f_X12_blank p1 μ) ?_ hr
  show GoW E l Y_X12_blank 0 gx_eV 0 (gx_el [.ref (E.2.2.1 + 206), .int p1]) [] μ (f_X12_blank p1 μ)
  unfold f_X12_blank
  refine W_s (s_iconst dX12_blank_0 kci_0) ?_
  refine W_s (s_istore_n dX12_blank_1 rfl (Nat.le_of_ble_eq_true rfl)) ?_
  refine W_wk (okL_X12_blank_2 ?_ 4000 0 μ) (le_s rfl (le_s rfl (le_s rfl le_n)))
  intro μ8
  refine W_s (s_aload_n dX12_blank_22 rfl rfl) ?_
  refine W_s (gf_RX12_38 rfl dX12_blank_23) ?_
  refine W_s (s_iconst dX12_blank_26 kci_0) ?_
  refine W_s (s_iload_n dX12_blank_27 rfl rfl) ?_
  refine W_fun (fun J => ∀ (j0_12 : Int32) (μ13 : gx_M), GoW E l Y_X12_blank 0 gx_eV 46 [some (.ref (E.2.2.1 + 206)), some (.int p1)] [.int j0_12, .int 0, .ref (E.2.2.1 + 216)] μ13 (J j0_12 μ13)) ?_ (fun J9 hJ9 => ?_)
  · intro j0_12 μ13
    refine W_s (s_iastL (k := 0) dX12_blank_46 g_216 (gx_inl (by decide)) (by decide)) ?_
    refine W_letM (fun μ14 => ?_)
    refine W_s (s_iload_n dX12_blank_47 rfl rfl) ?_
    refine W_ite (fun h15 => ?_) (fun h15 => ?_)
    · refine W_s (s_if_ne_f dX12_blank_48 rfl h15) ?_
      refine W_s (s_aload_n dX12_blank_51 rfl rfl) ?_
      refine W_s (gf_RX12_38 rfl dX12_blank_52) ?_
      refine W_s (s_iconst dX12_blank_55 kci_1) ?_
      refine W_s (s_iconst dX12_blank_56 kci_2) ?_
      refine W_s (s_iastL (k := 1) dX12_blank_57 g_216 (gx_inl (by decide)) (by decide)) ?_
      refine W_letM (fun μ16 => ?_)
      refine W_s (s_iconst dX12_blank_58 kci_0) ?_
      refine W_s (s_istore_n dX12_blank_59 rfl (Nat.le_of_ble_eq_true rfl)) ?_
      refine W_wk (okL_X12_blank_60 ?_ 4000 0 μ16) (le_s rfl (le_o (le_s rfl le_n)))
      intro μ24
      refine W_s (s_iconst dX12_blank_81 kci_0) ?_
      refine W_s (s_istore_n dX12_blank_82 rfl (Nat.le_of_ble_eq_true rfl)) ?_
      refine W_wk (okL_X12_blank_83 ?_ 4000 0 μ24) (le_s rfl (le_o (le_s rfl le_n)))
      intro μ34
      exact W_r (r := ()) (f_void dX12_blank_115 rfl)
    · refine W_s (s_if_ne_t dX12_blank_48 rfl h15) ?_
      exact W_r (r := ()) (f_void dX12_blank_115 rfl)
  · skip
    refine W_ite (fun h10 => ?_) (fun h10 => ?_)
    · refine W_s (s_if_ne_f dX12_blank_28 rfl h10) ?_
      refine W_s (s_bipush dX12_blank_31 kcb_12) ?_
      refine W_s (s_goto dX12_blank_33 rfl) ?_
      exact W_wk (hJ9 12 μ8) (le_s rfl (le_s rfl le_n))
    · refine W_s (s_if_ne_t dX12_blank_28 rfl h10) ?_
      refine W_s (s_iload_n dX12_blank_36 rfl rfl) ?_
      refine W_s (s_iconst dX12_blank_37 kci_3) ?_
      refine W_ite (fun h11 => ?_) (fun h11 => ?_)
      · refine W_s (s_icmp_ne_f dX12_blank_38 rfl h11) ?_
        refine W_s (s_iconst dX12_blank_41 kci_3) ?_
        refine W_s (s_goto dX12_blank_42 rfl) ?_
        exact W_wk (hJ9 3 μ8) (le_s rfl (le_s rfl le_n))
      · refine W_s (s_icmp_ne_t dX12_blank_38 rfl h11) ?_
        refine W_s (s_iconst dX12_blank_45 kci_0) ?_
        exact W_wk (hJ9 0 μ8) (le_s rfl (le_s rfl le_n))

def L_X12_store_3 (p2 : Int32) (p3 : Int32) (n1 : Nat) (a1 : Nat) (k3 : gx_M → Option (Unit × gx_M)) : Nat → Int32 → gx_M → Option (Unit × gx_M)
  | 0, _, _ => none
  | n + 1, v4_1, μ2 => if p2 ≤ v4_1 then k3 μ2 else gx_ck (gx_ix v4_1 161 = true) (gx_ck (gx_ix ((p2 * p3) + v4_1) n1 = true) (gx_lt (gx_uI μ2 a1 ((p2 * p3) + v4_1).toNatClampNeg (μ2.1 216 v4_1.toNatClampNeg)) (fun (μ7 : gx_M) => L_X12_store_3 p2 p3 n1 a1 k3 n (v4_1 + 1) μ7)))
def f_X12_store (a1 : Nat) (n1 : Nat) (p2 : Int32) (p3 : Int32) (μ : gx_M) : Option (Unit × gx_M) := L_X12_store_3 p2 p3 n1 a1 (fun (μ9 : gx_M) => some ((), μ9)) 4000 0 μ
theorem okL_X12_store_3 {E : gx_E} {l : Launch} {p2 : Int32} {p3 : Int32} {n1 : Nat} {a1 : Nat} (ha1 : gx_G1[a1]? = some (50, n1, [])) {k3 : gx_M → Option (Unit × gx_M)} (hk : ∀ (μ8 : gx_M), GoW E l Y_X12_store 0 gx_eV 30 [] [] μ8 (k3 μ8)) : ∀ (n : Nat) (v4_1 : Int32) (μ2 : gx_M), GoW E l Y_X12_store 0 gx_eV 3 [some (.ref (E.2.2.1 + 206)), some (.ref (E.2.2.1 + a1)), some (.int p2), some (.int p3), some (.int v4_1)] [] μ2 (L_X12_store_3 p2 p3 n1 a1 k3 n v4_1 μ2) := by
  intro n
  induction n with
  | zero => intros; exact W_no
  | succ n ih =>
    intro v4_1 μ2
    rw [L_X12_store_3.eq_2]
    refine W_s (s_iload dX12_store_3 rfl) ?_
    refine W_s (s_iload_n dX12_store_5 rfl rfl) ?_
    refine W_ite (fun h4 => ?_) (fun h4 => ?_)
    · refine W_s (s_icmp_ge_t dX12_store_6 rfl h4) ?_
      exact W_wk (hk μ2) le_n
    · refine W_s (s_icmp_ge_f dX12_store_6 rfl h4) ?_
      refine W_s (s_aload_n dX12_store_9 rfl rfl) ?_
      refine W_s (s_iload_n dX12_store_10 rfl rfl) ?_
      refine W_s (s_iload_n dX12_store_11 rfl rfl) ?_
      refine W_s (s_imul dX12_store_12) ?_
      refine W_s (s_iload dX12_store_13 rfl) ?_
      refine W_s (s_iadd dX12_store_15) ?_
      refine W_s (s_aload_n dX12_store_16 rfl rfl) ?_
      refine W_s (gf_RX12_38 rfl dX12_store_17) ?_
      refine W_s (s_iload dX12_store_20 rfl) ?_
      refine W_ck (fun h5 => ?_)
      refine W_s (s_iald dX12_store_22 g_216 (gx_ixv h5)) ?_
      refine W_ck (fun h6 => ?_)
      refine W_s (s_iast dX12_store_23 ha1 (gx_ixv h6)) ?_
      refine W_letM (fun μ7 => ?_)
      refine W_s (s_iinc dX12_store_24 rfl (kinc_1 v4_1) (Nat.le_of_ble_eq_true rfl)) ?_
      refine W_s (s_goto dX12_store_27 rfl) ?_
      exact W_wk (ih (v4_1 + 1) μ7) (le_s rfl (le_s rfl (le_s rfl (le_s rfl (le_s rfl le_n)))))
theorem ev_X12_store {E : gx_E} {l : Launch} (a1 : Nat) (n1 : Nat) (p2 : Int32) (p3 : Int32) (ha1 : gx_G1[a1]? = some (50, n1, [])) (μ : gx_M) {r : Unit} {μ' : gx_M} (hr : f_X12_store a1 n1 p2 p3 μ = some (r, μ')) : gEv E l 0 Y_X12_store [.ref (E.2.2.1 + 206), .ref (E.2.2.1 + a1), .int p2, .int p3] gx_G1 μ (gx_eV r) gx_G1 μ' := by
  refine W_ev (by decide) (Nat.le_of_ble_eq_true rfl) (em := gx_eV) (T := f_X12_store a1 n1 p2 p3 μ) ?_ hr
  show GoW E l Y_X12_store 0 gx_eV 0 (gx_el [.ref (E.2.2.1 + 206), .ref (E.2.2.1 + a1), .int p2, .int p3]) [] μ (f_X12_store a1 n1 p2 p3 μ)
  unfold f_X12_store
  refine W_s (s_iconst dX12_store_0 kci_0) ?_
  refine W_s (s_istore dX12_store_1 (Nat.le_of_ble_eq_true rfl)) ?_
  refine W_wk (okL_X12_store_3 ha1 ?_ 4000 0 μ) (le_s rfl (le_s rfl (le_s rfl (le_s rfl (le_s rfl le_n)))))
  intro μ9
  exact W_r (r := ()) (f_void dX12_store_30 rfl)

def f_X12_fault (p1 : Int32) (μ : gx_M) : Option (Int32 × gx_M) := gx_lt (gx_uI μ 206 0 0) (fun (μ1 : gx_M) => if p1 = 0 then some ((μ1.1 209 0), μ1) else if p1 = 1 then some ((μ1.1 210 0), μ1) else some ((-1), μ1))
theorem ev_X12_fault {E : gx_E} {l : Launch} (p1 : Int32) (μ : gx_M) {r : Int32} {μ' : gx_M} (hr : f_X12_fault p1 μ = some (r, μ')) : gEv E l 0 Y_X12_fault [.ref (E.2.2.1 + 206), .int p1] gx_G1 μ (gx_eI r) gx_G1 μ' := by
  refine W_ev (by decide) (Nat.le_of_ble_eq_true rfl) (em := gx_eI) (T := f_X12_fault p1 μ) ?_ hr
  show GoW E l Y_X12_fault 0 gx_eI 0 (gx_el [.ref (E.2.2.1 + 206), .int p1]) [] μ (f_X12_fault p1 μ)
  unfold f_X12_fault
  refine W_s (s_aload_n dX12_fault_0 rfl rfl) ?_
  refine W_s (s_iconst dX12_fault_1 kci_0) ?_
  refine W_s (pf_RX12_100 rfl dX12_fault_2) ?_
  refine W_letM (fun μ1 => ?_)
  refine W_s (s_iload_n dX12_fault_5 rfl rfl) ?_
  refine W_ite (fun h2 => ?_) (fun h2 => ?_)
  · refine W_s (s_if_ne_f dX12_fault_6 rfl h2) ?_
    refine W_s (s_aload_n dX12_fault_9 rfl rfl) ?_
    refine W_s (gf_RX12_17 rfl dX12_fault_10) ?_
    refine W_s (s_iconst dX12_fault_13 kci_0) ?_
    refine W_s (s_ialdL (k := 0) dX12_fault_14 g_209 (gx_inl (by decide)) (by decide)) ?_
    refine W_s (s_goto dX12_fault_15 rfl) ?_
    exact W_r (r := (μ1.1 209 0)) (f_int (ty := .int) dX12_fault_33 rfl rfl)
  · refine W_s (s_if_ne_t dX12_fault_6 rfl h2) ?_
    refine W_s (s_iload_n dX12_fault_18 rfl rfl) ?_
    refine W_s (s_iconst dX12_fault_19 kci_1) ?_
    refine W_ite (fun h3 => ?_) (fun h3 => ?_)
    · refine W_s (s_icmp_ne_f dX12_fault_20 rfl h3) ?_
      refine W_s (s_aload_n dX12_fault_23 rfl rfl) ?_
      refine W_s (gf_RX12_20 rfl dX12_fault_24) ?_
      refine W_s (s_iconst dX12_fault_27 kci_0) ?_
      refine W_s (s_ialdL (k := 0) dX12_fault_28 g_210 (gx_inl (by decide)) (by decide)) ?_
      refine W_s (s_goto dX12_fault_29 rfl) ?_
      exact W_r (r := (μ1.1 210 0)) (f_int (ty := .int) dX12_fault_33 rfl rfl)
    · refine W_s (s_icmp_ne_t dX12_fault_20 rfl h3) ?_
      refine W_s (s_iconst dX12_fault_32 kci_m1) ?_
      exact W_r (r := (-1)) (f_int (ty := .int) dX12_fault_33 rfl rfl)

def f_X12_of (p1 : Int32) (μ : gx_M) : Option Int32 := gx_ck (gx_ix (((111 : Int32) * (μ.1 206 24)) + p1) 888 = true) (some (μ.1 212 (((111 : Int32) * (μ.1 206 24)) + p1).toNatClampNeg))
theorem ev_X12_of {E : gx_E} {l : Launch} (p1 : Int32) (μ : gx_M) {r : Int32} (hr : f_X12_of p1 μ = some r) : gEv E l 0 Y_X12_of [.ref (E.2.2.1 + 206), .int p1] gx_G1 μ (gx_eI r) gx_G1 μ := by
  refine R_ev (by decide) (Nat.le_of_ble_eq_true rfl) (em := gx_eI) (T := f_X12_of p1 μ) ?_ hr
  show GoR E l Y_X12_of 0 gx_eI 0 (gx_el [.ref (E.2.2.1 + 206), .int p1]) [] μ (f_X12_of p1 μ)
  unfold f_X12_of
  refine R_s (s_aload_n dX12_of_0 rfl rfl) ?_
  refine R_s (gf_RX12_26 rfl dX12_of_1) ?_
  refine R_s (s_bipush dX12_of_4 kcb_111) ?_
  refine R_s (s_aload_n dX12_of_6 rfl rfl) ?_
  refine R_s (gf_RX12_276 rfl dX12_of_7) ?_
  refine R_s (s_imul dX12_of_10) ?_
  refine R_s (s_iload_n dX12_of_11 rfl rfl) ?_
  refine R_s (s_iadd dX12_of_12) ?_
  refine R_ck (fun h1 => ?_)
  refine R_s (s_iald dX12_of_13 g_212 (gx_ixv h1)) ?_
  exact R_r (r := (μ.1 212 (((111 : Int32) * (μ.1 206 24)) + p1).toNatClampNeg)) (f_int (ty := .int) dX12_of_14 rfl rfl)

def f_X12_deeds (μ : gx_M) : Option Int32 := gx_ck (gx_ix ((161 : Int32) * (μ.1 206 33)) 1288 = true) (some (μ.1 213 ((161 : Int32) * (μ.1 206 33)).toNatClampNeg))
theorem ev_X12_deeds {E : gx_E} {l : Launch} (μ : gx_M) {r : Int32} (hr : f_X12_deeds μ = some r) : gEv E l 0 Y_X12_deeds [.ref (E.2.2.1 + 206)] gx_G1 μ (gx_eI r) gx_G1 μ := by
  refine R_ev (by decide) (Nat.le_of_ble_eq_true rfl) (em := gx_eI) (T := f_X12_deeds μ) ?_ hr
  show GoR E l Y_X12_deeds 0 gx_eI 0 (gx_el [.ref (E.2.2.1 + 206)]) [] μ (f_X12_deeds μ)
  unfold f_X12_deeds
  refine R_s (s_aload_n dX12_deeds_0 rfl rfl) ?_
  refine R_s (gf_RX12_29 rfl dX12_deeds_1) ?_
  refine R_s (s_sipush dX12_deeds_4 kcs_161) ?_
  refine R_s (s_aload_n dX12_deeds_7 rfl rfl) ?_
  refine R_s (gf_RX12_301 rfl dX12_deeds_8) ?_
  refine R_s (s_imul dX12_deeds_11) ?_
  refine R_ck (fun h1 => ?_)
  refine R_s (s_iald dX12_deeds_12 g_213 (gx_ixv h1)) ?_
  exact R_r (r := (μ.1 213 ((161 : Int32) * (μ.1 206 33)).toNatClampNeg)) (f_int (ty := .int) dX12_deeds_13 rfl rfl)

def f_X12_deedOf (p1 : Int32) (p2 : Int32) (μ : gx_M) : Option Int32 := gx_ck (gx_ix (((((161 : Int32) * (μ.1 206 33)) + 1) + ((4 : Int32) * p1)) + p2) 1288 = true) (some (μ.1 213 (((((161 : Int32) * (μ.1 206 33)) + 1) + ((4 : Int32) * p1)) + p2).toNatClampNeg))
theorem ev_X12_deedOf {E : gx_E} {l : Launch} (p1 : Int32) (p2 : Int32) (μ : gx_M) {r : Int32} (hr : f_X12_deedOf p1 p2 μ = some r) : gEv E l 0 Y_X12_deedOf [.ref (E.2.2.1 + 206), .int p1, .int p2] gx_G1 μ (gx_eI r) gx_G1 μ := by
  refine R_ev (by decide) (Nat.le_of_ble_eq_true rfl) (em := gx_eI) (T := f_X12_deedOf p1 p2 μ) ?_ hr
  show GoR E l Y_X12_deedOf 0 gx_eI 0 (gx_el [.ref (E.2.2.1 + 206), .int p1, .int p2]) [] μ (f_X12_deedOf p1 p2 μ)
  unfold f_X12_deedOf
  refine R_s (s_aload_n dX12_deedOf_0 rfl rfl) ?_
  refine R_s (gf_RX12_29 rfl dX12_deedOf_1) ?_
  refine R_s (s_sipush dX12_deedOf_4 kcs_161) ?_
  refine R_s (s_aload_n dX12_deedOf_7 rfl rfl) ?_
  refine R_s (gf_RX12_301 rfl dX12_deedOf_8) ?_
  refine R_s (s_imul dX12_deedOf_11) ?_
  refine R_s (s_iconst dX12_deedOf_12 kci_1) ?_
  refine R_s (s_iadd dX12_deedOf_13) ?_
  refine R_s (s_iconst dX12_deedOf_14 kci_4) ?_
  refine R_s (s_iload_n dX12_deedOf_15 rfl rfl) ?_
  refine R_s (s_imul dX12_deedOf_16) ?_
  refine R_s (s_iadd dX12_deedOf_17) ?_
  refine R_s (s_iload_n dX12_deedOf_18 rfl rfl) ?_
  refine R_s (s_iadd dX12_deedOf_19) ?_
  refine R_ck (fun h1 => ?_)
  refine R_s (s_iald dX12_deedOf_20 g_213 (gx_ixv h1)) ?_
  exact R_r (r := (μ.1 213 (((((161 : Int32) * (μ.1 206 33)) + 1) + ((4 : Int32) * p1)) + p2).toNatClampNeg)) (f_int (ty := .int) dX12_deedOf_21 rfl rfl)

def L_X12_opens_7 (k4 : gx_M → Option (Unit × gx_M)) : Nat → Int32 → gx_M → Option (Unit × gx_M)
  | 0, _, _ => none
  | n + 1, v1_2, μ3 => if 4 ≤ v1_2 then k4 μ3 else gx_ck (gx_ix v1_2 4 = true) (gx_lt (gx_uI μ3 223 v1_2.toNatClampNeg 0) (fun (μ7 : gx_M) => L_X12_opens_7 k4 n (v1_2 + 1) μ7))
def L_X12_opens_27 (k12 : gx_M → Option (Unit × gx_M)) : Nat → Int32 → gx_M → Option (Unit × gx_M)
  | 0, _, _ => none
  | n + 1, v1_10, μ11 => if 40 ≤ v1_10 then k12 μ11 else gx_ck (gx_ix v1_10 40 = true) (gx_lt (gx_uI μ11 224 v1_10.toNatClampNeg 0) (fun (μ15 : gx_M) => L_X12_opens_27 k12 n (v1_10 + 1) μ15))
def f_X12_opens (μ : gx_M) : Option (Unit × gx_M) := gx_lt (gx_uI μ 206 34 (-1)) (fun (μ1 : gx_M) => L_X12_opens_7 (fun (μ9 : gx_M) => L_X12_opens_27 (fun (μ17 : gx_M) => some ((), μ17)) 4000 0 μ9) 4000 0 μ1)
theorem okL_X12_opens_7 {E : gx_E} {l : Launch} {k4 : gx_M → Option (Unit × gx_M)} (hk : ∀ (μ8 : gx_M), GoW E l Y_X12_opens 0 gx_eV 25 [some (.ref (E.2.2.1 + 206))] [] μ8 (k4 μ8)) : ∀ (n : Nat) (v1_2 : Int32) (μ3 : gx_M), GoW E l Y_X12_opens 0 gx_eV 7 [some (.ref (E.2.2.1 + 206)), some (.int v1_2)] [] μ3 (L_X12_opens_7 k4 n v1_2 μ3) := by
  intro n
  induction n with
  | zero => intros; exact W_no
  | succ n ih =>
    intro v1_2 μ3
    rw [L_X12_opens_7.eq_2]
    refine W_s (s_iload_n dX12_opens_7 rfl rfl) ?_
    refine W_s (s_iconst dX12_opens_8 kci_4) ?_
    refine W_ite (fun h5 => ?_) (fun h5 => ?_)
    · refine W_s (s_icmp_ge_t dX12_opens_9 rfl h5) ?_
      exact W_wk (hk μ3) (le_s rfl le_n)
    · refine W_s (s_icmp_ge_f dX12_opens_9 rfl h5) ?_
      refine W_s (s_aload_n dX12_opens_12 rfl rfl) ?_
      refine W_s (gf_RX12_60 rfl dX12_opens_13) ?_
      refine W_s (s_iload_n dX12_opens_16 rfl rfl) ?_
      refine W_s (s_iconst dX12_opens_17 kci_0) ?_
      refine W_ck (fun h6 => ?_)
      refine W_s (s_iast dX12_opens_18 g_223 (gx_ixv h6)) ?_
      refine W_letM (fun μ7 => ?_)
      refine W_s (s_iinc dX12_opens_19 rfl (kinc_1 v1_2) (Nat.le_of_ble_eq_true rfl)) ?_
      refine W_s (s_goto dX12_opens_22 rfl) ?_
      exact W_wk (ih (v1_2 + 1) μ7) (le_s rfl (le_s rfl le_n))
theorem okL_X12_opens_27 {E : gx_E} {l : Launch} {k12 : gx_M → Option (Unit × gx_M)} (hk : ∀ (μ16 : gx_M), GoW E l Y_X12_opens 0 gx_eV 46 [] [] μ16 (k12 μ16)) : ∀ (n : Nat) (v1_10 : Int32) (μ11 : gx_M), GoW E l Y_X12_opens 0 gx_eV 27 [some (.ref (E.2.2.1 + 206)), some (.int v1_10)] [] μ11 (L_X12_opens_27 k12 n v1_10 μ11) := by
  intro n
  induction n with
  | zero => intros; exact W_no
  | succ n ih =>
    intro v1_10 μ11
    rw [L_X12_opens_27.eq_2]
    refine W_s (s_iload_n dX12_opens_27 rfl rfl) ?_
    refine W_s (s_bipush dX12_opens_28 kcb_40) ?_
    refine W_ite (fun h13 => ?_) (fun h13 => ?_)
    · refine W_s (s_icmp_ge_t dX12_opens_30 rfl h13) ?_
      exact W_wk (hk μ11) le_n
    · refine W_s (s_icmp_ge_f dX12_opens_30 rfl h13) ?_
      refine W_s (s_aload_n dX12_opens_33 rfl rfl) ?_
      refine W_s (gf_RX12_63 rfl dX12_opens_34) ?_
      refine W_s (s_iload_n dX12_opens_37 rfl rfl) ?_
      refine W_s (s_iconst dX12_opens_38 kci_0) ?_
      refine W_ck (fun h14 => ?_)
      refine W_s (s_iast dX12_opens_39 g_224 (gx_ixv h14)) ?_
      refine W_letM (fun μ15 => ?_)
      refine W_s (s_iinc dX12_opens_40 rfl (kinc_1 v1_10) (Nat.le_of_ble_eq_true rfl)) ?_
      refine W_s (s_goto dX12_opens_43 rfl) ?_
      exact W_wk (ih (v1_10 + 1) μ15) (le_s rfl (le_s rfl le_n))
theorem ev_X12_opens {E : gx_E} {l : Launch} (μ : gx_M) {r : Unit} {μ' : gx_M} (hr : f_X12_opens μ = some (r, μ')) : gEv E l 0 Y_X12_opens [.ref (E.2.2.1 + 206)] gx_G1 μ (gx_eV r) gx_G1 μ' := by
  refine W_ev (by decide) (Nat.le_of_ble_eq_true rfl) (em := gx_eV) (T := f_X12_opens μ) ?_ hr
  show GoW E l Y_X12_opens 0 gx_eV 0 (gx_el [.ref (E.2.2.1 + 206)]) [] μ (f_X12_opens μ)
  unfold f_X12_opens
  refine W_s (s_aload_n dX12_opens_0 rfl rfl) ?_
  refine W_s (s_iconst dX12_opens_1 kci_m1) ?_
  refine W_s (pf_RX12_313 rfl dX12_opens_2) ?_
  refine W_letM (fun μ1 => ?_)
  refine W_s (s_iconst dX12_opens_5 kci_0) ?_
  refine W_s (s_istore_n dX12_opens_6 rfl (Nat.le_of_ble_eq_true rfl)) ?_
  refine W_wk (okL_X12_opens_7 ?_ 4000 0 μ1) (le_s rfl (le_s rfl le_n))
  intro μ9
  refine W_s (s_iconst dX12_opens_25 kci_0) ?_
  refine W_s (s_istore_n dX12_opens_26 rfl (Nat.le_of_ble_eq_true rfl)) ?_
  refine W_wk (okL_X12_opens_27 ?_ 4000 0 μ9) (le_s rfl (le_s rfl le_n))
  intro μ17
  exact W_r (r := ()) (f_void dX12_opens_46 rfl)

def f_X12_buys (p1 : Int32) (p2 : Int32) (μ : gx_M) : Option (Bool × gx_M) := gx_ck (gx_ix p2 40 = true) (if (μ.1 220 p2.toNatClampNeg) = p1 then some (false, μ) else gx_ck (gx_ix p1 4 = true) (if (μ.1 219 p2.toNatClampNeg) ≤ (μ.1 218 p1.toNatClampNeg) then gx_lt (gx_uI μ 218 p1.toNatClampNeg ((μ.1 218 p1.toNatClampNeg) - (μ.1 219 p2.toNatClampNeg))) (fun (μ5 : gx_M) => gx_lt (fun (μ10 : gx_M) => gx_lt (gx_uI μ10 220 p2.toNatClampNeg p1) (fun (μ11 : gx_M) => gx_lt (gx_uI μ11 224 p2.toNatClampNeg ((μ11.1 224 p2.toNatClampNeg) + 1)) (fun (μ12 : gx_M) => some (true, μ12)))) (fun J6 => if (μ5.1 220 p2.toNatClampNeg) = (-1) then J6 μ5 else gx_ck (gx_ix (μ5.1 220 p2.toNatClampNeg) 4 = true) (gx_lt (gx_uI μ5 218 (μ5.1 220 p2.toNatClampNeg).toNatClampNeg ((μ5.1 218 (μ5.1 220 p2.toNatClampNeg).toNatClampNeg) + (μ5.1 219 p2.toNatClampNeg))) (fun (μ9 : gx_M) => J6 μ9)))) else some (false, μ)))
theorem ev_X12_buys {E : gx_E} {l : Launch} (p1 : Int32) (p2 : Int32) (μ : gx_M) {r : Bool} {μ' : gx_M} (hr : f_X12_buys p1 p2 μ = some (r, μ')) : gEv E l 0 Y_X12_buys [.ref (E.2.2.1 + 206), .int p1, .int p2] gx_G1 μ (gx_eB r) gx_G1 μ' := by
  refine W_ev (by decide) (Nat.le_of_ble_eq_true rfl) (em := gx_eB) (T := f_X12_buys p1 p2 μ) ?_ hr
  show GoW E l Y_X12_buys 0 gx_eB 0 (gx_el [.ref (E.2.2.1 + 206), .int p1, .int p2]) [] μ (f_X12_buys p1 p2 μ)
  unfold f_X12_buys
  refine W_s (s_aload_n dX12_buys_0 rfl rfl) ?_
  refine W_s (gf_RX12_50 rfl dX12_buys_1) ?_
  refine W_s (s_iload_n dX12_buys_4 rfl rfl) ?_
  refine W_ck (fun h1 => ?_)
  refine W_s (s_iald dX12_buys_5 g_220 (gx_ixv h1)) ?_
  refine W_s (s_iload_n dX12_buys_6 rfl rfl) ?_
  refine W_ite (fun h2 => ?_) (fun h2 => ?_)
  · refine W_s (s_icmp_eq_t dX12_buys_7 rfl h2) ?_
    refine W_s (s_iconst dX12_buys_25 kci_0) ?_
    exact W_r (r := false) (f_int (ty := .boolean) (x := gx_bi false) dX12_buys_26 rfl (gx_bn false))
  · refine W_s (s_icmp_eq_f dX12_buys_7 rfl h2) ?_
    refine W_s (s_aload_n dX12_buys_10 rfl rfl) ?_
    refine W_s (gf_RX12_44 rfl dX12_buys_11) ?_
    refine W_s (s_iload_n dX12_buys_14 rfl rfl) ?_
    refine W_ck (fun h3 => ?_)
    refine W_s (s_iald dX12_buys_15 g_218 (gx_ixv h3)) ?_
    refine W_s (s_aload_n dX12_buys_16 rfl rfl) ?_
    refine W_s (gf_RX12_47 rfl dX12_buys_17) ?_
    refine W_s (s_iload_n dX12_buys_20 rfl rfl) ?_
    refine W_s (s_iald dX12_buys_21 g_219 (gx_ixv h1)) ?_
    refine W_ite (fun h4 => ?_) (fun h4 => ?_)
    · refine W_s (s_icmp_ge_t dX12_buys_22 rfl h4) ?_
      refine W_s (s_aload_n dX12_buys_27 rfl rfl) ?_
      refine W_s (gf_RX12_44 rfl dX12_buys_28) ?_
      refine W_s (s_iload_n dX12_buys_31 rfl rfl) ?_
      refine W_s (s_dup2 dX12_buys_32 rfl rfl) ?_
      refine W_s (s_iald dX12_buys_33 g_218 (gx_ixv h3)) ?_
      refine W_s (s_aload_n dX12_buys_34 rfl rfl) ?_
      refine W_s (gf_RX12_47 rfl dX12_buys_35) ?_
      refine W_s (s_iload_n dX12_buys_38 rfl rfl) ?_
      refine W_s (s_iald dX12_buys_39 g_219 (gx_ixv h1)) ?_
      refine W_s (s_isub dX12_buys_40) ?_
      refine W_s (s_iast dX12_buys_41 g_218 (gx_ixv h3)) ?_
      refine W_letM (fun μ5 => ?_)
      refine W_s (s_aload_n dX12_buys_42 rfl rfl) ?_
      refine W_s (gf_RX12_50 rfl dX12_buys_43) ?_
      refine W_s (s_iload_n dX12_buys_46 rfl rfl) ?_
      refine W_s (s_iald dX12_buys_47 g_220 (gx_ixv h1)) ?_
      refine W_s (s_iconst dX12_buys_48 kci_m1) ?_
      refine W_fun (fun J => ∀ (μ10 : gx_M), GoW E l Y_X12_buys 0 gx_eB 72 [some (.ref (E.2.2.1 + 206)), some (.int p1), some (.int p2)] [] μ10 (J μ10)) ?_ (fun J6 hJ6 => ?_)
      · intro μ10
        refine W_s (s_aload_n dX12_buys_72 rfl rfl) ?_
        refine W_s (gf_RX12_50 rfl dX12_buys_73) ?_
        refine W_s (s_iload_n dX12_buys_76 rfl rfl) ?_
        refine W_s (s_iload_n dX12_buys_77 rfl rfl) ?_
        refine W_s (s_iast dX12_buys_78 g_220 (gx_ixv h1)) ?_
        refine W_letM (fun μ11 => ?_)
        refine W_s (s_aload_n dX12_buys_79 rfl rfl) ?_
        refine W_s (gf_RX12_63 rfl dX12_buys_80) ?_
        refine W_s (s_iload_n dX12_buys_83 rfl rfl) ?_
        refine W_s (s_dup2 dX12_buys_84 rfl rfl) ?_
        refine W_s (s_iald dX12_buys_85 g_224 (gx_ixv h1)) ?_
        refine W_s (s_iconst dX12_buys_86 kci_1) ?_
        refine W_s (s_iadd dX12_buys_87) ?_
        refine W_s (s_iast dX12_buys_88 g_224 (gx_ixv h1)) ?_
        refine W_letM (fun μ12 => ?_)
        refine W_s (s_iconst dX12_buys_89 kci_1) ?_
        exact W_r (r := true) (f_int (ty := .boolean) (x := gx_bi true) dX12_buys_90 rfl (gx_bn true))
      · skip
        refine W_ite (fun h7 => ?_) (fun h7 => ?_)
        · refine W_s (s_icmp_eq_t dX12_buys_49 rfl h7) ?_
          exact W_wk (hJ6 μ5) (le_s rfl (le_s rfl (le_s rfl le_n)))
        · refine W_s (s_icmp_eq_f dX12_buys_49 rfl h7) ?_
          refine W_s (s_aload_n dX12_buys_52 rfl rfl) ?_
          refine W_s (gf_RX12_44 rfl dX12_buys_53) ?_
          refine W_s (s_aload_n dX12_buys_56 rfl rfl) ?_
          refine W_s (gf_RX12_50 rfl dX12_buys_57) ?_
          refine W_s (s_iload_n dX12_buys_60 rfl rfl) ?_
          refine W_s (s_iald dX12_buys_61 g_220 (gx_ixv h1)) ?_
          refine W_s (s_dup2 dX12_buys_62 rfl rfl) ?_
          refine W_ck (fun h8 => ?_)
          refine W_s (s_iald dX12_buys_63 g_218 (gx_ixv h8)) ?_
          refine W_s (s_aload_n dX12_buys_64 rfl rfl) ?_
          refine W_s (gf_RX12_47 rfl dX12_buys_65) ?_
          refine W_s (s_iload_n dX12_buys_68 rfl rfl) ?_
          refine W_s (s_iald dX12_buys_69 g_219 (gx_ixv h1)) ?_
          refine W_s (s_iadd dX12_buys_70) ?_
          refine W_s (s_iast dX12_buys_71 g_218 (gx_ixv h8)) ?_
          refine W_letM (fun μ9 => ?_)
          exact W_wk (hJ6 μ9) (le_s rfl (le_s rfl (le_s rfl le_n)))
    · refine W_s (s_icmp_ge_f dX12_buys_22 rfl h4) ?_
      refine W_s (s_iconst dX12_buys_25 kci_0) ?_
      exact W_r (r := false) (f_int (ty := .boolean) (x := gx_bi false) dX12_buys_26 rfl (gx_bn false))

def f_X12_steals (p1 : Int32) (p2 : Int32) (μ : gx_M) : Option (Bool × gx_M) := gx_ck (gx_ix p2 40 = true) (if (μ.1 220 p2.toNatClampNeg) = (-1) then some (false, μ) else if (μ.1 220 p2.toNatClampNeg) = p1 then some (false, μ) else gx_ck (gx_ix (μ.1 220 p2.toNatClampNeg) 4 = true) (gx_lt (gx_uI μ 223 (μ.1 220 p2.toNatClampNeg).toNatClampNeg ((μ.1 223 (μ.1 220 p2.toNatClampNeg).toNatClampNeg) + 1)) (fun (μ5 : gx_M) => gx_lt (gx_uI μ5 220 p2.toNatClampNeg p1) (fun (μ6 : gx_M) => gx_lt (gx_uI μ6 224 p2.toNatClampNeg ((μ6.1 224 p2.toNatClampNeg) + 1)) (fun (μ7 : gx_M) => some (true, μ7))))))
theorem ev_X12_steals {E : gx_E} {l : Launch} (p1 : Int32) (p2 : Int32) (μ : gx_M) {r : Bool} {μ' : gx_M} (hr : f_X12_steals p1 p2 μ = some (r, μ')) : gEv E l 0 Y_X12_steals [.ref (E.2.2.1 + 206), .int p1, .int p2] gx_G1 μ (gx_eB r) gx_G1 μ' := by
  refine W_ev (by decide) (Nat.le_of_ble_eq_true rfl) (em := gx_eB) (T := f_X12_steals p1 p2 μ) ?_ hr
  show GoW E l Y_X12_steals 0 gx_eB 0 (gx_el [.ref (E.2.2.1 + 206), .int p1, .int p2]) [] μ (f_X12_steals p1 p2 μ)
  unfold f_X12_steals
  refine W_s (s_aload_n dX12_steals_0 rfl rfl) ?_
  refine W_s (gf_RX12_50 rfl dX12_steals_1) ?_
  refine W_s (s_iload_n dX12_steals_4 rfl rfl) ?_
  refine W_ck (fun h1 => ?_)
  refine W_s (s_iald dX12_steals_5 g_220 (gx_ixv h1)) ?_
  refine W_s (s_iconst dX12_steals_6 kci_m1) ?_
  refine W_ite (fun h2 => ?_) (fun h2 => ?_)
  · refine W_s (s_icmp_eq_t dX12_steals_7 rfl h2) ?_
    refine W_s (s_iconst dX12_steals_20 kci_0) ?_
    exact W_r (r := false) (f_int (ty := .boolean) (x := gx_bi false) dX12_steals_21 rfl (gx_bn false))
  · refine W_s (s_icmp_eq_f dX12_steals_7 rfl h2) ?_
    refine W_s (s_aload_n dX12_steals_10 rfl rfl) ?_
    refine W_s (gf_RX12_50 rfl dX12_steals_11) ?_
    refine W_s (s_iload_n dX12_steals_14 rfl rfl) ?_
    refine W_s (s_iald dX12_steals_15 g_220 (gx_ixv h1)) ?_
    refine W_s (s_iload_n dX12_steals_16 rfl rfl) ?_
    refine W_ite (fun h3 => ?_) (fun h3 => ?_)
    · refine W_s (s_icmp_ne_f dX12_steals_17 rfl h3) ?_
      refine W_s (s_iconst dX12_steals_20 kci_0) ?_
      exact W_r (r := false) (f_int (ty := .boolean) (x := gx_bi false) dX12_steals_21 rfl (gx_bn false))
    · refine W_s (s_icmp_ne_t dX12_steals_17 rfl h3) ?_
      refine W_s (s_aload_n dX12_steals_22 rfl rfl) ?_
      refine W_s (gf_RX12_60 rfl dX12_steals_23) ?_
      refine W_s (s_aload_n dX12_steals_26 rfl rfl) ?_
      refine W_s (gf_RX12_50 rfl dX12_steals_27) ?_
      refine W_s (s_iload_n dX12_steals_30 rfl rfl) ?_
      refine W_s (s_iald dX12_steals_31 g_220 (gx_ixv h1)) ?_
      refine W_s (s_dup2 dX12_steals_32 rfl rfl) ?_
      refine W_ck (fun h4 => ?_)
      refine W_s (s_iald dX12_steals_33 g_223 (gx_ixv h4)) ?_
      refine W_s (s_iconst dX12_steals_34 kci_1) ?_
      refine W_s (s_iadd dX12_steals_35) ?_
      refine W_s (s_iast dX12_steals_36 g_223 (gx_ixv h4)) ?_
      refine W_letM (fun μ5 => ?_)
      refine W_s (s_aload_n dX12_steals_37 rfl rfl) ?_
      refine W_s (gf_RX12_50 rfl dX12_steals_38) ?_
      refine W_s (s_iload_n dX12_steals_41 rfl rfl) ?_
      refine W_s (s_iload_n dX12_steals_42 rfl rfl) ?_
      refine W_s (s_iast dX12_steals_43 g_220 (gx_ixv h1)) ?_
      refine W_letM (fun μ6 => ?_)
      refine W_s (s_aload_n dX12_steals_44 rfl rfl) ?_
      refine W_s (gf_RX12_63 rfl dX12_steals_45) ?_
      refine W_s (s_iload_n dX12_steals_48 rfl rfl) ?_
      refine W_s (s_dup2 dX12_steals_49 rfl rfl) ?_
      refine W_s (s_iald dX12_steals_50 g_224 (gx_ixv h1)) ?_
      refine W_s (s_iconst dX12_steals_51 kci_1) ?_
      refine W_s (s_iadd dX12_steals_52) ?_
      refine W_s (s_iast dX12_steals_53 g_224 (gx_ixv h1)) ?_
      refine W_letM (fun μ7 => ?_)
      refine W_s (s_iconst dX12_steals_54 kci_1) ?_
      exact W_r (r := true) (f_int (ty := .boolean) (x := gx_bi true) dX12_steals_55 rfl (gx_bn true))

def f_X12_sells (p1 : Int32) (p2 : Int32) (μ : gx_M) : Option (Bool × gx_M) := gx_ck (gx_ix p2 40 = true) (if (μ.1 220 p2.toNatClampNeg) = p1 then gx_lt (gx_uI μ 220 p2.toNatClampNeg (-1)) (fun (μ3 : gx_M) => gx_ck (gx_ix p1 4 = true) (gx_lt (gx_uI μ3 218 p1.toNatClampNeg ((μ3.1 218 p1.toNatClampNeg) + (μ3.1 219 p2.toNatClampNeg))) (fun (μ5 : gx_M) => gx_lt (gx_uI μ5 224 p2.toNatClampNeg ((μ5.1 224 p2.toNatClampNeg) + 1)) (fun (μ6 : gx_M) => some (true, μ6))))) else some (false, μ))
theorem ev_X12_sells {E : gx_E} {l : Launch} (p1 : Int32) (p2 : Int32) (μ : gx_M) {r : Bool} {μ' : gx_M} (hr : f_X12_sells p1 p2 μ = some (r, μ')) : gEv E l 0 Y_X12_sells [.ref (E.2.2.1 + 206), .int p1, .int p2] gx_G1 μ (gx_eB r) gx_G1 μ' := by
  refine W_ev (by decide) (Nat.le_of_ble_eq_true rfl) (em := gx_eB) (T := f_X12_sells p1 p2 μ) ?_ hr
  show GoW E l Y_X12_sells 0 gx_eB 0 (gx_el [.ref (E.2.2.1 + 206), .int p1, .int p2]) [] μ (f_X12_sells p1 p2 μ)
  unfold f_X12_sells
  refine W_s (s_aload_n dX12_sells_0 rfl rfl) ?_
  refine W_s (gf_RX12_50 rfl dX12_sells_1) ?_
  refine W_s (s_iload_n dX12_sells_4 rfl rfl) ?_
  refine W_ck (fun h1 => ?_)
  refine W_s (s_iald dX12_sells_5 g_220 (gx_ixv h1)) ?_
  refine W_s (s_iload_n dX12_sells_6 rfl rfl) ?_
  refine W_ite (fun h2 => ?_) (fun h2 => ?_)
  · refine W_s (s_icmp_eq_t dX12_sells_7 rfl h2) ?_
    refine W_s (s_aload_n dX12_sells_12 rfl rfl) ?_
    refine W_s (gf_RX12_50 rfl dX12_sells_13) ?_
    refine W_s (s_iload_n dX12_sells_16 rfl rfl) ?_
    refine W_s (s_iconst dX12_sells_17 kci_m1) ?_
    refine W_s (s_iast dX12_sells_18 g_220 (gx_ixv h1)) ?_
    refine W_letM (fun μ3 => ?_)
    refine W_s (s_aload_n dX12_sells_19 rfl rfl) ?_
    refine W_s (gf_RX12_44 rfl dX12_sells_20) ?_
    refine W_s (s_iload_n dX12_sells_23 rfl rfl) ?_
    refine W_s (s_dup2 dX12_sells_24 rfl rfl) ?_
    refine W_ck (fun h4 => ?_)
    refine W_s (s_iald dX12_sells_25 g_218 (gx_ixv h4)) ?_
    refine W_s (s_aload_n dX12_sells_26 rfl rfl) ?_
    refine W_s (gf_RX12_47 rfl dX12_sells_27) ?_
    refine W_s (s_iload_n dX12_sells_30 rfl rfl) ?_
    refine W_s (s_iald dX12_sells_31 g_219 (gx_ixv h1)) ?_
    refine W_s (s_iadd dX12_sells_32) ?_
    refine W_s (s_iast dX12_sells_33 g_218 (gx_ixv h4)) ?_
    refine W_letM (fun μ5 => ?_)
    refine W_s (s_aload_n dX12_sells_34 rfl rfl) ?_
    refine W_s (gf_RX12_63 rfl dX12_sells_35) ?_
    refine W_s (s_iload_n dX12_sells_38 rfl rfl) ?_
    refine W_s (s_dup2 dX12_sells_39 rfl rfl) ?_
    refine W_s (s_iald dX12_sells_40 g_224 (gx_ixv h1)) ?_
    refine W_s (s_iconst dX12_sells_41 kci_1) ?_
    refine W_s (s_iadd dX12_sells_42) ?_
    refine W_s (s_iast dX12_sells_43 g_224 (gx_ixv h1)) ?_
    refine W_letM (fun μ6 => ?_)
    refine W_s (s_iconst dX12_sells_44 kci_1) ?_
    exact W_r (r := true) (f_int (ty := .boolean) (x := gx_bi true) dX12_sells_45 rfl (gx_bn true))
  · refine W_s (s_icmp_eq_f dX12_sells_7 rfl h2) ?_
    refine W_s (s_iconst dX12_sells_10 kci_0) ?_
    exact W_r (r := false) (f_int (ty := .boolean) (x := gx_bi false) dX12_sells_11 rfl (gx_bn false))

def f_X12_thinks (p1 : Int32) (p2 : Int32) (μ : gx_M) : Option (Bool × gx_M) := gx_ck (gx_ix p2 40 = true) (if (μ.1 220 p2.toNatClampNeg) = p1 then gx_lt (gx_uI μ 221 p2.toNatClampNeg (gx_bi true)) (fun (μ3 : gx_M) => if (μ3.1 206 34) = (-1) then gx_lt (gx_uI μ3 206 34 p1) (fun (μ6 : gx_M) => some (true, μ6)) else gx_lt (gx_uI μ3 206 34 (μ3.1 206 34)) (fun (μ5 : gx_M) => some (true, μ5))) else some (false, μ))
theorem ev_X12_thinks {E : gx_E} {l : Launch} (p1 : Int32) (p2 : Int32) (μ : gx_M) {r : Bool} {μ' : gx_M} (hr : f_X12_thinks p1 p2 μ = some (r, μ')) : gEv E l 0 Y_X12_thinks [.ref (E.2.2.1 + 206), .int p1, .int p2] gx_G1 μ (gx_eB r) gx_G1 μ' := by
  refine W_ev (by decide) (Nat.le_of_ble_eq_true rfl) (em := gx_eB) (T := f_X12_thinks p1 p2 μ) ?_ hr
  show GoW E l Y_X12_thinks 0 gx_eB 0 (gx_el [.ref (E.2.2.1 + 206), .int p1, .int p2]) [] μ (f_X12_thinks p1 p2 μ)
  unfold f_X12_thinks
  refine W_s (s_aload_n dX12_thinks_0 rfl rfl) ?_
  refine W_s (gf_RX12_50 rfl dX12_thinks_1) ?_
  refine W_s (s_iload_n dX12_thinks_4 rfl rfl) ?_
  refine W_ck (fun h1 => ?_)
  refine W_s (s_iald dX12_thinks_5 g_220 (gx_ixv h1)) ?_
  refine W_s (s_iload_n dX12_thinks_6 rfl rfl) ?_
  refine W_ite (fun h2 => ?_) (fun h2 => ?_)
  · refine W_s (s_icmp_eq_t dX12_thinks_7 rfl h2) ?_
    refine W_s (s_aload_n dX12_thinks_12 rfl rfl) ?_
    refine W_s (gf_RX12_53 rfl dX12_thinks_13) ?_
    refine W_s (s_iload_n dX12_thinks_16 rfl rfl) ?_
    refine W_s (s_iconst dX12_thinks_17 kci_1) ?_
    refine W_s (s_zastB (b := true) dX12_thinks_18 g_221 (gx_ixv h1)) ?_
    refine W_letM (fun μ3 => ?_)
    refine W_s (s_aload_n dX12_thinks_19 rfl rfl) ?_
    refine W_s (s_aload_n dX12_thinks_20 rfl rfl) ?_
    refine W_s (gf_RX12_313 rfl dX12_thinks_21) ?_
    refine W_s (s_iconst dX12_thinks_24 kci_m1) ?_
    refine W_ite (fun h4 => ?_) (fun h4 => ?_)
    · refine W_s (s_icmp_ne_f dX12_thinks_25 rfl h4) ?_
      refine W_s (s_iload_n dX12_thinks_28 rfl rfl) ?_
      refine W_s (s_goto dX12_thinks_29 rfl) ?_
      refine W_s (pf_RX12_313 rfl dX12_thinks_36) ?_
      refine W_letM (fun μ6 => ?_)
      refine W_s (s_iconst dX12_thinks_39 kci_1) ?_
      exact W_r (r := true) (f_int (ty := .boolean) (x := gx_bi true) dX12_thinks_40 rfl (gx_bn true))
    · refine W_s (s_icmp_ne_t dX12_thinks_25 rfl h4) ?_
      refine W_s (s_aload_n dX12_thinks_32 rfl rfl) ?_
      refine W_s (gf_RX12_313 rfl dX12_thinks_33) ?_
      refine W_s (pf_RX12_313 rfl dX12_thinks_36) ?_
      refine W_letM (fun μ5 => ?_)
      refine W_s (s_iconst dX12_thinks_39 kci_1) ?_
      exact W_r (r := true) (f_int (ty := .boolean) (x := gx_bi true) dX12_thinks_40 rfl (gx_bn true))
  · refine W_s (s_icmp_eq_f dX12_thinks_7 rfl h2) ?_
    refine W_s (s_iconst dX12_thinks_10 kci_0) ?_
    exact W_r (r := false) (f_int (ty := .boolean) (x := gx_bi false) dX12_thinks_11 rfl (gx_bn false))

def L_X12_minutesOf_4 (μ : gx_M) (p1 : Int32) (k3 : Int32 → Option Int32) : Nat → Int32 → Int32 → Option Int32
  | 0, _, _ => none
  | n + 1, v2_1, v3_2 => if (μ.1 206 25) ≤ v3_2 then k3 v2_1 else gx_ck (gx_ix v3_2 40 = true) (gx_lt (fun (j0_8 : Bool) => gx_lt (v2_1 + (gx_bi j0_8)) (fun (x9 : Int32) => L_X12_minutesOf_4 μ p1 k3 n x9 (v3_2 + 1))) (fun J6 => if (μ.1 220 v3_2.toNatClampNeg) = p1 then J6 true else J6 false))
def f_X12_minutesOf (p1 : Int32) (μ : gx_M) : Option Int32 := L_X12_minutesOf_4 μ p1 (fun (x2_11 : Int32) => some x2_11) 4000 0 0
theorem okL_X12_minutesOf_4 {E : gx_E} {l : Launch} {μ : gx_M} {p1 : Int32} {k3 : Int32 → Option Int32} (hk : ∀ (w10 : Int32), GoR E l Y_X12_minutesOf 0 gx_eI 36 [none, none, some (.int w10)] [] μ (k3 w10)) : ∀ (n : Nat) (v2_1 : Int32) (v3_2 : Int32), GoR E l Y_X12_minutesOf 0 gx_eI 4 [some (.ref (E.2.2.1 + 206)), some (.int p1), some (.int v2_1), some (.int v3_2)] [] μ (L_X12_minutesOf_4 μ p1 k3 n v2_1 v3_2) := by
  intro n
  induction n with
  | zero => intros; exact R_no
  | succ n ih =>
    intro v2_1 v3_2
    rw [L_X12_minutesOf_4.eq_2]
    refine R_s (s_iload_n dX12_minutesOf_4 rfl rfl) ?_
    refine R_s (s_aload_n dX12_minutesOf_5 rfl rfl) ?_
    refine R_s (gf_RX12_283 rfl dX12_minutesOf_6) ?_
    refine R_ite (fun h4 => ?_) (fun h4 => ?_)
    · refine R_s (s_icmp_ge_t dX12_minutesOf_9 rfl h4) ?_
      exact R_wk (hk v2_1) (le_o (le_o (le_s rfl le_n)))
    · refine R_s (s_icmp_ge_f dX12_minutesOf_9 rfl h4) ?_
      refine R_s (s_iload_n dX12_minutesOf_12 rfl rfl) ?_
      refine R_s (s_aload_n dX12_minutesOf_13 rfl rfl) ?_
      refine R_s (gf_RX12_50 rfl dX12_minutesOf_14) ?_
      refine R_s (s_iload_n dX12_minutesOf_17 rfl rfl) ?_
      refine R_ck (fun h5 => ?_)
      refine R_s (s_iald dX12_minutesOf_18 g_220 (gx_ixv h5)) ?_
      refine R_s (s_iload_n dX12_minutesOf_19 rfl rfl) ?_
      refine R_fun (fun J => ∀ (j0_8 : Bool), GoR E l Y_X12_minutesOf 0 gx_eI 28 [some (.ref (E.2.2.1 + 206)), some (.int p1), none, some (.int v3_2)] [.int (gx_bi j0_8), .int v2_1] μ (J j0_8)) ?_ (fun J6 hJ6 => ?_)
      · intro j0_8
        refine R_s (s_iadd dX12_minutesOf_28) ?_
        refine R_letI (fun x9 => ?_)
        refine R_s (s_istore_n dX12_minutesOf_29 rfl (Nat.le_of_ble_eq_true rfl)) ?_
        refine R_s (s_iinc dX12_minutesOf_30 rfl (kinc_1 v3_2) (Nat.le_of_ble_eq_true rfl)) ?_
        refine R_s (s_goto dX12_minutesOf_33 rfl) ?_
        exact R_wk (ih x9 (v3_2 + 1)) (le_s rfl (le_s rfl (le_s rfl (le_s rfl le_n))))
      · skip
        refine R_ite (fun h7 => ?_) (fun h7 => ?_)
        · refine R_s (s_icmp_ne_f dX12_minutesOf_20 rfl h7) ?_
          refine R_s (s_iconst dX12_minutesOf_23 kci_1) ?_
          refine R_s (s_goto dX12_minutesOf_24 rfl) ?_
          exact R_wk (hJ6 true) (le_s rfl (le_s rfl (le_o (le_s rfl le_n))))
        · refine R_s (s_icmp_ne_t dX12_minutesOf_20 rfl h7) ?_
          refine R_s (s_iconst dX12_minutesOf_27 kci_0) ?_
          exact R_wk (hJ6 false) (le_s rfl (le_s rfl (le_o (le_s rfl le_n))))
theorem ev_X12_minutesOf {E : gx_E} {l : Launch} (p1 : Int32) (μ : gx_M) {r : Int32} (hr : f_X12_minutesOf p1 μ = some r) : gEv E l 0 Y_X12_minutesOf [.ref (E.2.2.1 + 206), .int p1] gx_G1 μ (gx_eI r) gx_G1 μ := by
  refine R_ev (by decide) (Nat.le_of_ble_eq_true rfl) (em := gx_eI) (T := f_X12_minutesOf p1 μ) ?_ hr
  show GoR E l Y_X12_minutesOf 0 gx_eI 0 (gx_el [.ref (E.2.2.1 + 206), .int p1]) [] μ (f_X12_minutesOf p1 μ)
  unfold f_X12_minutesOf
  refine R_s (s_iconst dX12_minutesOf_0 kci_0) ?_
  refine R_s (s_istore_n dX12_minutesOf_1 rfl (Nat.le_of_ble_eq_true rfl)) ?_
  refine R_s (s_iconst dX12_minutesOf_2 kci_0) ?_
  refine R_s (s_istore_n dX12_minutesOf_3 rfl (Nat.le_of_ble_eq_true rfl)) ?_
  refine R_wk (okL_X12_minutesOf_4 ?_ 4000 0 0) (le_s rfl (le_s rfl (le_s rfl (le_s rfl le_n))))
  intro x2_11
  refine R_s (s_iload_n dX12_minutesOf_36 rfl rfl) ?_
  exact R_r (r := x2_11) (f_int (ty := .int) dX12_minutesOf_37 rfl rfl)

def L_X12_ofAll_4 (μ : gx_M) (p1 : Int32) (k3 : Int32 → Option Int32) : Nat → Int32 → Int32 → Option Int32
  | 0, _, _ => none
  | n + 1, v2_1, v3_2 => if (μ.1 206 25) ≤ v3_2 then k3 v2_1 else if p1 = 0 then gx_ck (gx_ix v3_2 40 = true) (gx_lt (fun (j0_9 : Bool) => gx_lt (v2_1 + (gx_bi j0_9)) (fun (x10 : Int32) => L_X12_ofAll_4 μ p1 k3 n x10 (v3_2 + 1))) (fun J7 => if (μ.1 221 v3_2.toNatClampNeg) = 0 then J7 false else J7 true)) else k3 v2_1
def L_X12_ofAll_41 (μ : gx_M) (p1 : Int32) (k15 : Int32 → Option Int32) : Nat → Int32 → Int32 → Option Int32
  | 0, _, _ => none
  | n + 1, v2_13, v3_14 => if (μ.1 206 27) ≤ v3_14 then k15 v2_13 else if p1 = 1 then gx_ck (gx_ix v3_14 6 = true) (gx_lt (fun (j0_21 : Bool) => gx_lt (v2_13 + (gx_bi j0_21)) (fun (x22 : Int32) => L_X12_ofAll_41 μ p1 k15 n x22 (v3_14 + 1))) (fun J19 => if (μ.1 222 v3_14.toNatClampNeg) = (-1) then J19 false else J19 true)) else k15 v2_13
def L_X12_ofAll_80 (μ : gx_M) (p1 : Int32) (k27 : Int32 → Option Int32) : Nat → Int32 → Int32 → Option Int32
  | 0, _, _ => none
  | n + 1, v2_25, v3_26 => if (μ.1 206 26) ≤ v3_26 then k27 v2_25 else if p1 = 2 then gx_ck (gx_ix v3_26 4 = true) (gx_lt (v2_25 + (μ.1 218 v3_26.toNatClampNeg)) (fun (x31 : Int32) => L_X12_ofAll_80 μ p1 k27 n x31 (v3_26 + 1))) else k27 v2_25
def f_X12_ofAll (p1 : Int32) (μ : gx_M) : Option Int32 := L_X12_ofAll_4 μ p1 (fun (x2_12 : Int32) => L_X12_ofAll_41 μ p1 (fun (x2_24 : Int32) => L_X12_ofAll_80 μ p1 (fun (x2_33 : Int32) => some x2_33) 4000 x2_24 0) 4000 x2_12 0) 4000 0 0
theorem okL_X12_ofAll_4 {E : gx_E} {l : Launch} {μ : gx_M} {p1 : Int32} {k3 : Int32 → Option Int32} (hk : ∀ (w11 : Int32), GoR E l Y_X12_ofAll 0 gx_eI 39 [some (.ref (E.2.2.1 + 206)), some (.int p1), some (.int w11)] [] μ (k3 w11)) : ∀ (n : Nat) (v2_1 : Int32) (v3_2 : Int32), GoR E l Y_X12_ofAll 0 gx_eI 4 [some (.ref (E.2.2.1 + 206)), some (.int p1), some (.int v2_1), some (.int v3_2)] [] μ (L_X12_ofAll_4 μ p1 k3 n v2_1 v3_2) := by
  intro n
  induction n with
  | zero => intros; exact R_no
  | succ n ih =>
    intro v2_1 v3_2
    rw [L_X12_ofAll_4.eq_2]
    refine R_s (s_iload_n dX12_ofAll_4 rfl rfl) ?_
    refine R_s (s_aload_n dX12_ofAll_5 rfl rfl) ?_
    refine R_s (gf_RX12_283 rfl dX12_ofAll_6) ?_
    refine R_ite (fun h4 => ?_) (fun h4 => ?_)
    · refine R_s (s_icmp_ge_t dX12_ofAll_9 rfl h4) ?_
      exact R_wk (hk v2_1) (le_s rfl (le_s rfl (le_s rfl le_n)))
    · refine R_s (s_icmp_ge_f dX12_ofAll_9 rfl h4) ?_
      refine R_s (s_iload_n dX12_ofAll_12 rfl rfl) ?_
      refine R_ite (fun h5 => ?_) (fun h5 => ?_)
      · refine R_s (s_if_ne_f dX12_ofAll_13 rfl h5) ?_
        refine R_s (s_iload_n dX12_ofAll_16 rfl rfl) ?_
        refine R_s (s_aload_n dX12_ofAll_17 rfl rfl) ?_
        refine R_s (gf_RX12_53 rfl dX12_ofAll_18) ?_
        refine R_s (s_iload_n dX12_ofAll_21 rfl rfl) ?_
        refine R_ck (fun h6 => ?_)
        refine R_s (s_zald dX12_ofAll_22 g_221 (gx_ixv h6)) ?_
        refine R_fun (fun J => ∀ (j0_9 : Bool), GoR E l Y_X12_ofAll 0 gx_eI 31 [some (.ref (E.2.2.1 + 206)), some (.int p1), none, some (.int v3_2)] [.int (gx_bi j0_9), .int v2_1] μ (J j0_9)) ?_ (fun J7 hJ7 => ?_)
        · intro j0_9
          refine R_s (s_iadd dX12_ofAll_31) ?_
          refine R_letI (fun x10 => ?_)
          refine R_s (s_istore_n dX12_ofAll_32 rfl (Nat.le_of_ble_eq_true rfl)) ?_
          refine R_s (s_iinc dX12_ofAll_33 rfl (kinc_1 v3_2) (Nat.le_of_ble_eq_true rfl)) ?_
          refine R_s (s_goto dX12_ofAll_36 rfl) ?_
          exact R_wk (ih x10 (v3_2 + 1)) (le_s rfl (le_s rfl (le_s rfl (le_s rfl le_n))))
        · skip
          refine R_ite (fun h8 => ?_) (fun h8 => ?_)
          · refine R_s (s_if_eq_t dX12_ofAll_23 rfl h8) ?_
            refine R_s (s_iconst dX12_ofAll_30 kci_0) ?_
            exact R_wk (hJ7 false) (le_s rfl (le_s rfl (le_o (le_s rfl le_n))))
          · refine R_s (s_if_eq_f dX12_ofAll_23 rfl h8) ?_
            refine R_s (s_iconst dX12_ofAll_26 kci_1) ?_
            refine R_s (s_goto dX12_ofAll_27 rfl) ?_
            exact R_wk (hJ7 true) (le_s rfl (le_s rfl (le_o (le_s rfl le_n))))
      · refine R_s (s_if_ne_t dX12_ofAll_13 rfl h5) ?_
        exact R_wk (hk v2_1) (le_s rfl (le_s rfl (le_s rfl le_n)))
theorem okL_X12_ofAll_41 {E : gx_E} {l : Launch} {μ : gx_M} {p1 : Int32} {k15 : Int32 → Option Int32} (hk : ∀ (w23 : Int32), GoR E l Y_X12_ofAll 0 gx_eI 78 [some (.ref (E.2.2.1 + 206)), some (.int p1), some (.int w23)] [] μ (k15 w23)) : ∀ (n : Nat) (v2_13 : Int32) (v3_14 : Int32), GoR E l Y_X12_ofAll 0 gx_eI 41 [some (.ref (E.2.2.1 + 206)), some (.int p1), some (.int v2_13), some (.int v3_14)] [] μ (L_X12_ofAll_41 μ p1 k15 n v2_13 v3_14) := by
  intro n
  induction n with
  | zero => intros; exact R_no
  | succ n ih =>
    intro v2_13 v3_14
    rw [L_X12_ofAll_41.eq_2]
    refine R_s (s_iload_n dX12_ofAll_41 rfl rfl) ?_
    refine R_s (s_aload_n dX12_ofAll_42 rfl rfl) ?_
    refine R_s (gf_RX12_289 rfl dX12_ofAll_43) ?_
    refine R_ite (fun h16 => ?_) (fun h16 => ?_)
    · refine R_s (s_icmp_ge_t dX12_ofAll_46 rfl h16) ?_
      exact R_wk (hk v2_13) (le_s rfl (le_s rfl (le_s rfl le_n)))
    · refine R_s (s_icmp_ge_f dX12_ofAll_46 rfl h16) ?_
      refine R_s (s_iload_n dX12_ofAll_49 rfl rfl) ?_
      refine R_s (s_iconst dX12_ofAll_50 kci_1) ?_
      refine R_ite (fun h17 => ?_) (fun h17 => ?_)
      · refine R_s (s_icmp_ne_f dX12_ofAll_51 rfl h17) ?_
        refine R_s (s_iload_n dX12_ofAll_54 rfl rfl) ?_
        refine R_s (s_aload_n dX12_ofAll_55 rfl rfl) ?_
        refine R_s (gf_RX12_57 rfl dX12_ofAll_56) ?_
        refine R_s (s_iload_n dX12_ofAll_59 rfl rfl) ?_
        refine R_ck (fun h18 => ?_)
        refine R_s (s_iald dX12_ofAll_60 g_222 (gx_ixv h18)) ?_
        refine R_s (s_iconst dX12_ofAll_61 kci_m1) ?_
        refine R_fun (fun J => ∀ (j0_21 : Bool), GoR E l Y_X12_ofAll 0 gx_eI 70 [some (.ref (E.2.2.1 + 206)), some (.int p1), none, some (.int v3_14)] [.int (gx_bi j0_21), .int v2_13] μ (J j0_21)) ?_ (fun J19 hJ19 => ?_)
        · intro j0_21
          refine R_s (s_iadd dX12_ofAll_70) ?_
          refine R_letI (fun x22 => ?_)
          refine R_s (s_istore_n dX12_ofAll_71 rfl (Nat.le_of_ble_eq_true rfl)) ?_
          refine R_s (s_iinc dX12_ofAll_72 rfl (kinc_1 v3_14) (Nat.le_of_ble_eq_true rfl)) ?_
          refine R_s (s_goto dX12_ofAll_75 rfl) ?_
          exact R_wk (ih x22 (v3_14 + 1)) (le_s rfl (le_s rfl (le_s rfl (le_s rfl le_n))))
        · skip
          refine R_ite (fun h20 => ?_) (fun h20 => ?_)
          · refine R_s (s_icmp_eq_t dX12_ofAll_62 rfl h20) ?_
            refine R_s (s_iconst dX12_ofAll_69 kci_0) ?_
            exact R_wk (hJ19 false) (le_s rfl (le_s rfl (le_o (le_s rfl le_n))))
          · refine R_s (s_icmp_eq_f dX12_ofAll_62 rfl h20) ?_
            refine R_s (s_iconst dX12_ofAll_65 kci_1) ?_
            refine R_s (s_goto dX12_ofAll_66 rfl) ?_
            exact R_wk (hJ19 true) (le_s rfl (le_s rfl (le_o (le_s rfl le_n))))
      · refine R_s (s_icmp_ne_t dX12_ofAll_51 rfl h17) ?_
        exact R_wk (hk v2_13) (le_s rfl (le_s rfl (le_s rfl le_n)))
theorem okL_X12_ofAll_80 {E : gx_E} {l : Launch} {μ : gx_M} {p1 : Int32} {k27 : Int32 → Option Int32} (hk : ∀ (w32 : Int32), GoR E l Y_X12_ofAll 0 gx_eI 108 [none, none, some (.int w32)] [] μ (k27 w32)) : ∀ (n : Nat) (v2_25 : Int32) (v3_26 : Int32), GoR E l Y_X12_ofAll 0 gx_eI 80 [some (.ref (E.2.2.1 + 206)), some (.int p1), some (.int v2_25), some (.int v3_26)] [] μ (L_X12_ofAll_80 μ p1 k27 n v2_25 v3_26) := by
  intro n
  induction n with
  | zero => intros; exact R_no
  | succ n ih =>
    intro v2_25 v3_26
    rw [L_X12_ofAll_80.eq_2]
    refine R_s (s_iload_n dX12_ofAll_80 rfl rfl) ?_
    refine R_s (s_aload_n dX12_ofAll_81 rfl rfl) ?_
    refine R_s (gf_RX12_286 rfl dX12_ofAll_82) ?_
    refine R_ite (fun h28 => ?_) (fun h28 => ?_)
    · refine R_s (s_icmp_ge_t dX12_ofAll_85 rfl h28) ?_
      exact R_wk (hk v2_25) (le_o (le_o (le_s rfl le_n)))
    · refine R_s (s_icmp_ge_f dX12_ofAll_85 rfl h28) ?_
      refine R_s (s_iload_n dX12_ofAll_88 rfl rfl) ?_
      refine R_s (s_iconst dX12_ofAll_89 kci_2) ?_
      refine R_ite (fun h29 => ?_) (fun h29 => ?_)
      · refine R_s (s_icmp_ne_f dX12_ofAll_90 rfl h29) ?_
        refine R_s (s_iload_n dX12_ofAll_93 rfl rfl) ?_
        refine R_s (s_aload_n dX12_ofAll_94 rfl rfl) ?_
        refine R_s (gf_RX12_44 rfl dX12_ofAll_95) ?_
        refine R_s (s_iload_n dX12_ofAll_98 rfl rfl) ?_
        refine R_ck (fun h30 => ?_)
        refine R_s (s_iald dX12_ofAll_99 g_218 (gx_ixv h30)) ?_
        refine R_s (s_iadd dX12_ofAll_100) ?_
        refine R_letI (fun x31 => ?_)
        refine R_s (s_istore_n dX12_ofAll_101 rfl (Nat.le_of_ble_eq_true rfl)) ?_
        refine R_s (s_iinc dX12_ofAll_102 rfl (kinc_1 v3_26) (Nat.le_of_ble_eq_true rfl)) ?_
        refine R_s (s_goto dX12_ofAll_105 rfl) ?_
        exact R_wk (ih x31 (v3_26 + 1)) (le_s rfl (le_s rfl (le_s rfl (le_s rfl le_n))))
      · refine R_s (s_icmp_ne_t dX12_ofAll_90 rfl h29) ?_
        exact R_wk (hk v2_25) (le_o (le_o (le_s rfl le_n)))
theorem ev_X12_ofAll {E : gx_E} {l : Launch} (p1 : Int32) (μ : gx_M) {r : Int32} (hr : f_X12_ofAll p1 μ = some r) : gEv E l 0 Y_X12_ofAll [.ref (E.2.2.1 + 206), .int p1] gx_G1 μ (gx_eI r) gx_G1 μ := by
  refine R_ev (by decide) (Nat.le_of_ble_eq_true rfl) (em := gx_eI) (T := f_X12_ofAll p1 μ) ?_ hr
  show GoR E l Y_X12_ofAll 0 gx_eI 0 (gx_el [.ref (E.2.2.1 + 206), .int p1]) [] μ (f_X12_ofAll p1 μ)
  unfold f_X12_ofAll
  refine R_s (s_iconst dX12_ofAll_0 kci_0) ?_
  refine R_s (s_istore_n dX12_ofAll_1 rfl (Nat.le_of_ble_eq_true rfl)) ?_
  refine R_s (s_iconst dX12_ofAll_2 kci_0) ?_
  refine R_s (s_istore_n dX12_ofAll_3 rfl (Nat.le_of_ble_eq_true rfl)) ?_
  refine R_wk (okL_X12_ofAll_4 ?_ 4000 0 0) (le_s rfl (le_s rfl (le_s rfl (le_s rfl le_n))))
  intro x2_12
  refine R_s (s_iconst dX12_ofAll_39 kci_0) ?_
  refine R_s (s_istore_n dX12_ofAll_40 rfl (Nat.le_of_ble_eq_true rfl)) ?_
  refine R_wk (okL_X12_ofAll_41 ?_ 4000 x2_12 0) (le_s rfl (le_s rfl (le_s rfl (le_s rfl le_n))))
  intro x2_24
  refine R_s (s_iconst dX12_ofAll_78 kci_0) ?_
  refine R_s (s_istore_n dX12_ofAll_79 rfl (Nat.le_of_ble_eq_true rfl)) ?_
  refine R_wk (okL_X12_ofAll_80 ?_ 4000 x2_24 0) (le_s rfl (le_s rfl (le_s rfl (le_s rfl le_n))))
  intro x2_33
  refine R_s (s_iload_n dX12_ofAll_108 rfl rfl) ?_
  exact R_r (r := x2_33) (f_int (ty := .int) dX12_ofAll_109 rfl rfl)

def f_X12_cost (p1 : Int32) (p2 : Int32) (μ : gx_M) : Option Int32 := gx_ck (gx_ix p2 40 = true) (if (μ.1 220 p2.toNatClampNeg) = p1 then some 0 else some (μ.1 219 p2.toNatClampNeg))
theorem ev_X12_cost {E : gx_E} {l : Launch} (p1 : Int32) (p2 : Int32) (μ : gx_M) {r : Int32} (hr : f_X12_cost p1 p2 μ = some r) : gEv E l 0 Y_X12_cost [.ref (E.2.2.1 + 206), .int p1, .int p2] gx_G1 μ (gx_eI r) gx_G1 μ := by
  refine R_ev (by decide) (Nat.le_of_ble_eq_true rfl) (em := gx_eI) (T := f_X12_cost p1 p2 μ) ?_ hr
  show GoR E l Y_X12_cost 0 gx_eI 0 (gx_el [.ref (E.2.2.1 + 206), .int p1, .int p2]) [] μ (f_X12_cost p1 p2 μ)
  unfold f_X12_cost
  refine R_s (s_aload_n dX12_cost_0 rfl rfl) ?_
  refine R_s (gf_RX12_50 rfl dX12_cost_1) ?_
  refine R_s (s_iload_n dX12_cost_4 rfl rfl) ?_
  refine R_ck (fun h1 => ?_)
  refine R_s (s_iald dX12_cost_5 g_220 (gx_ixv h1)) ?_
  refine R_s (s_iload_n dX12_cost_6 rfl rfl) ?_
  refine R_ite (fun h2 => ?_) (fun h2 => ?_)
  · refine R_s (s_icmp_ne_f dX12_cost_7 rfl h2) ?_
    refine R_s (s_iconst dX12_cost_10 kci_0) ?_
    refine R_s (s_goto dX12_cost_11 rfl) ?_
    exact R_r (r := 0) (f_int (ty := .int) dX12_cost_20 rfl rfl)
  · refine R_s (s_icmp_ne_t dX12_cost_7 rfl h2) ?_
    refine R_s (s_aload_n dX12_cost_14 rfl rfl) ?_
    refine R_s (gf_RX12_47 rfl dX12_cost_15) ?_
    refine R_s (s_iload_n dX12_cost_18 rfl rfl) ?_
    refine R_s (s_iald dX12_cost_19 g_219 (gx_ixv h1)) ?_
    exact R_r (r := (μ.1 219 p2.toNatClampNeg)) (f_int (ty := .int) dX12_cost_20 rfl rfl)

def L_X12_leadBy_5 (p2 : Int32) (p1 : Int32) (μ : gx_M) (k3 : Int32 → Option Int32) : Nat → Int32 → Int32 → Option Int32
  | 0, _, _ => none
  | n + 1, v3_1, v4_2 => if p2 ≤ v4_2 then k3 v3_1 else gx_ck (gx_ix (p1 + v4_2) 40 = true) (gx_lt (v3_1 + (μ.1 219 (p1 + v4_2).toNatClampNeg)) (fun (x6 : Int32) => L_X12_leadBy_5 p2 p1 μ k3 n x6 (v4_2 + 1)))
def f_X12_leadBy (p1 : Int32) (p2 : Int32) (μ : gx_M) : Option Int32 := L_X12_leadBy_5 p2 p1 μ (fun (x3_8 : Int32) => gx_ck (gx_ix (p1 + p2) 41 = true) (some (x3_8 - (μ.1 228 (p1 + p2).toNatClampNeg)))) 4000 0 0
theorem okL_X12_leadBy_5 {E : gx_E} {l : Launch} {p2 : Int32} {p1 : Int32} {μ : gx_M} {k3 : Int32 → Option Int32} (hk : ∀ (w7 : Int32), GoR E l Y_X12_leadBy 0 gx_eI 29 [some (.ref (E.2.2.1 + 206)), some (.int p1), some (.int p2), some (.int w7)] [] μ (k3 w7)) : ∀ (n : Nat) (v3_1 : Int32) (v4_2 : Int32), GoR E l Y_X12_leadBy 0 gx_eI 5 [some (.ref (E.2.2.1 + 206)), some (.int p1), some (.int p2), some (.int v3_1), some (.int v4_2)] [] μ (L_X12_leadBy_5 p2 p1 μ k3 n v3_1 v4_2) := by
  intro n
  induction n with
  | zero => intros; exact R_no
  | succ n ih =>
    intro v3_1 v4_2
    rw [L_X12_leadBy_5.eq_2]
    refine R_s (s_iload dX12_leadBy_5 rfl) ?_
    refine R_s (s_iload_n dX12_leadBy_7 rfl rfl) ?_
    refine R_ite (fun h4 => ?_) (fun h4 => ?_)
    · refine R_s (s_icmp_ge_t dX12_leadBy_8 rfl h4) ?_
      exact R_wk (hk v3_1) (le_s rfl (le_s rfl (le_s rfl (le_s rfl le_n))))
    · refine R_s (s_icmp_ge_f dX12_leadBy_8 rfl h4) ?_
      refine R_s (s_iload_n dX12_leadBy_11 rfl rfl) ?_
      refine R_s (s_aload_n dX12_leadBy_12 rfl rfl) ?_
      refine R_s (gf_RX12_47 rfl dX12_leadBy_13) ?_
      refine R_s (s_iload_n dX12_leadBy_16 rfl rfl) ?_
      refine R_s (s_iload dX12_leadBy_17 rfl) ?_
      refine R_s (s_iadd dX12_leadBy_19) ?_
      refine R_ck (fun h5 => ?_)
      refine R_s (s_iald dX12_leadBy_20 g_219 (gx_ixv h5)) ?_
      refine R_s (s_iadd dX12_leadBy_21) ?_
      refine R_letI (fun x6 => ?_)
      refine R_s (s_istore_n dX12_leadBy_22 rfl (Nat.le_of_ble_eq_true rfl)) ?_
      refine R_s (s_iinc dX12_leadBy_23 rfl (kinc_1 v4_2) (Nat.le_of_ble_eq_true rfl)) ?_
      refine R_s (s_goto dX12_leadBy_26 rfl) ?_
      exact R_wk (ih x6 (v4_2 + 1)) (le_s rfl (le_s rfl (le_s rfl (le_s rfl (le_s rfl le_n)))))
theorem ev_X12_leadBy {E : gx_E} {l : Launch} (p1 : Int32) (p2 : Int32) (μ : gx_M) {r : Int32} (hr : f_X12_leadBy p1 p2 μ = some r) : gEv E l 0 Y_X12_leadBy [.ref (E.2.2.1 + 206), .int p1, .int p2] gx_G1 μ (gx_eI r) gx_G1 μ := by
  refine R_ev (by decide) (Nat.le_of_ble_eq_true rfl) (em := gx_eI) (T := f_X12_leadBy p1 p2 μ) ?_ hr
  show GoR E l Y_X12_leadBy 0 gx_eI 0 (gx_el [.ref (E.2.2.1 + 206), .int p1, .int p2]) [] μ (f_X12_leadBy p1 p2 μ)
  unfold f_X12_leadBy
  refine R_s (s_iconst dX12_leadBy_0 kci_0) ?_
  refine R_s (s_istore_n dX12_leadBy_1 rfl (Nat.le_of_ble_eq_true rfl)) ?_
  refine R_s (s_iconst dX12_leadBy_2 kci_0) ?_
  refine R_s (s_istore dX12_leadBy_3 (Nat.le_of_ble_eq_true rfl)) ?_
  refine R_wk (okL_X12_leadBy_5 ?_ 4000 0 0) (le_s rfl (le_s rfl (le_s rfl (le_s rfl (le_s rfl le_n)))))
  intro x3_8
  refine R_s (s_iload_n dX12_leadBy_29 rfl rfl) ?_
  refine R_s (s_aload_n dX12_leadBy_30 rfl rfl) ?_
  refine R_s (gf_RX12_75 rfl dX12_leadBy_31) ?_
  refine R_s (s_iload_n dX12_leadBy_34 rfl rfl) ?_
  refine R_s (s_iload_n dX12_leadBy_35 rfl rfl) ?_
  refine R_s (s_iadd dX12_leadBy_36) ?_
  refine R_ck (fun h9 => ?_)
  refine R_s (s_iald dX12_leadBy_37 g_228 (gx_ixv h9)) ?_
  refine R_s (s_isub dX12_leadBy_38) ?_
  exact R_r (r := (x3_8 - (μ.1 228 (p1 + p2).toNatClampNeg))) (f_int (ty := .int) dX12_leadBy_39 rfl rfl)

def L_X12_handsOf_5 (μ : gx_M) (p1 : Int32) (k3 : Int64 → Option Int64) : Nat → Int64 → Int32 → Option Int64
  | 0, _, _ => none
  | n + 1, v2_1, v4_2 => if (μ.1 206 25) ≤ v4_2 then k3 v2_1 else gx_ck (gx_ix v4_2 40 = true) (gx_lt (fun (j0_8 : Int64) => gx_lt (v2_1 ||| j0_8) (fun (x9 : Int64) => L_X12_handsOf_5 μ p1 k3 n x9 (v4_2 + 1))) (fun J6 => if (μ.1 220 v4_2.toNatClampNeg) = p1 then J6 ((1 : Int64) <<< ((v4_2 : Int32).toInt64 &&& 63)) else J6 0))
def f_X12_handsOf (p1 : Int32) (μ : gx_M) : Option Int64 := L_X12_handsOf_5 μ p1 (fun (x2_11 : Int64) => some x2_11) 4000 0 0
theorem okL_X12_handsOf_5 {E : gx_E} {l : Launch} {μ : gx_M} {p1 : Int32} {k3 : Int64 → Option Int64} (hk : ∀ (w10 : Int64), GoR E l Y_X12_handsOf 0 gx_eL 42 [none, none, some (.long w10)] [] μ (k3 w10)) : ∀ (n : Nat) (v2_1 : Int64) (v4_2 : Int32), GoR E l Y_X12_handsOf 0 gx_eL 5 [some (.ref (E.2.2.1 + 206)), some (.int p1), some (.long v2_1), none, some (.int v4_2)] [] μ (L_X12_handsOf_5 μ p1 k3 n v2_1 v4_2) := by
  intro n
  induction n with
  | zero => intros; exact R_no
  | succ n ih =>
    intro v2_1 v4_2
    rw [L_X12_handsOf_5.eq_2]
    refine R_s (s_iload dX12_handsOf_5 rfl) ?_
    refine R_s (s_aload_n dX12_handsOf_7 rfl rfl) ?_
    refine R_s (gf_RX12_283 rfl dX12_handsOf_8) ?_
    refine R_ite (fun h4 => ?_) (fun h4 => ?_)
    · refine R_s (s_icmp_ge_t dX12_handsOf_11 rfl h4) ?_
      exact R_wk (hk v2_1) (le_o (le_o (le_s rfl le_n)))
    · refine R_s (s_icmp_ge_f dX12_handsOf_11 rfl h4) ?_
      refine R_s (s_lload_n dX12_handsOf_14 rfl rfl) ?_
      refine R_s (s_aload_n dX12_handsOf_15 rfl rfl) ?_
      refine R_s (gf_RX12_50 rfl dX12_handsOf_16) ?_
      refine R_s (s_iload dX12_handsOf_19 rfl) ?_
      refine R_ck (fun h5 => ?_)
      refine R_s (s_iald dX12_handsOf_21 g_220 (gx_ixv h5)) ?_
      refine R_s (s_iload_n dX12_handsOf_22 rfl rfl) ?_
      refine R_fun (fun J => ∀ (j0_8 : Int64), GoR E l Y_X12_handsOf 0 gx_eL 34 [some (.ref (E.2.2.1 + 206)), some (.int p1), none, none, some (.int v4_2)] [.long j0_8, .long v2_1] μ (J j0_8)) ?_ (fun J6 hJ6 => ?_)
      · intro j0_8
        refine R_s (s_lor dX12_handsOf_34) ?_
        refine R_letL (fun x9 => ?_)
        refine R_s (s_lstore_n dX12_handsOf_35 rfl (Nat.le_of_ble_eq_true rfl)) ?_
        refine R_s (s_iinc dX12_handsOf_36 rfl (kinc_1 v4_2) (Nat.le_of_ble_eq_true rfl)) ?_
        refine R_s (s_goto dX12_handsOf_39 rfl) ?_
        exact R_wk (ih x9 (v4_2 + 1)) (le_s rfl (le_s rfl (le_s rfl (le_o (le_s rfl le_n)))))
      · skip
        refine R_ite (fun h7 => ?_) (fun h7 => ?_)
        · refine R_s (s_icmp_ne_f dX12_handsOf_23 rfl h7) ?_
          refine R_s (s_lconst dX12_handsOf_26 kcl_1) ?_
          refine R_s (s_iload dX12_handsOf_27 rfl) ?_
          refine R_s (s_lshl dX12_handsOf_29) ?_
          refine R_s (s_goto dX12_handsOf_30 rfl) ?_
          exact R_wk (hJ6 ((1 : Int64) <<< ((v4_2 : Int32).toInt64 &&& 63))) (le_s rfl (le_s rfl (le_o (le_o (le_s rfl le_n)))))
        · refine R_s (s_icmp_ne_t dX12_handsOf_23 rfl h7) ?_
          refine R_s (s_lconst dX12_handsOf_33 kcl_0) ?_
          exact R_wk (hJ6 0) (le_s rfl (le_s rfl (le_o (le_o (le_s rfl le_n)))))
theorem ev_X12_handsOf {E : gx_E} {l : Launch} (p1 : Int32) (μ : gx_M) {r : Int64} (hr : f_X12_handsOf p1 μ = some r) : gEv E l 0 Y_X12_handsOf [.ref (E.2.2.1 + 206), .int p1] gx_G1 μ (gx_eL r) gx_G1 μ := by
  refine R_ev (by decide) (Nat.le_of_ble_eq_true rfl) (em := gx_eL) (T := f_X12_handsOf p1 μ) ?_ hr
  show GoR E l Y_X12_handsOf 0 gx_eL 0 (gx_el [.ref (E.2.2.1 + 206), .int p1]) [] μ (f_X12_handsOf p1 μ)
  unfold f_X12_handsOf
  refine R_s (s_lconst dX12_handsOf_0 kcl_0) ?_
  refine R_s (s_lstore_n dX12_handsOf_1 rfl (Nat.le_of_ble_eq_true rfl)) ?_
  refine R_s (s_iconst dX12_handsOf_2 kci_0) ?_
  refine R_s (s_istore dX12_handsOf_3 (Nat.le_of_ble_eq_true rfl)) ?_
  refine R_wk (okL_X12_handsOf_5 ?_ 4000 0 0) (le_s rfl (le_s rfl (le_s rfl (le_o (le_s rfl le_n)))))
  intro x2_11
  refine R_s (s_lload_n dX12_handsOf_42 rfl rfl) ?_
  exact R_r (r := x2_11) (f_long dX12_handsOf_43 rfl)

def L_X12_allHit_2 (μ : gx_M) (p1 : Int64) (k2 : Option Bool) : Nat → Int32 → Option Bool
  | 0, _ => none
  | n + 1, v3_1 => if (μ.1 206 44) ≤ v3_1 then k2 else gx_ck (gx_ix v3_1 240 = true) (if ((μ.2 229 v3_1.toNatClampNeg) &&& p1) = 0 then some false else L_X12_allHit_2 μ p1 k2 n (v3_1 + 1))
def f_X12_allHit (p1 : Int64) (μ : gx_M) : Option Bool := L_X12_allHit_2 μ p1 (some true) 4000 0
theorem okL_X12_allHit_2 {E : gx_E} {l : Launch} {μ : gx_M} {p1 : Int64} {k2 : Option Bool} (hk : GoR E l Y_X12_allHit 0 gx_eB 31 [] [] μ (k2)) : ∀ (n : Nat) (v3_1 : Int32), GoR E l Y_X12_allHit 0 gx_eB 2 [some (.ref (E.2.2.1 + 206)), some (.long p1), none, some (.int v3_1)] [] μ (L_X12_allHit_2 μ p1 k2 n v3_1) := by
  intro n
  induction n with
  | zero => intros; exact R_no
  | succ n ih =>
    intro v3_1
    rw [L_X12_allHit_2.eq_2]
    refine R_s (s_iload_n dX12_allHit_2 rfl rfl) ?_
    refine R_s (s_aload_n dX12_allHit_3 rfl rfl) ?_
    refine R_s (gf_RX12_412 rfl dX12_allHit_4) ?_
    refine R_ite (fun h3 => ?_) (fun h3 => ?_)
    · refine R_s (s_icmp_ge_t dX12_allHit_7 rfl h3) ?_
      exact R_wk (hk) le_n
    · refine R_s (s_icmp_ge_f dX12_allHit_7 rfl h3) ?_
      refine R_s (s_aload_n dX12_allHit_10 rfl rfl) ?_
      refine R_s (gf_RX12_78 rfl dX12_allHit_11) ?_
      refine R_s (s_iload_n dX12_allHit_14 rfl rfl) ?_
      refine R_ck (fun h4 => ?_)
      refine R_s (s_lald dX12_allHit_15 g_229 (gx_ixv h4)) ?_
      refine R_s (s_lload_n dX12_allHit_16 rfl rfl) ?_
      refine R_s (s_land dX12_allHit_17) ?_
      refine R_s (s_lconst dX12_allHit_18 kcl_0) ?_
      refine R_s (s_lcmp dX12_allHit_19) ?_
      refine R_ite (fun h5 => ?_) (fun h5 => ?_)
      · refine R_s (s_if_ne_f dX12_allHit_20 rfl ((lgc_eq ((μ.2 229 v3_1.toNatClampNeg) &&& p1) 0).mpr h5)) ?_
        refine R_s (s_iconst dX12_allHit_23 kci_0) ?_
        exact R_r (r := false) (f_int (ty := .boolean) (x := gx_bi false) dX12_allHit_24 rfl (gx_bn false))
      · refine R_s (s_if_ne_t dX12_allHit_20 rfl (fun hc => h5 ((lgc_eq ((μ.2 229 v3_1.toNatClampNeg) &&& p1) 0).mp hc))) ?_
        refine R_s (s_iinc dX12_allHit_25 rfl (kinc_1 v3_1) (Nat.le_of_ble_eq_true rfl)) ?_
        refine R_s (s_goto dX12_allHit_28 rfl) ?_
        exact R_wk (ih (v3_1 + 1)) (le_s rfl (le_s rfl (le_o (le_s rfl le_n))))
theorem ev_X12_allHit {E : gx_E} {l : Launch} (p1 : Int64) (μ : gx_M) {r : Bool} (hr : f_X12_allHit p1 μ = some r) : gEv E l 0 Y_X12_allHit [.ref (E.2.2.1 + 206), .long p1] gx_G1 μ (gx_eB r) gx_G1 μ := by
  refine R_ev (by decide) (Nat.le_of_ble_eq_true rfl) (em := gx_eB) (T := f_X12_allHit p1 μ) ?_ hr
  show GoR E l Y_X12_allHit 0 gx_eB 0 (gx_el [.ref (E.2.2.1 + 206), .long p1]) [] μ (f_X12_allHit p1 μ)
  unfold f_X12_allHit
  refine R_s (s_iconst dX12_allHit_0 kci_0) ?_
  refine R_s (s_istore_n dX12_allHit_1 rfl (Nat.le_of_ble_eq_true rfl)) ?_
  refine R_wk (okL_X12_allHit_2 ?_ 4000 0) (le_s rfl (le_s rfl (le_o (le_s rfl le_n))))
  refine R_s (s_iconst dX12_allHit_31 kci_1) ?_
  exact R_r (r := true) (f_int (ty := .boolean) (x := gx_bi true) dX12_allHit_32 rfl (gx_bn true))

def f_X12_hasBit (p0 : Int64) (p2 : Int32) : Bool := if ((p0 >>> ((p2 : Int32).toInt64 &&& 63)) &&& 1) = 1 then true else false
theorem ev_X12_hasBit {E : gx_E} {l : Launch} (p0 : Int64) (p2 : Int32) (μ : gx_M) : gEv E l 0 Y_X12_hasBit [.long p0, .int p2] gx_G1 μ (gx_eB (f_X12_hasBit p0 p2)) gx_G1 μ := by
  refine P_ev (by decide) (Nat.le_of_ble_eq_true rfl) (em := gx_eB) (T := f_X12_hasBit p0 p2) ?_
  show GoP E l Y_X12_hasBit 0 gx_eB 0 (gx_el [.long p0, .int p2]) [] μ (f_X12_hasBit p0 p2)
  unfold f_X12_hasBit
  refine P_s (s_lload_n dX12_hasBit_0 rfl rfl) ?_
  refine P_s (s_iload_n dX12_hasBit_1 rfl rfl) ?_
  refine P_s (s_lshr dX12_hasBit_2) ?_
  refine P_s (s_lconst dX12_hasBit_3 kcl_1) ?_
  refine P_s (s_land dX12_hasBit_4) ?_
  refine P_s (s_lconst dX12_hasBit_5 kcl_1) ?_
  refine P_s (s_lcmp dX12_hasBit_6) ?_
  refine P_ite (fun h1 => ?_) (fun h1 => ?_)
  · refine P_s (s_if_ne_f dX12_hasBit_7 rfl ((lgc_eq ((p0 >>> ((p2 : Int32).toInt64 &&& 63)) &&& 1) 1).mpr h1)) ?_
    refine P_s (s_iconst dX12_hasBit_10 kci_1) ?_
    refine P_s (s_goto dX12_hasBit_11 rfl) ?_
    exact P_r (r := true) (f_int (ty := .boolean) (x := gx_bi true) dX12_hasBit_15 rfl (gx_bn true))
  · refine P_s (s_if_ne_t dX12_hasBit_7 rfl (fun hc => h1 ((lgc_eq ((p0 >>> ((p2 : Int32).toInt64 &&& 63)) &&& 1) 1).mp hc))) ?_
    refine P_s (s_iconst dX12_hasBit_14 kci_0) ?_
    exact P_r (r := false) (f_int (ty := .boolean) (x := gx_bi false) dX12_hasBit_15 rfl (gx_bn false))

def f_X12_allMinutes (μ : gx_M) : Int64 := (((1 : Int64) <<< (((μ.1 206 25) : Int32).toInt64 &&& 63)) - 1)
theorem ev_X12_allMinutes {E : gx_E} {l : Launch} (μ : gx_M) : gEv E l 0 Y_X12_allMinutes [.ref (E.2.2.1 + 206)] gx_G1 μ (gx_eL (f_X12_allMinutes μ)) gx_G1 μ := by
  refine P_ev (by decide) (Nat.le_of_ble_eq_true rfl) (em := gx_eL) (T := f_X12_allMinutes μ) ?_
  show GoP E l Y_X12_allMinutes 0 gx_eL 0 (gx_el [.ref (E.2.2.1 + 206)]) [] μ (f_X12_allMinutes μ)
  unfold f_X12_allMinutes
  refine P_s (s_lconst dX12_allMinutes_0 kcl_1) ?_
  refine P_s (s_aload_n dX12_allMinutes_1 rfl rfl) ?_
  refine P_s (gf_RX12_283 rfl dX12_allMinutes_2) ?_
  refine P_s (s_lshl dX12_allMinutes_5) ?_
  refine P_s (s_lconst dX12_allMinutes_6 kcl_1) ?_
  refine P_s (s_lsub dX12_allMinutes_7) ?_
  exact P_r (r := (((1 : Int64) <<< (((μ.1 206 25) : Int32).toInt64 &&& 63)) - 1)) (f_long dX12_allMinutes_8 rfl)

def L_X12_power_5 (p2 : Int32) (p0 : Int64) (k3 : Int64 → Option Int64) : Nat → Int64 → Int32 → Option Int64
  | 0, _, _ => none
  | n + 1, v3_1, v5_2 => if p2 ≤ v5_2 then k3 v3_1 else gx_lt (v3_1 * p0) (fun (x5 : Int64) => L_X12_power_5 p2 p0 k3 n x5 (v5_2 + 1))
def f_X12_power (p0 : Int64) (p2 : Int32) (μ : gx_M) : Option Int64 := L_X12_power_5 p2 p0 (fun (x3_7 : Int64) => some x3_7) 4000 1 0
theorem okL_X12_power_5 {E : gx_E} {l : Launch} {p2 : Int32} {p0 : Int64} {μ : gx_M} {k3 : Int64 → Option Int64} (hk : ∀ (w6 : Int64), GoR E l Y_X12_power 0 gx_eL 21 [none, none, none, some (.long w6)] [] μ (k3 w6)) : ∀ (n : Nat) (v3_1 : Int64) (v5_2 : Int32), GoR E l Y_X12_power 0 gx_eL 5 [some (.long p0), none, some (.int p2), some (.long v3_1), none, some (.int v5_2)] [] μ (L_X12_power_5 p2 p0 k3 n v3_1 v5_2) := by
  intro n
  induction n with
  | zero => intros; exact R_no
  | succ n ih =>
    intro v3_1 v5_2
    rw [L_X12_power_5.eq_2]
    refine R_s (s_iload dX12_power_5 rfl) ?_
    refine R_s (s_iload_n dX12_power_7 rfl rfl) ?_
    refine R_ite (fun h4 => ?_) (fun h4 => ?_)
    · refine R_s (s_icmp_ge_t dX12_power_8 rfl h4) ?_
      exact R_wk (hk v3_1) (le_o (le_o (le_o (le_s rfl le_n))))
    · refine R_s (s_icmp_ge_f dX12_power_8 rfl h4) ?_
      refine R_s (s_lload_n dX12_power_11 rfl rfl) ?_
      refine R_s (s_lload_n dX12_power_12 rfl rfl) ?_
      refine R_s (s_lmul dX12_power_13) ?_
      refine R_letL (fun x5 => ?_)
      refine R_s (s_lstore_n dX12_power_14 rfl (Nat.le_of_ble_eq_true rfl)) ?_
      refine R_s (s_iinc dX12_power_15 rfl (kinc_1 v5_2) (Nat.le_of_ble_eq_true rfl)) ?_
      refine R_s (s_goto dX12_power_18 rfl) ?_
      exact R_wk (ih x5 (v5_2 + 1)) (le_s rfl (le_o (le_s rfl (le_s rfl (le_o (le_s rfl le_n))))))
theorem ev_X12_power {E : gx_E} {l : Launch} (p0 : Int64) (p2 : Int32) (μ : gx_M) {r : Int64} (hr : f_X12_power p0 p2 μ = some r) : gEv E l 0 Y_X12_power [.long p0, .int p2] gx_G1 μ (gx_eL r) gx_G1 μ := by
  refine R_ev (by decide) (Nat.le_of_ble_eq_true rfl) (em := gx_eL) (T := f_X12_power p0 p2 μ) ?_ hr
  show GoR E l Y_X12_power 0 gx_eL 0 (gx_el [.long p0, .int p2]) [] μ (f_X12_power p0 p2 μ)
  unfold f_X12_power
  refine R_s (s_lconst dX12_power_0 kcl_1) ?_
  refine R_s (s_lstore_n dX12_power_1 rfl (Nat.le_of_ble_eq_true rfl)) ?_
  refine R_s (s_iconst dX12_power_2 kci_0) ?_
  refine R_s (s_istore dX12_power_3 (Nat.le_of_ble_eq_true rfl)) ?_
  refine R_wk (okL_X12_power_5 ?_ 4000 1 0) (le_s rfl (le_o (le_s rfl (le_s rfl (le_o (le_s rfl le_n))))))
  intro x3_7
  refine R_s (s_lload_n dX12_power_21 rfl rfl) ?_
  exact R_r (r := x3_7) (f_long dX12_power_22 rfl)

def L_X12_common_6 (k3 : Int64 → Option Int64) : Nat → Int64 → Int64 → Option Int64
  | 0, _, _ => none
  | n + 1, v4_1, v6_2 => if v6_2 = 0 then k3 v4_1 else gx_ck (¬ v6_2 = 0) (gx_lt (v4_1 - v4_1 / v6_2 * v6_2) (fun (x6 : Int64) => L_X12_common_6 k3 n v6_2 x6))
def f_X12_common (p0 : Int64) (p2 : Int64) (μ : gx_M) : Option Int64 := L_X12_common_6 (fun (x4_8 : Int64) => some x4_8) 4000 p0 p2
theorem okL_X12_common_6 {E : gx_E} {l : Launch} {μ : gx_M} {k3 : Int64 → Option Int64} (hk : ∀ (w7 : Int64), GoR E l Y_X12_common 0 gx_eL 31 [none, none, none, none, some (.long w7)] [] μ (k3 w7)) : ∀ (n : Nat) (v4_1 : Int64) (v6_2 : Int64), GoR E l Y_X12_common 0 gx_eL 6 [none, none, none, none, some (.long v4_1), none, some (.long v6_2)] [] μ (L_X12_common_6 k3 n v4_1 v6_2) := by
  intro n
  induction n with
  | zero => intros; exact R_no
  | succ n ih =>
    intro v4_1 v6_2
    rw [L_X12_common_6.eq_2]
    refine R_s (s_lload dX12_common_6 rfl) ?_
    refine R_s (s_lconst dX12_common_8 kcl_0) ?_
    refine R_s (s_lcmp dX12_common_9) ?_
    refine R_ite (fun h4 => ?_) (fun h4 => ?_)
    · refine R_s (s_if_eq_t dX12_common_10 rfl ((lgc_eq v6_2 0).mpr h4)) ?_
      exact R_wk (hk v4_1) (le_o (le_o (le_o (le_o (le_s rfl le_n)))))
    · refine R_s (s_if_eq_f dX12_common_10 rfl (fun hc => h4 ((lgc_eq v6_2 0).mp hc))) ?_
      refine R_s (s_lload dX12_common_13 rfl) ?_
      refine R_s (s_lload dX12_common_15 rfl) ?_
      refine R_ck (fun h5 => ?_)
      refine R_s (s_lrem dX12_common_17 h5) ?_
      refine R_letL (fun x6 => ?_)
      refine R_s (s_lstore dX12_common_18 (Nat.le_of_ble_eq_true rfl)) ?_
      refine R_s (s_lload dX12_common_20 rfl) ?_
      refine R_s (s_lstore dX12_common_22 (Nat.le_of_ble_eq_true rfl)) ?_
      refine R_s (s_lload dX12_common_24 rfl) ?_
      refine R_s (s_lstore dX12_common_26 (Nat.le_of_ble_eq_true rfl)) ?_
      refine R_s (s_goto dX12_common_28 rfl) ?_
      exact R_wk (ih v6_2 x6) (le_o (le_o (le_o (le_o (le_s rfl (le_o (le_s rfl le_n)))))))
theorem ev_X12_common {E : gx_E} {l : Launch} (p0 : Int64) (p2 : Int64) (μ : gx_M) {r : Int64} (hr : f_X12_common p0 p2 μ = some r) : gEv E l 0 Y_X12_common [.long p0, .long p2] gx_G1 μ (gx_eL r) gx_G1 μ := by
  refine R_ev (by decide) (Nat.le_of_ble_eq_true rfl) (em := gx_eL) (T := f_X12_common p0 p2 μ) ?_ hr
  show GoR E l Y_X12_common 0 gx_eL 0 (gx_el [.long p0, .long p2]) [] μ (f_X12_common p0 p2 μ)
  unfold f_X12_common
  refine R_s (s_lload_n dX12_common_0 rfl rfl) ?_
  refine R_s (s_lstore dX12_common_1 (Nat.le_of_ble_eq_true rfl)) ?_
  refine R_s (s_lload_n dX12_common_3 rfl rfl) ?_
  refine R_s (s_lstore dX12_common_4 (Nat.le_of_ble_eq_true rfl)) ?_
  refine R_wk (okL_X12_common_6 ?_ 4000 p0 p2) (le_o (le_o (le_o (le_o (le_s rfl (le_o (le_s rfl le_n)))))))
  intro x4_8
  refine R_s (s_lload dX12_common_31 rfl) ?_
  exact R_r (r := x4_8) (f_long dX12_common_33 rfl)

def f_X12_factOf (p1 : Int32) (p2 : Int32) (μ : gx_M) : Option Int32 := gx_ck (gx_ix (((((17 : Int32) * (μ.1 206 46)) + 1) + ((2 : Int32) * p1)) + p2) 136 = true) (some (μ.1 214 (((((17 : Int32) * (μ.1 206 46)) + 1) + ((2 : Int32) * p1)) + p2).toNatClampNeg))
theorem ev_X12_factOf {E : gx_E} {l : Launch} (p1 : Int32) (p2 : Int32) (μ : gx_M) {r : Int32} (hr : f_X12_factOf p1 p2 μ = some r) : gEv E l 0 Y_X12_factOf [.ref (E.2.2.1 + 206), .int p1, .int p2] gx_G1 μ (gx_eI r) gx_G1 μ := by
  refine R_ev (by decide) (Nat.le_of_ble_eq_true rfl) (em := gx_eI) (T := f_X12_factOf p1 p2 μ) ?_ hr
  show GoR E l Y_X12_factOf 0 gx_eI 0 (gx_el [.ref (E.2.2.1 + 206), .int p1, .int p2]) [] μ (f_X12_factOf p1 p2 μ)
  unfold f_X12_factOf
  refine R_s (s_aload_n dX12_factOf_0 rfl rfl) ?_
  refine R_s (gf_RX12_32 rfl dX12_factOf_1) ?_
  refine R_s (s_bipush dX12_factOf_4 kcb_17) ?_
  refine R_s (s_aload_n dX12_factOf_6 rfl rfl) ?_
  refine R_s (gf_RX12_464 rfl dX12_factOf_7) ?_
  refine R_s (s_imul dX12_factOf_10) ?_
  refine R_s (s_iconst dX12_factOf_11 kci_1) ?_
  refine R_s (s_iadd dX12_factOf_12) ?_
  refine R_s (s_iconst dX12_factOf_13 kci_2) ?_
  refine R_s (s_iload_n dX12_factOf_14 rfl rfl) ?_
  refine R_s (s_imul dX12_factOf_15) ?_
  refine R_s (s_iadd dX12_factOf_16) ?_
  refine R_s (s_iload_n dX12_factOf_17 rfl rfl) ?_
  refine R_s (s_iadd dX12_factOf_18) ?_
  refine R_ck (fun h1 => ?_)
  refine R_s (s_iald dX12_factOf_19 g_214 (gx_ixv h1)) ?_
  exact R_r (r := (μ.1 214 (((((17 : Int32) * (μ.1 206 46)) + 1) + ((2 : Int32) * p1)) + p2).toNatClampNeg)) (f_int (ty := .int) dX12_factOf_20 rfl rfl)

def f_X12_facts (μ : gx_M) : Option Int32 := gx_ck (gx_ix ((17 : Int32) * (μ.1 206 46)) 136 = true) (some (μ.1 214 ((17 : Int32) * (μ.1 206 46)).toNatClampNeg))
theorem ev_X12_facts {E : gx_E} {l : Launch} (μ : gx_M) {r : Int32} (hr : f_X12_facts μ = some r) : gEv E l 0 Y_X12_facts [.ref (E.2.2.1 + 206)] gx_G1 μ (gx_eI r) gx_G1 μ := by
  refine R_ev (by decide) (Nat.le_of_ble_eq_true rfl) (em := gx_eI) (T := f_X12_facts μ) ?_ hr
  show GoR E l Y_X12_facts 0 gx_eI 0 (gx_el [.ref (E.2.2.1 + 206)]) [] μ (f_X12_facts μ)
  unfold f_X12_facts
  refine R_s (s_aload_n dX12_facts_0 rfl rfl) ?_
  refine R_s (gf_RX12_32 rfl dX12_facts_1) ?_
  refine R_s (s_bipush dX12_facts_4 kcb_17) ?_
  refine R_s (s_aload_n dX12_facts_6 rfl rfl) ?_
  refine R_s (gf_RX12_464 rfl dX12_facts_7) ?_
  refine R_s (s_imul dX12_facts_10) ?_
  refine R_ck (fun h1 => ?_)
  refine R_s (s_iald dX12_facts_11 g_214 (gx_ixv h1)) ?_
  exact R_r (r := (μ.1 214 ((17 : Int32) * (μ.1 206 46)).toNatClampNeg)) (f_int (ty := .int) dX12_facts_12 rfl rfl)

def L_X12_sureOf_39 (μ : gx_M) (p1 : Bool) (k7 : Int32 → Option Int32) : Nat → Int32 → Int32 → Option Int32
  | 0, _, _ => none
  | n + 1, v2_5, v3_6 => if (μ.1 206 48) ≤ v3_6 then k7 v2_5 else gx_lt (fun (j0_13 : Int32) => gx_lt (fun (j0_16 : Int32) => L_X12_sureOf_39 μ p1 k7 n j0_16 (v3_6 + 1)) (fun J14 => if j0_13 = v2_5 then J14 v2_5 else J14 (-1))) (fun J9 => if p1 = true then gx_ck (gx_ix v3_6 820 = true) (J9 ((μ.1 231 v3_6.toNatClampNeg) / 40)) else gx_ck (gx_ix v3_6 820 = true) (J9 ((μ.1 231 v3_6.toNatClampNeg) - (μ.1 231 v3_6.toNatClampNeg) / 40 * 40)))
def f_X12_sureOf (p1 : Bool) (μ : gx_M) : Option Int32 := gx_lt (fun (j0_4 : Int32) => L_X12_sureOf_39 μ p1 (fun (x2_18 : Int32) => some x2_18) 4000 j0_4 1) (fun J1 => if (μ.1 206 48) = 0 then J1 (-1) else if p1 = true then J1 ((μ.1 231 0) / 40) else J1 ((μ.1 231 0) - (μ.1 231 0) / 40 * 40))
theorem okL_X12_sureOf_39 {E : gx_E} {l : Launch} {μ : gx_M} {p1 : Bool} {k7 : Int32 → Option Int32} (hk : ∀ (w17 : Int32), GoR E l Y_X12_sureOf 0 gx_eI 88 [none, none, some (.int w17)] [] μ (k7 w17)) : ∀ (n : Nat) (v2_5 : Int32) (v3_6 : Int32), GoR E l Y_X12_sureOf 0 gx_eI 39 [some (.ref (E.2.2.1 + 206)), some (.int (gx_bi p1)), some (.int v2_5), some (.int v3_6)] [] μ (L_X12_sureOf_39 μ p1 k7 n v2_5 v3_6) := by
  intro n
  induction n with
  | zero => intros; exact R_no
  | succ n ih =>
    intro v2_5 v3_6
    rw [L_X12_sureOf_39.eq_2]
    refine R_s (s_iload_n dX12_sureOf_39 rfl rfl) ?_
    refine R_s (s_aload_n dX12_sureOf_40 rfl rfl) ?_
    refine R_s (gf_RX12_467 rfl dX12_sureOf_41) ?_
    refine R_ite (fun h8 => ?_) (fun h8 => ?_)
    · refine R_s (s_icmp_ge_t dX12_sureOf_44 rfl h8) ?_
      exact R_wk (hk v2_5) (le_o (le_o (le_s rfl le_n)))
    · refine R_s (s_icmp_ge_f dX12_sureOf_44 rfl h8) ?_
      refine R_s (s_iload_n dX12_sureOf_47 rfl rfl) ?_
      refine R_fun (fun J => ∀ (j0_13 : Int32), GoR E l Y_X12_sureOf 0 gx_eI 72 [some (.ref (E.2.2.1 + 206)), some (.int (gx_bi p1)), some (.int v2_5), some (.int v3_6)] [.int j0_13] μ (J j0_13)) ?_ (fun J9 hJ9 => ?_)
      · intro j0_13
        refine R_s (s_iload_n dX12_sureOf_72 rfl rfl) ?_
        refine R_fun (fun J => ∀ (j0_16 : Int32), GoR E l Y_X12_sureOf 0 gx_eI 81 [some (.ref (E.2.2.1 + 206)), some (.int (gx_bi p1)), none, some (.int v3_6)] [.int j0_16] μ (J j0_16)) ?_ (fun J14 hJ14 => ?_)
        · intro j0_16
          refine R_s (s_istore_n dX12_sureOf_81 rfl (Nat.le_of_ble_eq_true rfl)) ?_
          refine R_s (s_iinc dX12_sureOf_82 rfl (kinc_1 v3_6) (Nat.le_of_ble_eq_true rfl)) ?_
          refine R_s (s_goto dX12_sureOf_85 rfl) ?_
          exact R_wk (ih j0_16 (v3_6 + 1)) (le_s rfl (le_s rfl (le_s rfl (le_s rfl le_n))))
        · skip
          refine R_ite (fun h15 => ?_) (fun h15 => ?_)
          · refine R_s (s_icmp_ne_f dX12_sureOf_73 rfl h15) ?_
            refine R_s (s_iload_n dX12_sureOf_76 rfl rfl) ?_
            refine R_s (s_goto dX12_sureOf_77 rfl) ?_
            exact R_wk (hJ14 v2_5) (le_s rfl (le_s rfl (le_o (le_s rfl le_n))))
          · refine R_s (s_icmp_ne_t dX12_sureOf_73 rfl h15) ?_
            refine R_s (s_iconst dX12_sureOf_80 kci_m1) ?_
            exact R_wk (hJ14 (-1)) (le_s rfl (le_s rfl (le_o (le_s rfl le_n))))
      · skip
        refine R_ite (fun h10 => ?_) (fun h10 => ?_)
        · refine R_s (s_if_eq_f dX12_sureOf_48 rfl (gx_bt h10)) ?_
          refine R_s (s_aload_n dX12_sureOf_51 rfl rfl) ?_
          refine R_s (gf_RX12_85 rfl dX12_sureOf_52) ?_
          refine R_s (s_iload_n dX12_sureOf_55 rfl rfl) ?_
          refine R_ck (fun h11 => ?_)
          refine R_s (s_iald dX12_sureOf_56 g_231 (gx_ixv h11)) ?_
          refine R_s (s_bipush dX12_sureOf_57 kcb_40) ?_
          refine R_s (s_idiv dX12_sureOf_59 (by decide)) ?_
          refine R_s (s_goto dX12_sureOf_60 rfl) ?_
          exact R_wk (hJ9 ((μ.1 231 v3_6.toNatClampNeg) / 40)) (le_s rfl (le_s rfl (le_s rfl (le_s rfl le_n))))
        · refine R_s (s_if_eq_t dX12_sureOf_48 rfl (gx_bf h10)) ?_
          refine R_s (s_aload_n dX12_sureOf_63 rfl rfl) ?_
          refine R_s (gf_RX12_85 rfl dX12_sureOf_64) ?_
          refine R_s (s_iload_n dX12_sureOf_67 rfl rfl) ?_
          refine R_ck (fun h12 => ?_)
          refine R_s (s_iald dX12_sureOf_68 g_231 (gx_ixv h12)) ?_
          refine R_s (s_bipush dX12_sureOf_69 kcb_40) ?_
          refine R_s (s_irem dX12_sureOf_71 (by decide)) ?_
          exact R_wk (hJ9 ((μ.1 231 v3_6.toNatClampNeg) - (μ.1 231 v3_6.toNatClampNeg) / 40 * 40)) (le_s rfl (le_s rfl (le_s rfl (le_s rfl le_n))))
theorem ev_X12_sureOf {E : gx_E} {l : Launch} (p1 : Bool) (μ : gx_M) {r : Int32} (hr : f_X12_sureOf p1 μ = some r) : gEv E l 0 Y_X12_sureOf [.ref (E.2.2.1 + 206), .int (gx_bi p1)] gx_G1 μ (gx_eI r) gx_G1 μ := by
  refine R_ev (by decide) (Nat.le_of_ble_eq_true rfl) (em := gx_eI) (T := f_X12_sureOf p1 μ) ?_ hr
  show GoR E l Y_X12_sureOf 0 gx_eI 0 (gx_el [.ref (E.2.2.1 + 206), .int (gx_bi p1)]) [] μ (f_X12_sureOf p1 μ)
  unfold f_X12_sureOf
  refine R_s (s_aload_n dX12_sureOf_0 rfl rfl) ?_
  refine R_s (gf_RX12_467 rfl dX12_sureOf_1) ?_
  refine R_fun (fun J => ∀ (j0_4 : Int32), GoR E l Y_X12_sureOf 0 gx_eI 36 [some (.ref (E.2.2.1 + 206)), some (.int (gx_bi p1))] [.int j0_4] μ (J j0_4)) ?_ (fun J1 hJ1 => ?_)
  · intro j0_4
    refine R_s (s_istore_n dX12_sureOf_36 rfl (Nat.le_of_ble_eq_true rfl)) ?_
    refine R_s (s_iconst dX12_sureOf_37 kci_1) ?_
    refine R_s (s_istore_n dX12_sureOf_38 rfl (Nat.le_of_ble_eq_true rfl)) ?_
    refine R_wk (okL_X12_sureOf_39 ?_ 4000 j0_4 1) (le_s rfl (le_s rfl (le_s rfl (le_s rfl le_n))))
    intro x2_18
    refine R_s (s_iload_n dX12_sureOf_88 rfl rfl) ?_
    exact R_r (r := x2_18) (f_int (ty := .int) dX12_sureOf_89 rfl rfl)
  · skip
    refine R_ite (fun h2 => ?_) (fun h2 => ?_)
    · refine R_s (s_if_ne_f dX12_sureOf_4 rfl h2) ?_
      refine R_s (s_iconst dX12_sureOf_7 kci_m1) ?_
      refine R_s (s_goto dX12_sureOf_8 rfl) ?_
      exact R_wk (hJ1 (-1)) (le_s rfl (le_s rfl le_n))
    · refine R_s (s_if_ne_t dX12_sureOf_4 rfl h2) ?_
      refine R_s (s_iload_n dX12_sureOf_11 rfl rfl) ?_
      refine R_ite (fun h3 => ?_) (fun h3 => ?_)
      · refine R_s (s_if_eq_f dX12_sureOf_12 rfl (gx_bt h3)) ?_
        refine R_s (s_aload_n dX12_sureOf_15 rfl rfl) ?_
        refine R_s (gf_RX12_85 rfl dX12_sureOf_16) ?_
        refine R_s (s_iconst dX12_sureOf_19 kci_0) ?_
        refine R_s (s_ialdL (k := 0) dX12_sureOf_20 g_231 (gx_inl (by decide)) (by decide)) ?_
        refine R_s (s_bipush dX12_sureOf_21 kcb_40) ?_
        refine R_s (s_idiv dX12_sureOf_23 (by decide)) ?_
        refine R_s (s_goto dX12_sureOf_24 rfl) ?_
        exact R_wk (hJ1 ((μ.1 231 0) / 40)) (le_s rfl (le_s rfl le_n))
      · refine R_s (s_if_eq_t dX12_sureOf_12 rfl (gx_bf h3)) ?_
        refine R_s (s_aload_n dX12_sureOf_27 rfl rfl) ?_
        refine R_s (gf_RX12_85 rfl dX12_sureOf_28) ?_
        refine R_s (s_iconst dX12_sureOf_31 kci_0) ?_
        refine R_s (s_ialdL (k := 0) dX12_sureOf_32 g_231 (gx_inl (by decide)) (by decide)) ?_
        refine R_s (s_bipush dX12_sureOf_33 kcb_40) ?_
        refine R_s (s_irem dX12_sureOf_35 (by decide)) ?_
        exact R_wk (hJ1 ((μ.1 231 0) - (μ.1 231 0) / 40 * 40)) (le_s rfl (le_s rfl le_n))

def f_X12_worthTo (p1 : Int32) (p2 : Int32) (μ : gx_M) : Option Int32 := gx_ck (gx_ix (((((37 : Int32) * (μ.1 206 49)) + 1) + ((6 : Int32) * p1)) + p2) 296 = true) (some (μ.1 215 (((((37 : Int32) * (μ.1 206 49)) + 1) + ((6 : Int32) * p1)) + p2).toNatClampNeg))
theorem ev_X12_worthTo {E : gx_E} {l : Launch} (p1 : Int32) (p2 : Int32) (μ : gx_M) {r : Int32} (hr : f_X12_worthTo p1 p2 μ = some r) : gEv E l 0 Y_X12_worthTo [.ref (E.2.2.1 + 206), .int p1, .int p2] gx_G1 μ (gx_eI r) gx_G1 μ := by
  refine R_ev (by decide) (Nat.le_of_ble_eq_true rfl) (em := gx_eI) (T := f_X12_worthTo p1 p2 μ) ?_ hr
  show GoR E l Y_X12_worthTo 0 gx_eI 0 (gx_el [.ref (E.2.2.1 + 206), .int p1, .int p2]) [] μ (f_X12_worthTo p1 p2 μ)
  unfold f_X12_worthTo
  refine R_s (s_aload_n dX12_worthTo_0 rfl rfl) ?_
  refine R_s (gf_RX12_35 rfl dX12_worthTo_1) ?_
  refine R_s (s_bipush dX12_worthTo_4 kcb_37) ?_
  refine R_s (s_aload_n dX12_worthTo_6 rfl rfl) ?_
  refine R_s (gf_RX12_489 rfl dX12_worthTo_7) ?_
  refine R_s (s_imul dX12_worthTo_10) ?_
  refine R_s (s_iconst dX12_worthTo_11 kci_1) ?_
  refine R_s (s_iadd dX12_worthTo_12) ?_
  refine R_s (s_bipush dX12_worthTo_13 kcb_6) ?_
  refine R_s (s_iload_n dX12_worthTo_15 rfl rfl) ?_
  refine R_s (s_imul dX12_worthTo_16) ?_
  refine R_s (s_iadd dX12_worthTo_17) ?_
  refine R_s (s_iload_n dX12_worthTo_18 rfl rfl) ?_
  refine R_s (s_iadd dX12_worthTo_19) ?_
  refine R_ck (fun h1 => ?_)
  refine R_s (s_iald dX12_worthTo_20 g_215 (gx_ixv h1)) ?_
  exact R_r (r := (μ.1 215 (((((37 : Int32) * (μ.1 206 49)) + 1) + ((6 : Int32) * p1)) + p2).toNatClampNeg)) (f_int (ty := .int) dX12_worthTo_21 rfl rfl)

def L_X12_isInRing_9 (p1 : Int32) (μ : gx_M) (k5 : Int32 → Option Bool) : Nat → Int32 → Int32 → Option Bool
  | 0, _, _ => none
  | n + 1, v2_3, v3_4 => if 6 ≤ v3_4 then k5 v2_3 else if v2_3 = p1 then k5 v2_3 else gx_ck (gx_ix v2_3 6 = true) (gx_lt (μ.1 234 v2_3.toNatClampNeg) (fun (x9 : Int32) => L_X12_isInRing_9 p1 μ k5 n x9 (v3_4 + 1)))
def f_X12_isInRing (p1 : Int32) (μ : gx_M) : Option Bool := gx_ck (gx_ix p1 6 = true) (gx_lt (μ.1 234 p1.toNatClampNeg) (fun (x2 : Int32) => L_X12_isInRing_9 p1 μ (fun (x2_11 : Int32) => if x2_11 = p1 then some true else some false) 4000 x2 0))
theorem okL_X12_isInRing_9 {E : gx_E} {l : Launch} {p1 : Int32} {μ : gx_M} {k5 : Int32 → Option Bool} (hk : ∀ (w10 : Int32), GoR E l Y_X12_isInRing 0 gx_eB 33 [none, some (.int p1), some (.int w10)] [] μ (k5 w10)) : ∀ (n : Nat) (v2_3 : Int32) (v3_4 : Int32), GoR E l Y_X12_isInRing 0 gx_eB 9 [some (.ref (E.2.2.1 + 206)), some (.int p1), some (.int v2_3), some (.int v3_4)] [] μ (L_X12_isInRing_9 p1 μ k5 n v2_3 v3_4) := by
  intro n
  induction n with
  | zero => intros; exact R_no
  | succ n ih =>
    intro v2_3 v3_4
    rw [L_X12_isInRing_9.eq_2]
    refine R_s (s_iload_n dX12_isInRing_9 rfl rfl) ?_
    refine R_s (s_bipush dX12_isInRing_10 kcb_6) ?_
    refine R_ite (fun h6 => ?_) (fun h6 => ?_)
    · refine R_s (s_icmp_ge_t dX12_isInRing_12 rfl h6) ?_
      exact R_wk (hk v2_3) (le_o (le_s rfl (le_s rfl le_n)))
    · refine R_s (s_icmp_ge_f dX12_isInRing_12 rfl h6) ?_
      refine R_s (s_iload_n dX12_isInRing_15 rfl rfl) ?_
      refine R_s (s_iload_n dX12_isInRing_16 rfl rfl) ?_
      refine R_ite (fun h7 => ?_) (fun h7 => ?_)
      · refine R_s (s_icmp_eq_t dX12_isInRing_17 rfl h7) ?_
        exact R_wk (hk v2_3) (le_o (le_s rfl (le_s rfl le_n)))
      · refine R_s (s_icmp_eq_f dX12_isInRing_17 rfl h7) ?_
        refine R_s (s_aload_n dX12_isInRing_20 rfl rfl) ?_
        refine R_s (gf_RX12_94 rfl dX12_isInRing_21) ?_
        refine R_s (s_iload_n dX12_isInRing_24 rfl rfl) ?_
        refine R_ck (fun h8 => ?_)
        refine R_s (s_iald dX12_isInRing_25 g_234 (gx_ixv h8)) ?_
        refine R_letI (fun x9 => ?_)
        refine R_s (s_istore_n dX12_isInRing_26 rfl (Nat.le_of_ble_eq_true rfl)) ?_
        refine R_s (s_iinc dX12_isInRing_27 rfl (kinc_1 v3_4) (Nat.le_of_ble_eq_true rfl)) ?_
        refine R_s (s_goto dX12_isInRing_30 rfl) ?_
        exact R_wk (ih x9 (v3_4 + 1)) (le_s rfl (le_s rfl (le_s rfl (le_s rfl le_n))))
theorem ev_X12_isInRing {E : gx_E} {l : Launch} (p1 : Int32) (μ : gx_M) {r : Bool} (hr : f_X12_isInRing p1 μ = some r) : gEv E l 0 Y_X12_isInRing [.ref (E.2.2.1 + 206), .int p1] gx_G1 μ (gx_eB r) gx_G1 μ := by
  refine R_ev (by decide) (Nat.le_of_ble_eq_true rfl) (em := gx_eB) (T := f_X12_isInRing p1 μ) ?_ hr
  show GoR E l Y_X12_isInRing 0 gx_eB 0 (gx_el [.ref (E.2.2.1 + 206), .int p1]) [] μ (f_X12_isInRing p1 μ)
  unfold f_X12_isInRing
  refine R_s (s_aload_n dX12_isInRing_0 rfl rfl) ?_
  refine R_s (gf_RX12_94 rfl dX12_isInRing_1) ?_
  refine R_s (s_iload_n dX12_isInRing_4 rfl rfl) ?_
  refine R_ck (fun h1 => ?_)
  refine R_s (s_iald dX12_isInRing_5 g_234 (gx_ixv h1)) ?_
  refine R_letI (fun x2 => ?_)
  refine R_s (s_istore_n dX12_isInRing_6 rfl (Nat.le_of_ble_eq_true rfl)) ?_
  refine R_s (s_iconst dX12_isInRing_7 kci_0) ?_
  refine R_s (s_istore_n dX12_isInRing_8 rfl (Nat.le_of_ble_eq_true rfl)) ?_
  refine R_wk (okL_X12_isInRing_9 ?_ 4000 x2 0) (le_s rfl (le_s rfl (le_s rfl (le_s rfl le_n))))
  intro x2_11
  refine R_s (s_iload_n dX12_isInRing_33 rfl rfl) ?_
  refine R_s (s_iload_n dX12_isInRing_34 rfl rfl) ?_
  refine R_ite (fun h12 => ?_) (fun h12 => ?_)
  · refine R_s (s_icmp_ne_f dX12_isInRing_35 rfl h12) ?_
    refine R_s (s_iconst dX12_isInRing_38 kci_1) ?_
    refine R_s (s_goto dX12_isInRing_39 rfl) ?_
    exact R_r (r := true) (f_int (ty := .boolean) (x := gx_bi true) dX12_isInRing_43 rfl (gx_bn true))
  · refine R_s (s_icmp_ne_t dX12_isInRing_35 rfl h12) ?_
    refine R_s (s_iconst dX12_isInRing_42 kci_0) ?_
    exact R_r (r := false) (f_int (ty := .boolean) (x := gx_bi false) dX12_isInRing_43 rfl (gx_bn false))

def f_X12_draw (p1 : Int32) (μ : gx_M) : Option (Int32 × gx_M) := gx_lt (gx_uI μ 206 55 (((μ.1 206 55) * 1103515245) + 12345)) (fun (μ1 : gx_M) => gx_ck (¬ p1 = 0) (some ((((((μ1.1 206 55)).toUInt32 >>> ((16 : Int32).toUInt32 &&& Int32.toUInt32 31)).toInt32) - ((((μ1.1 206 55)).toUInt32 >>> ((16 : Int32).toUInt32 &&& Int32.toUInt32 31)).toInt32) / p1 * p1), μ1)))
theorem ev_X12_draw {E : gx_E} {l : Launch} (p1 : Int32) (μ : gx_M) {r : Int32} {μ' : gx_M} (hr : f_X12_draw p1 μ = some (r, μ')) : gEv E l 0 Y_X12_draw [.ref (E.2.2.1 + 206), .int p1] gx_G1 μ (gx_eI r) gx_G1 μ' := by
  refine W_ev (by decide) (Nat.le_of_ble_eq_true rfl) (em := gx_eI) (T := f_X12_draw p1 μ) ?_ hr
  show GoW E l Y_X12_draw 0 gx_eI 0 (gx_el [.ref (E.2.2.1 + 206), .int p1]) [] μ (f_X12_draw p1 μ)
  unfold f_X12_draw
  refine W_s (s_aload_n dX12_draw_0 rfl rfl) ?_
  refine W_s (s_aload_n dX12_draw_1 rfl rfl) ?_
  refine W_s (gf_RX12_516 rfl dX12_draw_2) ?_
  refine W_s (s_ldcw dX12_draw_5 kw_RX12_519) ?_
  refine W_s (s_imul dX12_draw_8) ?_
  refine W_s (s_sipush dX12_draw_9 kcs_12345) ?_
  refine W_s (s_iadd dX12_draw_12) ?_
  refine W_s (pf_RX12_516 rfl dX12_draw_13) ?_
  refine W_letM (fun μ1 => ?_)
  refine W_s (s_aload_n dX12_draw_16 rfl rfl) ?_
  refine W_s (gf_RX12_516 rfl dX12_draw_17) ?_
  refine W_s (s_bipush dX12_draw_20 kcb_16) ?_
  refine W_s (s_iushr dX12_draw_22) ?_
  refine W_s (s_iload_n dX12_draw_23 rfl rfl) ?_
  refine W_ck (fun h2 => ?_)
  refine W_s (s_irem dX12_draw_24 h2) ?_
  exact W_r (r := (((((μ1.1 206 55)).toUInt32 >>> ((16 : Int32).toUInt32 &&& Int32.toUInt32 31)).toInt32) - ((((μ1.1 206 55)).toUInt32 >>> ((16 : Int32).toUInt32 &&& Int32.toUInt32 31)).toInt32) / p1 * p1)) (f_int (ty := .int) dX12_draw_25 rfl rfl)

def L_X12_richest_4 (μ : gx_M) (k3 : Int32 → Option Int32) : Nat → Int32 → Int32 → Option Int32
  | 0, _, _ => none
  | n + 1, v1_1, v2_2 => if (μ.1 206 26) ≤ v2_2 then k3 v1_1 else gx_ck (gx_ix v2_2 4 = true) (gx_ck (gx_ix v1_1 4 = true) (gx_lt (fun (j0_9 : Int32) => L_X12_richest_4 μ k3 n j0_9 (v2_2 + 1)) (fun J7 => if (μ.1 218 v2_2.toNatClampNeg) ≤ (μ.1 218 v1_1.toNatClampNeg) then J7 v1_1 else J7 v2_2)))
def f_X12_richest (μ : gx_M) : Option Int32 := L_X12_richest_4 μ (fun (x1_11 : Int32) => some x1_11) 4000 0 1
theorem okL_X12_richest_4 {E : gx_E} {l : Launch} {μ : gx_M} {k3 : Int32 → Option Int32} (hk : ∀ (w10 : Int32), GoR E l Y_X12_richest 0 gx_eI 39 [none, some (.int w10)] [] μ (k3 w10)) : ∀ (n : Nat) (v1_1 : Int32) (v2_2 : Int32), GoR E l Y_X12_richest 0 gx_eI 4 [some (.ref (E.2.2.1 + 206)), some (.int v1_1), some (.int v2_2)] [] μ (L_X12_richest_4 μ k3 n v1_1 v2_2) := by
  intro n
  induction n with
  | zero => intros; exact R_no
  | succ n ih =>
    intro v1_1 v2_2
    rw [L_X12_richest_4.eq_2]
    refine R_s (s_iload_n dX12_richest_4 rfl rfl) ?_
    refine R_s (s_aload_n dX12_richest_5 rfl rfl) ?_
    refine R_s (gf_RX12_286 rfl dX12_richest_6) ?_
    refine R_ite (fun h4 => ?_) (fun h4 => ?_)
    · refine R_s (s_icmp_ge_t dX12_richest_9 rfl h4) ?_
      exact R_wk (hk v1_1) (le_o (le_s rfl le_n))
    · refine R_s (s_icmp_ge_f dX12_richest_9 rfl h4) ?_
      refine R_s (s_aload_n dX12_richest_12 rfl rfl) ?_
      refine R_s (gf_RX12_44 rfl dX12_richest_13) ?_
      refine R_s (s_iload_n dX12_richest_16 rfl rfl) ?_
      refine R_ck (fun h5 => ?_)
      refine R_s (s_iald dX12_richest_17 g_218 (gx_ixv h5)) ?_
      refine R_s (s_aload_n dX12_richest_18 rfl rfl) ?_
      refine R_s (gf_RX12_44 rfl dX12_richest_19) ?_
      refine R_s (s_iload_n dX12_richest_22 rfl rfl) ?_
      refine R_ck (fun h6 => ?_)
      refine R_s (s_iald dX12_richest_23 g_218 (gx_ixv h6)) ?_
      refine R_fun (fun J => ∀ (j0_9 : Int32), GoR E l Y_X12_richest 0 gx_eI 32 [some (.ref (E.2.2.1 + 206)), none, some (.int v2_2)] [.int j0_9] μ (J j0_9)) ?_ (fun J7 hJ7 => ?_)
      · intro j0_9
        refine R_s (s_istore_n dX12_richest_32 rfl (Nat.le_of_ble_eq_true rfl)) ?_
        refine R_s (s_iinc dX12_richest_33 rfl (kinc_1 v2_2) (Nat.le_of_ble_eq_true rfl)) ?_
        refine R_s (s_goto dX12_richest_36 rfl) ?_
        exact R_wk (ih j0_9 (v2_2 + 1)) (le_s rfl (le_s rfl (le_s rfl le_n)))
      · skip
        refine R_ite (fun h8 => ?_) (fun h8 => ?_)
        · refine R_s (s_icmp_le_t dX12_richest_24 rfl h8) ?_
          refine R_s (s_iload_n dX12_richest_31 rfl rfl) ?_
          exact R_wk (hJ7 v1_1) (le_s rfl (le_o (le_s rfl le_n)))
        · refine R_s (s_icmp_le_f dX12_richest_24 rfl h8) ?_
          refine R_s (s_iload_n dX12_richest_27 rfl rfl) ?_
          refine R_s (s_goto dX12_richest_28 rfl) ?_
          exact R_wk (hJ7 v2_2) (le_s rfl (le_o (le_s rfl le_n)))
theorem ev_X12_richest {E : gx_E} {l : Launch} (μ : gx_M) {r : Int32} (hr : f_X12_richest μ = some r) : gEv E l 0 Y_X12_richest [.ref (E.2.2.1 + 206)] gx_G1 μ (gx_eI r) gx_G1 μ := by
  refine R_ev (by decide) (Nat.le_of_ble_eq_true rfl) (em := gx_eI) (T := f_X12_richest μ) ?_ hr
  show GoR E l Y_X12_richest 0 gx_eI 0 (gx_el [.ref (E.2.2.1 + 206)]) [] μ (f_X12_richest μ)
  unfold f_X12_richest
  refine R_s (s_iconst dX12_richest_0 kci_0) ?_
  refine R_s (s_istore_n dX12_richest_1 rfl (Nat.le_of_ble_eq_true rfl)) ?_
  refine R_s (s_iconst dX12_richest_2 kci_1) ?_
  refine R_s (s_istore_n dX12_richest_3 rfl (Nat.le_of_ble_eq_true rfl)) ?_
  refine R_wk (okL_X12_richest_4 ?_ 4000 0 1) (le_s rfl (le_s rfl (le_s rfl le_n)))
  intro x1_11
  refine R_s (s_iload_n dX12_richest_39 rfl rfl) ?_
  exact R_r (r := x1_11) (f_int (ty := .int) dX12_richest_40 rfl rfl)

def L_X12_victim_4 (μ : gx_M) (k3 : Int32 → Option Int32) : Nat → Int32 → Int32 → Option Int32
  | 0, _, _ => none
  | n + 1, v1_1, v2_2 => if (μ.1 206 26) ≤ v2_2 then k3 v1_1 else gx_ck (gx_ix v2_2 4 = true) (gx_lt (fun (j0_9 : Int32) => gx_lt (fun (j0_12 : Int32) => L_X12_victim_4 μ k3 n j0_12 (v2_2 + 1)) (fun J10 => if (μ.1 223 v2_2.toNatClampNeg) ≤ j0_9 then J10 v1_1 else J10 v2_2)) (fun J6 => if v1_1 = (-1) then J6 0 else gx_ck (gx_ix v1_1 4 = true) (J6 (μ.1 223 v1_1.toNatClampNeg))))
def f_X12_victim (μ : gx_M) : Option Int32 := L_X12_victim_4 μ (fun (x1_14 : Int32) => some x1_14) 4000 (-1) 0
theorem okL_X12_victim_4 {E : gx_E} {l : Launch} {μ : gx_M} {k3 : Int32 → Option Int32} (hk : ∀ (w13 : Int32), GoR E l Y_X12_victim 0 gx_eI 48 [none, some (.int w13)] [] μ (k3 w13)) : ∀ (n : Nat) (v1_1 : Int32) (v2_2 : Int32), GoR E l Y_X12_victim 0 gx_eI 4 [some (.ref (E.2.2.1 + 206)), some (.int v1_1), some (.int v2_2)] [] μ (L_X12_victim_4 μ k3 n v1_1 v2_2) := by
  intro n
  induction n with
  | zero => intros; exact R_no
  | succ n ih =>
    intro v1_1 v2_2
    rw [L_X12_victim_4.eq_2]
    refine R_s (s_iload_n dX12_victim_4 rfl rfl) ?_
    refine R_s (s_aload_n dX12_victim_5 rfl rfl) ?_
    refine R_s (gf_RX12_286 rfl dX12_victim_6) ?_
    refine R_ite (fun h4 => ?_) (fun h4 => ?_)
    · refine R_s (s_icmp_ge_t dX12_victim_9 rfl h4) ?_
      exact R_wk (hk v1_1) (le_o (le_s rfl le_n))
    · refine R_s (s_icmp_ge_f dX12_victim_9 rfl h4) ?_
      refine R_s (s_aload_n dX12_victim_12 rfl rfl) ?_
      refine R_s (gf_RX12_60 rfl dX12_victim_13) ?_
      refine R_s (s_iload_n dX12_victim_16 rfl rfl) ?_
      refine R_ck (fun h5 => ?_)
      refine R_s (s_iald dX12_victim_17 g_223 (gx_ixv h5)) ?_
      refine R_s (s_iload_n dX12_victim_18 rfl rfl) ?_
      refine R_s (s_iconst dX12_victim_19 kci_m1) ?_
      refine R_fun (fun J => ∀ (j0_9 : Int32), GoR E l Y_X12_victim 0 gx_eI 33 [some (.ref (E.2.2.1 + 206)), some (.int v1_1), some (.int v2_2)] [.int j0_9, .int (μ.1 223 v2_2.toNatClampNeg)] μ (J j0_9)) ?_ (fun J6 hJ6 => ?_)
      · intro j0_9
        refine R_fun (fun J => ∀ (j0_12 : Int32), GoR E l Y_X12_victim 0 gx_eI 41 [some (.ref (E.2.2.1 + 206)), none, some (.int v2_2)] [.int j0_12] μ (J j0_12)) ?_ (fun J10 hJ10 => ?_)
        · intro j0_12
          refine R_s (s_istore_n dX12_victim_41 rfl (Nat.le_of_ble_eq_true rfl)) ?_
          refine R_s (s_iinc dX12_victim_42 rfl (kinc_1 v2_2) (Nat.le_of_ble_eq_true rfl)) ?_
          refine R_s (s_goto dX12_victim_45 rfl) ?_
          exact R_wk (ih j0_12 (v2_2 + 1)) (le_s rfl (le_s rfl (le_s rfl le_n)))
        · skip
          refine R_ite (fun h11 => ?_) (fun h11 => ?_)
          · refine R_s (s_icmp_le_t dX12_victim_33 rfl h11) ?_
            refine R_s (s_iload_n dX12_victim_40 rfl rfl) ?_
            exact R_wk (hJ10 v1_1) (le_s rfl (le_o (le_s rfl le_n)))
          · refine R_s (s_icmp_le_f dX12_victim_33 rfl h11) ?_
            refine R_s (s_iload_n dX12_victim_36 rfl rfl) ?_
            refine R_s (s_goto dX12_victim_37 rfl) ?_
            exact R_wk (hJ10 v2_2) (le_s rfl (le_o (le_s rfl le_n)))
      · skip
        refine R_ite (fun h7 => ?_) (fun h7 => ?_)
        · refine R_s (s_icmp_ne_f dX12_victim_20 rfl h7) ?_
          refine R_s (s_iconst dX12_victim_23 kci_0) ?_
          refine R_s (s_goto dX12_victim_24 rfl) ?_
          exact R_wk (hJ6 0) (le_s rfl (le_s rfl (le_s rfl le_n)))
        · refine R_s (s_icmp_ne_t dX12_victim_20 rfl h7) ?_
          refine R_s (s_aload_n dX12_victim_27 rfl rfl) ?_
          refine R_s (gf_RX12_60 rfl dX12_victim_28) ?_
          refine R_s (s_iload_n dX12_victim_31 rfl rfl) ?_
          refine R_ck (fun h8 => ?_)
          refine R_s (s_iald dX12_victim_32 g_223 (gx_ixv h8)) ?_
          exact R_wk (hJ6 (μ.1 223 v1_1.toNatClampNeg)) (le_s rfl (le_s rfl (le_s rfl le_n)))
theorem ev_X12_victim {E : gx_E} {l : Launch} (μ : gx_M) {r : Int32} (hr : f_X12_victim μ = some r) : gEv E l 0 Y_X12_victim [.ref (E.2.2.1 + 206)] gx_G1 μ (gx_eI r) gx_G1 μ := by
  refine R_ev (by decide) (Nat.le_of_ble_eq_true rfl) (em := gx_eI) (T := f_X12_victim μ) ?_ hr
  show GoR E l Y_X12_victim 0 gx_eI 0 (gx_el [.ref (E.2.2.1 + 206)]) [] μ (f_X12_victim μ)
  unfold f_X12_victim
  refine R_s (s_iconst dX12_victim_0 kci_m1) ?_
  refine R_s (s_istore_n dX12_victim_1 rfl (Nat.le_of_ble_eq_true rfl)) ?_
  refine R_s (s_iconst dX12_victim_2 kci_0) ?_
  refine R_s (s_istore_n dX12_victim_3 rfl (Nat.le_of_ble_eq_true rfl)) ?_
  refine R_wk (okL_X12_victim_4 ?_ 4000 (-1) 0) (le_s rfl (le_s rfl (le_s rfl le_n)))
  intro x1_14
  refine R_s (s_iload_n dX12_victim_48 rfl rfl) ?_
  exact R_r (r := x1_14) (f_int (ty := .int) dX12_victim_49 rfl rfl)

def L_X12_restless_4 (μ : gx_M) (k3 : Int32 → Option Int32) : Nat → Int32 → Int32 → Option Int32
  | 0, _, _ => none
  | n + 1, v1_1, v2_2 => if (μ.1 206 25) ≤ v2_2 then k3 v1_1 else gx_ck (gx_ix v2_2 40 = true) (gx_lt (fun (j0_9 : Int32) => gx_lt (fun (j0_12 : Int32) => L_X12_restless_4 μ k3 n j0_12 (v2_2 + 1)) (fun J10 => if (μ.1 224 v2_2.toNatClampNeg) ≤ j0_9 then J10 v1_1 else J10 v2_2)) (fun J6 => if v1_1 = (-1) then J6 0 else gx_ck (gx_ix v1_1 40 = true) (J6 (μ.1 224 v1_1.toNatClampNeg))))
def f_X12_restless (μ : gx_M) : Option Int32 := L_X12_restless_4 μ (fun (x1_14 : Int32) => some x1_14) 4000 (-1) 0
theorem okL_X12_restless_4 {E : gx_E} {l : Launch} {μ : gx_M} {k3 : Int32 → Option Int32} (hk : ∀ (w13 : Int32), GoR E l Y_X12_restless 0 gx_eI 48 [none, some (.int w13)] [] μ (k3 w13)) : ∀ (n : Nat) (v1_1 : Int32) (v2_2 : Int32), GoR E l Y_X12_restless 0 gx_eI 4 [some (.ref (E.2.2.1 + 206)), some (.int v1_1), some (.int v2_2)] [] μ (L_X12_restless_4 μ k3 n v1_1 v2_2) := by
  intro n
  induction n with
  | zero => intros; exact R_no
  | succ n ih =>
    intro v1_1 v2_2
    rw [L_X12_restless_4.eq_2]
    refine R_s (s_iload_n dX12_restless_4 rfl rfl) ?_
    refine R_s (s_aload_n dX12_restless_5 rfl rfl) ?_
    refine R_s (gf_RX12_283 rfl dX12_restless_6) ?_
    refine R_ite (fun h4 => ?_) (fun h4 => ?_)
    · refine R_s (s_icmp_ge_t dX12_restless_9 rfl h4) ?_
      exact R_wk (hk v1_1) (le_o (le_s rfl le_n))
    · refine R_s (s_icmp_ge_f dX12_restless_9 rfl h4) ?_
      refine R_s (s_aload_n dX12_restless_12 rfl rfl) ?_
      refine R_s (gf_RX12_63 rfl dX12_restless_13) ?_
      refine R_s (s_iload_n dX12_restless_16 rfl rfl) ?_
      refine R_ck (fun h5 => ?_)
      refine R_s (s_iald dX12_restless_17 g_224 (gx_ixv h5)) ?_
      refine R_s (s_iload_n dX12_restless_18 rfl rfl) ?_
      refine R_s (s_iconst dX12_restless_19 kci_m1) ?_
      refine R_fun (fun J => ∀ (j0_9 : Int32), GoR E l Y_X12_restless 0 gx_eI 33 [some (.ref (E.2.2.1 + 206)), some (.int v1_1), some (.int v2_2)] [.int j0_9, .int (μ.1 224 v2_2.toNatClampNeg)] μ (J j0_9)) ?_ (fun J6 hJ6 => ?_)
      · intro j0_9
        refine R_fun (fun J => ∀ (j0_12 : Int32), GoR E l Y_X12_restless 0 gx_eI 41 [some (.ref (E.2.2.1 + 206)), none, some (.int v2_2)] [.int j0_12] μ (J j0_12)) ?_ (fun J10 hJ10 => ?_)
        · intro j0_12
          refine R_s (s_istore_n dX12_restless_41 rfl (Nat.le_of_ble_eq_true rfl)) ?_
          refine R_s (s_iinc dX12_restless_42 rfl (kinc_1 v2_2) (Nat.le_of_ble_eq_true rfl)) ?_
          refine R_s (s_goto dX12_restless_45 rfl) ?_
          exact R_wk (ih j0_12 (v2_2 + 1)) (le_s rfl (le_s rfl (le_s rfl le_n)))
        · skip
          refine R_ite (fun h11 => ?_) (fun h11 => ?_)
          · refine R_s (s_icmp_le_t dX12_restless_33 rfl h11) ?_
            refine R_s (s_iload_n dX12_restless_40 rfl rfl) ?_
            exact R_wk (hJ10 v1_1) (le_s rfl (le_o (le_s rfl le_n)))
          · refine R_s (s_icmp_le_f dX12_restless_33 rfl h11) ?_
            refine R_s (s_iload_n dX12_restless_36 rfl rfl) ?_
            refine R_s (s_goto dX12_restless_37 rfl) ?_
            exact R_wk (hJ10 v2_2) (le_s rfl (le_o (le_s rfl le_n)))
      · skip
        refine R_ite (fun h7 => ?_) (fun h7 => ?_)
        · refine R_s (s_icmp_ne_f dX12_restless_20 rfl h7) ?_
          refine R_s (s_iconst dX12_restless_23 kci_0) ?_
          refine R_s (s_goto dX12_restless_24 rfl) ?_
          exact R_wk (hJ6 0) (le_s rfl (le_s rfl (le_s rfl le_n)))
        · refine R_s (s_icmp_ne_t dX12_restless_20 rfl h7) ?_
          refine R_s (s_aload_n dX12_restless_27 rfl rfl) ?_
          refine R_s (gf_RX12_63 rfl dX12_restless_28) ?_
          refine R_s (s_iload_n dX12_restless_31 rfl rfl) ?_
          refine R_ck (fun h8 => ?_)
          refine R_s (s_iald dX12_restless_32 g_224 (gx_ixv h8)) ?_
          exact R_wk (hJ6 (μ.1 224 v1_1.toNatClampNeg)) (le_s rfl (le_s rfl (le_s rfl le_n)))
theorem ev_X12_restless {E : gx_E} {l : Launch} (μ : gx_M) {r : Int32} (hr : f_X12_restless μ = some r) : gEv E l 0 Y_X12_restless [.ref (E.2.2.1 + 206)] gx_G1 μ (gx_eI r) gx_G1 μ := by
  refine R_ev (by decide) (Nat.le_of_ble_eq_true rfl) (em := gx_eI) (T := f_X12_restless μ) ?_ hr
  show GoR E l Y_X12_restless 0 gx_eI 0 (gx_el [.ref (E.2.2.1 + 206)]) [] μ (f_X12_restless μ)
  unfold f_X12_restless
  refine R_s (s_iconst dX12_restless_0 kci_m1) ?_
  refine R_s (s_istore_n dX12_restless_1 rfl (Nat.le_of_ble_eq_true rfl)) ?_
  refine R_s (s_iconst dX12_restless_2 kci_0) ?_
  refine R_s (s_istore_n dX12_restless_3 rfl (Nat.le_of_ble_eq_true rfl)) ?_
  refine R_wk (okL_X12_restless_4 ?_ 4000 (-1) 0) (le_s rfl (le_s rfl (le_s rfl le_n)))
  intro x1_14
  refine R_s (s_iload_n dX12_restless_48 rfl rfl) ?_
  exact R_r (r := x1_14) (f_int (ty := .int) dX12_restless_49 rfl rfl)

def L_X12_ones_4 (p0 : Int32) (k3 : Int32 → Option Int32) : Nat → Int32 → Int32 → Option Int32
  | 0, _, _ => none
  | n + 1, v1_1, v2_2 => if 6 ≤ v2_2 then k3 v1_1 else gx_lt (fun (j0_7 : Bool) => gx_lt (v1_1 + (gx_bi j0_7)) (fun (x8 : Int32) => L_X12_ones_4 p0 k3 n x8 (v2_2 + 1))) (fun J5 => if (f_X12_has p0 v2_2) = true then J5 true else J5 false)
def f_X12_ones (p0 : Int32) (μ : gx_M) : Option Int32 := L_X12_ones_4 p0 (fun (x1_10 : Int32) => some x1_10) 4000 0 0
theorem okL_X12_ones_4 {E : gx_E} {l : Launch} {p0 : Int32} {μ : gx_M} {k3 : Int32 → Option Int32} (hk : ∀ (w9 : Int32), GoR E l Y_X12_ones 1 gx_eI 32 [none, some (.int w9)] [] μ (k3 w9)) : ∀ (n : Nat) (v1_1 : Int32) (v2_2 : Int32), GoR E l Y_X12_ones 1 gx_eI 4 [some (.int p0), some (.int v1_1), some (.int v2_2)] [] μ (L_X12_ones_4 p0 k3 n v1_1 v2_2) := by
  intro n
  induction n with
  | zero => intros; exact R_no
  | succ n ih =>
    intro v1_1 v2_2
    rw [L_X12_ones_4.eq_2]
    refine R_s (s_iload_n dX12_ones_4 rfl rfl) ?_
    refine R_s (s_bipush dX12_ones_5 kcb_6) ?_
    refine R_ite (fun h4 => ?_) (fun h4 => ?_)
    · refine R_s (s_icmp_ge_t dX12_ones_7 rfl h4) ?_
      exact R_wk (hk v1_1) (le_o (le_s rfl le_n))
    · refine R_s (s_icmp_ge_f dX12_ones_7 rfl h4) ?_
      refine R_s (s_iload_n dX12_ones_10 rfl rfl) ?_
      refine R_s (s_iload_n dX12_ones_11 rfl rfl) ?_
      refine R_s (s_iload_n dX12_ones_12 rfl rfl) ?_
      refine R_s (s_callS (As := [.int _, .int _]) dX12_ones_13 Lk_RX12_104 rfl (Nat.le_of_ble_eq_true rfl) (Nat.le_of_ble_eq_true rfl) (ev_X12_has p0 v2_2 μ)) ?_
      refine R_fun (fun J => ∀ (j0_7 : Bool), GoR E l Y_X12_ones 1 gx_eI 24 [some (.int p0), none, some (.int v2_2)] [.int (gx_bi j0_7), .int v1_1] μ (J j0_7)) ?_ (fun J5 hJ5 => ?_)
      · intro j0_7
        refine R_s (s_iadd dX12_ones_24) ?_
        refine R_letI (fun x8 => ?_)
        refine R_s (s_istore_n dX12_ones_25 rfl (Nat.le_of_ble_eq_true rfl)) ?_
        refine R_s (s_iinc dX12_ones_26 rfl (kinc_1 v2_2) (Nat.le_of_ble_eq_true rfl)) ?_
        refine R_s (s_goto dX12_ones_29 rfl) ?_
        exact R_wk (ih x8 (v2_2 + 1)) (le_s rfl (le_s rfl (le_s rfl le_n)))
      · skip
        refine R_ite (fun h6 => ?_) (fun h6 => ?_)
        · refine R_s (s_if_eq_f dX12_ones_16 rfl (gx_bt h6)) ?_
          refine R_s (s_iconst dX12_ones_19 kci_1) ?_
          refine R_s (s_goto dX12_ones_20 rfl) ?_
          exact R_wk (hJ5 true) (le_s rfl (le_o (le_s rfl le_n)))
        · refine R_s (s_if_eq_t dX12_ones_16 rfl (gx_bf h6)) ?_
          refine R_s (s_iconst dX12_ones_23 kci_0) ?_
          exact R_wk (hJ5 false) (le_s rfl (le_o (le_s rfl le_n)))
theorem ev_X12_ones {E : gx_E} {l : Launch} (p0 : Int32) (μ : gx_M) {r : Int32} (hr : f_X12_ones p0 μ = some r) : gEv E l 1 Y_X12_ones [.int p0] gx_G1 μ (gx_eI r) gx_G1 μ := by
  refine R_ev (by decide) (Nat.le_of_ble_eq_true rfl) (em := gx_eI) (T := f_X12_ones p0 μ) ?_ hr
  show GoR E l Y_X12_ones 1 gx_eI 0 (gx_el [.int p0]) [] μ (f_X12_ones p0 μ)
  unfold f_X12_ones
  refine R_s (s_iconst dX12_ones_0 kci_0) ?_
  refine R_s (s_istore_n dX12_ones_1 rfl (Nat.le_of_ble_eq_true rfl)) ?_
  refine R_s (s_iconst dX12_ones_2 kci_0) ?_
  refine R_s (s_istore_n dX12_ones_3 rfl (Nat.le_of_ble_eq_true rfl)) ?_
  refine R_wk (okL_X12_ones_4 ?_ 4000 0 0) (le_s rfl (le_s rfl (le_s rfl le_n)))
  intro x1_10
  refine R_s (s_iload_n dX12_ones_32 rfl rfl) ?_
  exact R_r (r := x1_10) (f_int (ty := .int) dX12_ones_33 rfl rfl)

def L_X12_copyAll_2 (p1 : Int32) (p2 : Int32) (k3 : gx_M → Option (Unit × gx_M)) : Nat → Int32 → gx_M → Option (Unit × gx_M)
  | 0, _, _ => none
  | n + 1, v3_1, μ2 => if 600 ≤ v3_1 then k3 μ2 else gx_ck (gx_ix (((600 : Int32) * p1) + v3_1) 2400 = true) (gx_ck (gx_ix (((600 : Int32) * p2) + v3_1) 2400 = true) (gx_lt (gx_uI μ2 207 (((600 : Int32) * p2) + v3_1).toNatClampNeg (vp_nar .byte (μ2.1 207 (((600 : Int32) * p1) + v3_1).toNatClampNeg))) (fun (μ7 : gx_M) => L_X12_copyAll_2 p1 p2 k3 n (v3_1 + 1) μ7)))
def f_X12_copyAll (p1 : Int32) (p2 : Int32) (μ : gx_M) : Option (Unit × gx_M) := L_X12_copyAll_2 p1 p2 (fun (μ9 : gx_M) => gx_bd (f_X12_copyRow 208 4 1 p1 p2 μ9) (fun (r10 : Unit) (μ11 : gx_M) => gx_bd (f_X12_copyRow 209 4 1 p1 p2 μ11) (fun (r12 : Unit) (μ13 : gx_M) => gx_bd (f_X12_copyRow 210 4 1 p1 p2 μ13) (fun (r14 : Unit) (μ15 : gx_M) => gx_bd (f_X12_copyRow 211 16 4 p1 p2 μ15) (fun (r16 : Unit) (μ17 : gx_M) => gx_bd (f_X12_copyRow 212 888 222 p1 p2 μ17) (fun (r18 : Unit) (μ19 : gx_M) => gx_bd (f_X12_copyRow 213 1288 322 p1 p2 μ19) (fun (r20 : Unit) (μ21 : gx_M) => gx_bd (f_X12_copyRow 214 136 34 p1 p2 μ21) (fun (r22 : Unit) (μ23 : gx_M) => gx_bd (f_X12_copyRow 215 296 74 p1 p2 μ23) (fun (r24 : Unit) (μ25 : gx_M) => some ((), μ25)))))))))) 4000 0 μ
theorem okL_X12_copyAll_2 {E : gx_E} {l : Launch} {p1 : Int32} {p2 : Int32} {k3 : gx_M → Option (Unit × gx_M)} (hk : ∀ (μ8 : gx_M), GoW E l Y_X12_copyAll 1 gx_eV 39 [some (.ref (E.2.2.1 + 206)), some (.int p1), some (.int p2)] [] μ8 (k3 μ8)) : ∀ (n : Nat) (v3_1 : Int32) (μ2 : gx_M), GoW E l Y_X12_copyAll 1 gx_eV 2 [some (.ref (E.2.2.1 + 206)), some (.int p1), some (.int p2), some (.int v3_1)] [] μ2 (L_X12_copyAll_2 p1 p2 k3 n v3_1 μ2) := by
  intro n
  induction n with
  | zero => intros; exact W_no
  | succ n ih =>
    intro v3_1 μ2
    rw [L_X12_copyAll_2.eq_2]
    refine W_s (s_iload_n dX12_copyAll_2 rfl rfl) ?_
    refine W_s (s_sipush dX12_copyAll_3 kcs_600) ?_
    refine W_ite (fun h4 => ?_) (fun h4 => ?_)
    · refine W_s (s_icmp_ge_t dX12_copyAll_6 rfl h4) ?_
      exact W_wk (hk μ2) (le_s rfl (le_s rfl (le_s rfl le_n)))
    · refine W_s (s_icmp_ge_f dX12_copyAll_6 rfl h4) ?_
      refine W_s (s_aload_n dX12_copyAll_9 rfl rfl) ?_
      refine W_s (gf_RX12_7 rfl dX12_copyAll_10) ?_
      refine W_s (s_sipush dX12_copyAll_13 kcs_600) ?_
      refine W_s (s_iload_n dX12_copyAll_16 rfl rfl) ?_
      refine W_s (s_imul dX12_copyAll_17) ?_
      refine W_s (s_iload_n dX12_copyAll_18 rfl rfl) ?_
      refine W_s (s_iadd dX12_copyAll_19) ?_
      refine W_s (s_aload_n dX12_copyAll_20 rfl rfl) ?_
      refine W_s (gf_RX12_7 rfl dX12_copyAll_21) ?_
      refine W_s (s_sipush dX12_copyAll_24 kcs_600) ?_
      refine W_s (s_iload_n dX12_copyAll_27 rfl rfl) ?_
      refine W_s (s_imul dX12_copyAll_28) ?_
      refine W_s (s_iload_n dX12_copyAll_29 rfl rfl) ?_
      refine W_s (s_iadd dX12_copyAll_30) ?_
      refine W_ck (fun h5 => ?_)
      refine W_s (s_bald dX12_copyAll_31 g_207 (gx_ixv h5)) ?_
      refine W_ck (fun h6 => ?_)
      refine W_s (s_bast dX12_copyAll_32 g_207 (gx_ixv h6)) ?_
      refine W_letM (fun μ7 => ?_)
      refine W_s (s_iinc dX12_copyAll_33 rfl (kinc_1 v3_1) (Nat.le_of_ble_eq_true rfl)) ?_
      refine W_s (s_goto dX12_copyAll_36 rfl) ?_
      exact W_wk (ih (v3_1 + 1) μ7) (le_s rfl (le_s rfl (le_s rfl (le_s rfl le_n))))
theorem ev_X12_copyAll {E : gx_E} {l : Launch} (p1 : Int32) (p2 : Int32) (μ : gx_M) {r : Unit} {μ' : gx_M} (hr : f_X12_copyAll p1 p2 μ = some (r, μ')) : gEv E l 1 Y_X12_copyAll [.ref (E.2.2.1 + 206), .int p1, .int p2] gx_G1 μ (gx_eV r) gx_G1 μ' := by
  refine W_ev (by decide) (Nat.le_of_ble_eq_true rfl) (em := gx_eV) (T := f_X12_copyAll p1 p2 μ) ?_ hr
  show GoW E l Y_X12_copyAll 1 gx_eV 0 (gx_el [.ref (E.2.2.1 + 206), .int p1, .int p2]) [] μ (f_X12_copyAll p1 p2 μ)
  unfold f_X12_copyAll
  refine W_s (s_iconst dX12_copyAll_0 kci_0) ?_
  refine W_s (s_istore_n dX12_copyAll_1 rfl (Nat.le_of_ble_eq_true rfl)) ?_
  refine W_wk (okL_X12_copyAll_2 ?_ 4000 0 μ) (le_s rfl (le_s rfl (le_s rfl (le_s rfl le_n))))
  intro μ9
  refine W_s (s_aload_n dX12_copyAll_39 rfl rfl) ?_
  refine W_s (gf_RX12_13 rfl dX12_copyAll_40) ?_
  refine W_s (s_iconst dX12_copyAll_43 kci_1) ?_
  refine W_s (s_iload_n dX12_copyAll_44 rfl rfl) ?_
  refine W_s (s_iload_n dX12_copyAll_45 rfl rfl) ?_
  refine W_bd (ec := gx_eV) (fun r_ μ_ hr_ => s_callS (As := [.ref _, .int _, .int _, .int _]) dX12_copyAll_46 Lk_RX12_108 rfl (Nat.le_of_ble_eq_true rfl) (Nat.le_of_ble_eq_true rfl) (ev_X12_copyRow 208 4 1 p1 p2 g_208 μ9 hr_)) (fun r10 μ11 => ?_)
  refine W_s (s_aload_n dX12_copyAll_49 rfl rfl) ?_
  refine W_s (gf_RX12_17 rfl dX12_copyAll_50) ?_
  refine W_s (s_iconst dX12_copyAll_53 kci_1) ?_
  refine W_s (s_iload_n dX12_copyAll_54 rfl rfl) ?_
  refine W_s (s_iload_n dX12_copyAll_55 rfl rfl) ?_
  refine W_bd (ec := gx_eV) (fun r_ μ_ hr_ => s_callS (As := [.ref _, .int _, .int _, .int _]) dX12_copyAll_56 Lk_RX12_108 rfl (Nat.le_of_ble_eq_true rfl) (Nat.le_of_ble_eq_true rfl) (ev_X12_copyRow 209 4 1 p1 p2 g_209 μ11 hr_)) (fun r12 μ13 => ?_)
  refine W_s (s_aload_n dX12_copyAll_59 rfl rfl) ?_
  refine W_s (gf_RX12_20 rfl dX12_copyAll_60) ?_
  refine W_s (s_iconst dX12_copyAll_63 kci_1) ?_
  refine W_s (s_iload_n dX12_copyAll_64 rfl rfl) ?_
  refine W_s (s_iload_n dX12_copyAll_65 rfl rfl) ?_
  refine W_bd (ec := gx_eV) (fun r_ μ_ hr_ => s_callS (As := [.ref _, .int _, .int _, .int _]) dX12_copyAll_66 Lk_RX12_108 rfl (Nat.le_of_ble_eq_true rfl) (Nat.le_of_ble_eq_true rfl) (ev_X12_copyRow 210 4 1 p1 p2 g_210 μ13 hr_)) (fun r14 μ15 => ?_)
  refine W_s (s_aload_n dX12_copyAll_69 rfl rfl) ?_
  refine W_s (gf_RX12_23 rfl dX12_copyAll_70) ?_
  refine W_s (s_iconst dX12_copyAll_73 kci_4) ?_
  refine W_s (s_iload_n dX12_copyAll_74 rfl rfl) ?_
  refine W_s (s_iload_n dX12_copyAll_75 rfl rfl) ?_
  refine W_bd (ec := gx_eV) (fun r_ μ_ hr_ => s_callS (As := [.ref _, .int _, .int _, .int _]) dX12_copyAll_76 Lk_RX12_108 rfl (Nat.le_of_ble_eq_true rfl) (Nat.le_of_ble_eq_true rfl) (ev_X12_copyRow 211 16 4 p1 p2 g_211 μ15 hr_)) (fun r16 μ17 => ?_)
  refine W_s (s_aload_n dX12_copyAll_79 rfl rfl) ?_
  refine W_s (gf_RX12_26 rfl dX12_copyAll_80) ?_
  refine W_s (s_sipush dX12_copyAll_83 kcs_222) ?_
  refine W_s (s_iload_n dX12_copyAll_86 rfl rfl) ?_
  refine W_s (s_iload_n dX12_copyAll_87 rfl rfl) ?_
  refine W_bd (ec := gx_eV) (fun r_ μ_ hr_ => s_callS (As := [.ref _, .int _, .int _, .int _]) dX12_copyAll_88 Lk_RX12_108 rfl (Nat.le_of_ble_eq_true rfl) (Nat.le_of_ble_eq_true rfl) (ev_X12_copyRow 212 888 222 p1 p2 g_212 μ17 hr_)) (fun r18 μ19 => ?_)
  refine W_s (s_aload_n dX12_copyAll_91 rfl rfl) ?_
  refine W_s (gf_RX12_29 rfl dX12_copyAll_92) ?_
  refine W_s (s_sipush dX12_copyAll_95 kcs_322) ?_
  refine W_s (s_iload_n dX12_copyAll_98 rfl rfl) ?_
  refine W_s (s_iload_n dX12_copyAll_99 rfl rfl) ?_
  refine W_bd (ec := gx_eV) (fun r_ μ_ hr_ => s_callS (As := [.ref _, .int _, .int _, .int _]) dX12_copyAll_100 Lk_RX12_108 rfl (Nat.le_of_ble_eq_true rfl) (Nat.le_of_ble_eq_true rfl) (ev_X12_copyRow 213 1288 322 p1 p2 g_213 μ19 hr_)) (fun r20 μ21 => ?_)
  refine W_s (s_aload_n dX12_copyAll_103 rfl rfl) ?_
  refine W_s (gf_RX12_32 rfl dX12_copyAll_104) ?_
  refine W_s (s_bipush dX12_copyAll_107 kcb_34) ?_
  refine W_s (s_iload_n dX12_copyAll_109 rfl rfl) ?_
  refine W_s (s_iload_n dX12_copyAll_110 rfl rfl) ?_
  refine W_bd (ec := gx_eV) (fun r_ μ_ hr_ => s_callS (As := [.ref _, .int _, .int _, .int _]) dX12_copyAll_111 Lk_RX12_108 rfl (Nat.le_of_ble_eq_true rfl) (Nat.le_of_ble_eq_true rfl) (ev_X12_copyRow 214 136 34 p1 p2 g_214 μ21 hr_)) (fun r22 μ23 => ?_)
  refine W_s (s_aload_n dX12_copyAll_114 rfl rfl) ?_
  refine W_s (gf_RX12_35 rfl dX12_copyAll_115) ?_
  refine W_s (s_bipush dX12_copyAll_118 kcb_74) ?_
  refine W_s (s_iload_n dX12_copyAll_120 rfl rfl) ?_
  refine W_s (s_iload_n dX12_copyAll_121 rfl rfl) ?_
  refine W_bd (ec := gx_eV) (fun r_ μ_ hr_ => s_callS (As := [.ref _, .int _, .int _, .int _]) dX12_copyAll_122 Lk_RX12_108 rfl (Nat.le_of_ble_eq_true rfl) (Nat.le_of_ble_eq_true rfl) (ev_X12_copyRow 215 296 74 p1 p2 g_215 μ23 hr_)) (fun r24 μ25 => ?_)
  exact W_r (r := ()) (f_void dX12_copyAll_125 rfl)

def f_X12_is (p1 : Int32) (p2 : Int32) (μ : gx_M) : Option Bool := gx_ck (gx_ix p1 16 = true) (some (f_X12_in p2 0 ((μ.1 211 p1.toNatClampNeg) - 1)))
theorem ev_X12_is {E : gx_E} {l : Launch} (p1 : Int32) (p2 : Int32) (μ : gx_M) {r : Bool} (hr : f_X12_is p1 p2 μ = some r) : gEv E l 1 Y_X12_is [.ref (E.2.2.1 + 206), .int p1, .int p2] gx_G1 μ (gx_eB r) gx_G1 μ := by
  refine R_ev (by decide) (Nat.le_of_ble_eq_true rfl) (em := gx_eB) (T := f_X12_is p1 p2 μ) ?_ hr
  show GoR E l Y_X12_is 1 gx_eB 0 (gx_el [.ref (E.2.2.1 + 206), .int p1, .int p2]) [] μ (f_X12_is p1 p2 μ)
  unfold f_X12_is
  refine R_s (s_iload_n dX12_is_0 rfl rfl) ?_
  refine R_s (s_iconst dX12_is_1 kci_0) ?_
  refine R_s (s_aload_n dX12_is_2 rfl rfl) ?_
  refine R_s (gf_RX12_23 rfl dX12_is_3) ?_
  refine R_s (s_iload_n dX12_is_6 rfl rfl) ?_
  refine R_ck (fun h1 => ?_)
  refine R_s (s_iald dX12_is_7 g_211 (gx_ixv h1)) ?_
  refine R_s (s_iconst dX12_is_8 kci_1) ?_
  refine R_s (s_isub dX12_is_9) ?_
  refine R_s (s_callS (As := [.int _, .int _, .int _]) dX12_is_10 Lk_RX12_112 rfl (Nat.le_of_ble_eq_true rfl) (Nat.le_of_ble_eq_true rfl) (ev_X12_in p2 0 ((μ.1 211 p1.toNatClampNeg) - 1) μ)) ?_
  exact R_r (r := (f_X12_in p2 0 ((μ.1 211 p1.toNatClampNeg) - 1))) (f_int (ty := .boolean) (x := gx_bi (f_X12_in p2 0 ((μ.1 211 p1.toNatClampNeg) - 1))) dX12_is_13 rfl (gx_bn (f_X12_in p2 0 ((μ.1 211 p1.toNatClampNeg) - 1))))

def f_X12_feed (p1 : Int32) (p2 : Int32) (p3 : Int32) (p4 : Int32) (p5 : Int32) (μ : gx_M) : Option (Int32 × gx_M) := gx_lt (gx_uI μ 206 0 0) (fun (μ1 : gx_M) => if ((μ1.1 208 0) + 20) ≤ 600 then gx_bd (f_X12_four p1 μ1) (fun (r3 : Unit) (μ4 : gx_M) => gx_bd (f_X12_four p2 μ4) (fun (r5 : Unit) (μ6 : gx_M) => gx_bd (f_X12_four p3 μ6) (fun (r7 : Unit) (μ8 : gx_M) => gx_bd (f_X12_four p4 μ8) (fun (r9 : Unit) (μ10 : gx_M) => gx_bd (f_X12_four p5 μ10) (fun (r11 : Unit) (μ12 : gx_M) => some ((μ12.1 208 0), μ12)))))) else some ((-1), μ1))
theorem ev_X12_feed {E : gx_E} {l : Launch} (p1 : Int32) (p2 : Int32) (p3 : Int32) (p4 : Int32) (p5 : Int32) (μ : gx_M) {r : Int32} {μ' : gx_M} (hr : f_X12_feed p1 p2 p3 p4 p5 μ = some (r, μ')) : gEv E l 1 Y_X12_feed [.ref (E.2.2.1 + 206), .int p1, .int p2, .int p3, .int p4, .int p5] gx_G1 μ (gx_eI r) gx_G1 μ' := by
  refine W_ev (by decide) (Nat.le_of_ble_eq_true rfl) (em := gx_eI) (T := f_X12_feed p1 p2 p3 p4 p5 μ) ?_ hr
  show GoW E l Y_X12_feed 1 gx_eI 0 (gx_el [.ref (E.2.2.1 + 206), .int p1, .int p2, .int p3, .int p4, .int p5]) [] μ (f_X12_feed p1 p2 p3 p4 p5 μ)
  unfold f_X12_feed
  refine W_s (s_aload_n dX12_feed_0 rfl rfl) ?_
  refine W_s (s_iconst dX12_feed_1 kci_0) ?_
  refine W_s (pf_RX12_100 rfl dX12_feed_2) ?_
  refine W_letM (fun μ1 => ?_)
  refine W_s (s_aload_n dX12_feed_5 rfl rfl) ?_
  refine W_s (gf_RX12_13 rfl dX12_feed_6) ?_
  refine W_s (s_iconst dX12_feed_9 kci_0) ?_
  refine W_s (s_ialdL (k := 0) dX12_feed_10 g_208 (gx_inl (by decide)) (by decide)) ?_
  refine W_s (s_bipush dX12_feed_11 kcb_20) ?_
  refine W_s (s_iadd dX12_feed_13) ?_
  refine W_s (s_sipush dX12_feed_14 kcs_600) ?_
  refine W_ite (fun h2 => ?_) (fun h2 => ?_)
  · refine W_s (s_icmp_le_t dX12_feed_17 rfl h2) ?_
    refine W_s (s_aload_n dX12_feed_22 rfl rfl) ?_
    refine W_s (s_iload_n dX12_feed_23 rfl rfl) ?_
    refine W_bd (ec := gx_eV) (fun r_ μ_ hr_ => s_callV (As := [.int _]) dX12_feed_24 Lk_RX12_116 rfl g_206 (by decide) rfl (Nat.le_of_ble_eq_true rfl) (Nat.le_of_ble_eq_true rfl) (ev_X12_four p1 μ1 hr_)) (fun r3 μ4 => ?_)
    refine W_s (s_aload_n dX12_feed_27 rfl rfl) ?_
    refine W_s (s_iload_n dX12_feed_28 rfl rfl) ?_
    refine W_bd (ec := gx_eV) (fun r_ μ_ hr_ => s_callV (As := [.int _]) dX12_feed_29 Lk_RX12_116 rfl g_206 (by decide) rfl (Nat.le_of_ble_eq_true rfl) (Nat.le_of_ble_eq_true rfl) (ev_X12_four p2 μ4 hr_)) (fun r5 μ6 => ?_)
    refine W_s (s_aload_n dX12_feed_32 rfl rfl) ?_
    refine W_s (s_iload_n dX12_feed_33 rfl rfl) ?_
    refine W_bd (ec := gx_eV) (fun r_ μ_ hr_ => s_callV (As := [.int _]) dX12_feed_34 Lk_RX12_116 rfl g_206 (by decide) rfl (Nat.le_of_ble_eq_true rfl) (Nat.le_of_ble_eq_true rfl) (ev_X12_four p3 μ6 hr_)) (fun r7 μ8 => ?_)
    refine W_s (s_aload_n dX12_feed_37 rfl rfl) ?_
    refine W_s (s_iload dX12_feed_38 rfl) ?_
    refine W_bd (ec := gx_eV) (fun r_ μ_ hr_ => s_callV (As := [.int _]) dX12_feed_40 Lk_RX12_116 rfl g_206 (by decide) rfl (Nat.le_of_ble_eq_true rfl) (Nat.le_of_ble_eq_true rfl) (ev_X12_four p4 μ8 hr_)) (fun r9 μ10 => ?_)
    refine W_s (s_aload_n dX12_feed_43 rfl rfl) ?_
    refine W_s (s_iload dX12_feed_44 rfl) ?_
    refine W_bd (ec := gx_eV) (fun r_ μ_ hr_ => s_callV (As := [.int _]) dX12_feed_46 Lk_RX12_116 rfl g_206 (by decide) rfl (Nat.le_of_ble_eq_true rfl) (Nat.le_of_ble_eq_true rfl) (ev_X12_four p5 μ10 hr_)) (fun r11 μ12 => ?_)
    refine W_s (s_aload_n dX12_feed_49 rfl rfl) ?_
    refine W_s (gf_RX12_13 rfl dX12_feed_50) ?_
    refine W_s (s_iconst dX12_feed_53 kci_0) ?_
    refine W_s (s_ialdL (k := 0) dX12_feed_54 g_208 (gx_inl (by decide)) (by decide)) ?_
    exact W_r (r := (μ12.1 208 0)) (f_int (ty := .int) dX12_feed_55 rfl rfl)
  · refine W_s (s_icmp_le_f dX12_feed_17 rfl h2) ?_
    refine W_s (s_iconst dX12_feed_20 kci_m1) ?_
    exact W_r (r := (-1)) (f_int (ty := .int) dX12_feed_21 rfl rfl)

def f_X12_end (p1 : Int32) (μ : gx_M) : Option (Int32 × gx_M) := gx_lt (gx_uI μ 206 0 0) (fun (μ1 : gx_M) => if (f_X12_in p1 0 (μ1.1 208 0)) = true then gx_lt (gx_uI μ1 208 0 p1) (fun (μ3 : gx_M) => some (p1, μ3)) else some ((-1), μ1))
theorem ev_X12_end {E : gx_E} {l : Launch} (p1 : Int32) (μ : gx_M) {r : Int32} {μ' : gx_M} (hr : f_X12_end p1 μ = some (r, μ')) : gEv E l 1 Y_X12_end [.ref (E.2.2.1 + 206), .int p1] gx_G1 μ (gx_eI r) gx_G1 μ' := by
  refine W_ev (by decide) (Nat.le_of_ble_eq_true rfl) (em := gx_eI) (T := f_X12_end p1 μ) ?_ hr
  show GoW E l Y_X12_end 1 gx_eI 0 (gx_el [.ref (E.2.2.1 + 206), .int p1]) [] μ (f_X12_end p1 μ)
  unfold f_X12_end
  refine W_s (s_aload_n dX12_end_0 rfl rfl) ?_
  refine W_s (s_iconst dX12_end_1 kci_0) ?_
  refine W_s (pf_RX12_100 rfl dX12_end_2) ?_
  refine W_letM (fun μ1 => ?_)
  refine W_s (s_iload_n dX12_end_5 rfl rfl) ?_
  refine W_s (s_iconst dX12_end_6 kci_0) ?_
  refine W_s (s_aload_n dX12_end_7 rfl rfl) ?_
  refine W_s (gf_RX12_13 rfl dX12_end_8) ?_
  refine W_s (s_iconst dX12_end_11 kci_0) ?_
  refine W_s (s_ialdL (k := 0) dX12_end_12 g_208 (gx_inl (by decide)) (by decide)) ?_
  refine W_s (s_callS (As := [.int _, .int _, .int _]) dX12_end_13 Lk_RX12_112 rfl (Nat.le_of_ble_eq_true rfl) (Nat.le_of_ble_eq_true rfl) (ev_X12_in p1 0 (μ1.1 208 0) μ1)) ?_
  refine W_ite (fun h2 => ?_) (fun h2 => ?_)
  · refine W_s (s_if_ne_t dX12_end_16 rfl (gx_bt h2)) ?_
    refine W_s (s_aload_n dX12_end_21 rfl rfl) ?_
    refine W_s (gf_RX12_13 rfl dX12_end_22) ?_
    refine W_s (s_iconst dX12_end_25 kci_0) ?_
    refine W_s (s_iload_n dX12_end_26 rfl rfl) ?_
    refine W_s (s_iastL (k := 0) dX12_end_27 g_208 (gx_inl (by decide)) (by decide)) ?_
    refine W_letM (fun μ3 => ?_)
    refine W_s (s_iload_n dX12_end_28 rfl rfl) ?_
    exact W_r (r := p1) (f_int (ty := .int) dX12_end_29 rfl rfl)
  · refine W_s (s_if_ne_f dX12_end_16 rfl (gx_bf h2)) ?_
    refine W_s (s_iconst dX12_end_19 kci_m1) ?_
    exact W_r (r := (-1)) (f_int (ty := .int) dX12_end_20 rfl rfl)

def L_X12_token_0 (k2 : gx_M → Option (Unit × gx_M)) : Nat → gx_M → Option (Unit × gx_M)
  | 0, _ => none
  | n + 1, μ1 => gx_br (f_X12_see μ1) (fun (r3 : Int32) => gx_lt (fun (μ8 : gx_M) => gx_lt (gx_uI μ8 206 10 ((μ8.1 206 10) + 1)) (fun (μ9 : gx_M) => L_X12_token_0 k2 n μ9)) (fun J4 => if r3 = 10 then J4 μ1 else gx_br (f_X12_see μ1) (fun (r6 : Int32) => if r6 = 32 then J4 μ1 else k2 μ1)))
def L_X12_token_74 (k19 : Int32 → gx_M → Option (Unit × gx_M)) : Nat → Int32 → gx_M → Option (Unit × gx_M)
  | 0, _, _ => none
  | n + 1, v2_17, μ18 => gx_br (f_X12_see μ18) (fun (r20 : Int32) => if (f_X12_in r20 97 122) = true then gx_br (f_X12_see μ18) (fun (r22 : Int32) => gx_lt (gx_uL μ18 206 15 (((μ18.2 206 15) <<< ((8 : Int32).toInt64 &&& 63)) ||| ((r22 : Int32).toInt64))) (fun (μ23 : gx_M) => gx_lt (gx_uI μ23 206 10 ((μ23.1 206 10) + 1)) (fun (μ24 : gx_M) => L_X12_token_74 k19 n (v2_17 + 1) μ24))) else k19 v2_17 μ18)
def L_X12_token_163 (k39 : Int32 → gx_M → Option (Unit × gx_M)) : Nat → Int32 → gx_M → Option (Unit × gx_M)
  | 0, _, _ => none
  | n + 1, v2_37, μ38 => gx_br (f_X12_see μ38) (fun (r40 : Int32) => if (f_X12_in r40 48 57) = true then gx_lt (fun (j0_45 : Int32) (μ46 : gx_M) => gx_lt (gx_uI μ46 206 14 j0_45) (fun (μ47 : gx_M) => gx_lt (gx_uI μ47 206 10 ((μ47.1 206 10) + 1)) (fun (μ48 : gx_M) => L_X12_token_163 k39 n (v2_37 + 1) μ48))) (fun J42 => if 2 ≤ v2_37 then J42 (μ38.1 206 14) μ38 else gx_br (f_X12_see μ38) (fun (r44 : Int32) => J42 ((((10 : Int32) * (μ38.1 206 14)) + r44) - 48) μ38)) else k39 v2_37 μ38)
def f_X12_token (μ : gx_M) : Option (Unit × gx_M) := L_X12_token_0 (fun (μ11 : gx_M) => gx_lt (gx_uI μ11 206 12 (μ11.1 206 10)) (fun (μ12 : gx_M) => gx_br (f_X12_see μ12) (fun (r13 : Int32) => gx_lt (gx_uL μ12 206 15 0) (fun (μ14 : gx_M) => if 0 ≤ r13 then if (f_X12_in r13 97 122) = true then L_X12_token_74 (fun (x2_27 : Int32) (μ28 : gx_M) => gx_lt (fun (j0_31 : Int64) (μ32 : gx_M) => gx_lt (gx_uL μ32 206 15 j0_31) (fun (μ33 : gx_M) => gx_lt (gx_uI μ33 206 13 2) (fun (μ34 : gx_M) => some ((), μ34)))) (fun J29 => if x2_27 ≤ 8 then J29 (μ28.2 206 15) μ28 else J29 0 μ28)) 4000 0 μ14 else if (f_X12_in r13 48 57) = true then gx_lt (gx_uI μ14 206 14 0) (fun (μ36 : gx_M) => L_X12_token_163 (fun (x2_51 : Int32) (μ52 : gx_M) => if x2_51 ≤ 2 then gx_lt (gx_uI μ52 206 13 3) (fun (μ54 : gx_M) => some ((), μ54)) else gx_lt (gx_uI μ52 206 13 1) (fun (μ55 : gx_M) => some ((), μ55))) 4000 0 μ36) else gx_lt (gx_uI μ14 206 10 ((μ14.1 206 10) + 1)) (fun (μ56 : gx_M) => if r13 = 59 then gx_lt (gx_uI μ56 206 13 4) (fun (μ59 : gx_M) => some ((), μ59)) else gx_lt (gx_uI μ56 206 13 1) (fun (μ58 : gx_M) => some ((), μ58))) else gx_lt (gx_uI μ14 206 13 0) (fun (μ60 : gx_M) => some ((), μ60)))))) 4000 μ
theorem okL_X12_token_0 {E : gx_E} {l : Launch} {k2 : gx_M → Option (Unit × gx_M)} (hk : ∀ (μ10 : gx_M), GoW E l Y_X12_token 1 gx_eV 31 [some (.ref (E.2.2.1 + 206))] [] μ10 (k2 μ10)) : ∀ (n : Nat) (μ1 : gx_M), GoW E l Y_X12_token 1 gx_eV 0 [some (.ref (E.2.2.1 + 206))] [] μ1 (L_X12_token_0 k2 n μ1) := by
  intro n
  induction n with
  | zero => intros; exact W_no
  | succ n ih =>
    intro μ1
    rw [L_X12_token_0.eq_2]
    refine W_s (s_aload_n dX12_token_0 rfl rfl) ?_
    refine W_br (ec := gx_eI) (fun r_ hr_ => s_callV (As := []) dX12_token_1 Lk_RX12_126 rfl g_206 (by decide) rfl (Nat.le_of_ble_eq_true rfl) (Nat.le_of_ble_eq_true rfl) (ev_X12_see μ1 hr_)) (fun r3 => ?_)
    refine W_s (s_bipush dX12_token_4 kcb_10) ?_
    refine W_fun (fun J => ∀ (μ8 : gx_M), GoW E l Y_X12_token 1 gx_eV 18 [some (.ref (E.2.2.1 + 206))] [] μ8 (J μ8)) ?_ (fun J4 hJ4 => ?_)
    · intro μ8
      refine W_s (s_aload_n dX12_token_18 rfl rfl) ?_
      refine W_s (s_dup dX12_token_19 rfl) ?_
      refine W_s (gf_RX12_120 rfl dX12_token_20) ?_
      refine W_s (s_iconst dX12_token_23 kci_1) ?_
      refine W_s (s_iadd dX12_token_24) ?_
      refine W_s (pf_RX12_120 rfl dX12_token_25) ?_
      refine W_letM (fun μ9 => ?_)
      refine W_s (s_goto dX12_token_28 rfl) ?_
      exact W_wk (ih μ9) (le_s rfl le_n)
    · skip
      refine W_ite (fun h5 => ?_) (fun h5 => ?_)
      · refine W_s (s_icmp_eq_t dX12_token_6 rfl h5) ?_
        exact W_wk (hJ4 μ1) (le_s rfl le_n)
      · refine W_s (s_icmp_eq_f dX12_token_6 rfl h5) ?_
        refine W_s (s_aload_n dX12_token_9 rfl rfl) ?_
        refine W_br (ec := gx_eI) (fun r_ hr_ => s_callV (As := []) dX12_token_10 Lk_RX12_126 rfl g_206 (by decide) rfl (Nat.le_of_ble_eq_true rfl) (Nat.le_of_ble_eq_true rfl) (ev_X12_see μ1 hr_)) (fun r6 => ?_)
        refine W_s (s_bipush dX12_token_13 kcb_32) ?_
        refine W_ite (fun h7 => ?_) (fun h7 => ?_)
        · refine W_s (s_icmp_ne_f dX12_token_15 rfl h7) ?_
          exact W_wk (hJ4 μ1) (le_s rfl le_n)
        · refine W_s (s_icmp_ne_t dX12_token_15 rfl h7) ?_
          exact W_wk (hk μ1) (le_s rfl le_n)
theorem okL_X12_token_74 {E : gx_E} {l : Launch} {k19 : Int32 → gx_M → Option (Unit × gx_M)} (hk : ∀ (w25 : Int32) (μ26 : gx_M), GoW E l Y_X12_token 1 gx_eV 121 [some (.ref (E.2.2.1 + 206)), none, some (.int w25)] [] μ26 (k19 w25 μ26)) : ∀ (n : Nat) (v2_17 : Int32) (μ18 : gx_M), GoW E l Y_X12_token 1 gx_eV 74 [some (.ref (E.2.2.1 + 206)), none, some (.int v2_17)] [] μ18 (L_X12_token_74 k19 n v2_17 μ18) := by
  intro n
  induction n with
  | zero => intros; exact W_no
  | succ n ih =>
    intro v2_17 μ18
    rw [L_X12_token_74.eq_2]
    refine W_s (s_aload_n dX12_token_74 rfl rfl) ?_
    refine W_br (ec := gx_eI) (fun r_ hr_ => s_callV (As := []) dX12_token_75 Lk_RX12_126 rfl g_206 (by decide) rfl (Nat.le_of_ble_eq_true rfl) (Nat.le_of_ble_eq_true rfl) (ev_X12_see μ18 hr_)) (fun r20 => ?_)
    refine W_s (s_bipush dX12_token_78 kcb_97) ?_
    refine W_s (s_bipush dX12_token_80 kcb_122) ?_
    refine W_s (s_callS (As := [.int _, .int _, .int _]) dX12_token_82 Lk_RX12_112 rfl (Nat.le_of_ble_eq_true rfl) (Nat.le_of_ble_eq_true rfl) (ev_X12_in r20 97 122 μ18)) ?_
    refine W_ite (fun h21 => ?_) (fun h21 => ?_)
    · refine W_s (s_if_eq_f dX12_token_85 rfl (gx_bt h21)) ?_
      refine W_s (s_aload_n dX12_token_88 rfl rfl) ?_
      refine W_s (s_aload_n dX12_token_89 rfl rfl) ?_
      refine W_s (gf_RX12_133 rfl dX12_token_90) ?_
      refine W_s (s_bipush dX12_token_93 kcb_8) ?_
      refine W_s (s_lshl dX12_token_95) ?_
      refine W_s (s_aload_n dX12_token_96 rfl rfl) ?_
      refine W_br (ec := gx_eI) (fun r_ hr_ => s_callV (As := []) dX12_token_97 Lk_RX12_126 rfl g_206 (by decide) rfl (Nat.le_of_ble_eq_true rfl) (Nat.le_of_ble_eq_true rfl) (ev_X12_see μ18 hr_)) (fun r22 => ?_)
      refine W_s (s_i2l dX12_token_100) ?_
      refine W_s (s_lor dX12_token_101) ?_
      refine W_s (pf_RX12_133 rfl dX12_token_102) ?_
      refine W_letM (fun μ23 => ?_)
      refine W_s (s_aload_n dX12_token_105 rfl rfl) ?_
      refine W_s (s_dup dX12_token_106 rfl) ?_
      refine W_s (gf_RX12_120 rfl dX12_token_107) ?_
      refine W_s (s_iconst dX12_token_110 kci_1) ?_
      refine W_s (s_iadd dX12_token_111) ?_
      refine W_s (pf_RX12_120 rfl dX12_token_112) ?_
      refine W_letM (fun μ24 => ?_)
      refine W_s (s_iinc dX12_token_115 rfl (kinc_1 v2_17) (Nat.le_of_ble_eq_true rfl)) ?_
      refine W_s (s_goto dX12_token_118 rfl) ?_
      exact W_wk (ih (v2_17 + 1) μ24) (le_s rfl (le_o (le_s rfl le_n)))
    · refine W_s (s_if_eq_t dX12_token_85 rfl (gx_bf h21)) ?_
      exact W_wk (hk v2_17 μ18) (le_s rfl (le_o (le_s rfl le_n)))
theorem okL_X12_token_163 {E : gx_E} {l : Launch} {k39 : Int32 → gx_M → Option (Unit × gx_M)} (hk : ∀ (w49 : Int32) (μ50 : gx_M), GoW E l Y_X12_token 1 gx_eV 224 [some (.ref (E.2.2.1 + 206)), none, some (.int w49)] [] μ50 (k39 w49 μ50)) : ∀ (n : Nat) (v2_37 : Int32) (μ38 : gx_M), GoW E l Y_X12_token 1 gx_eV 163 [some (.ref (E.2.2.1 + 206)), none, some (.int v2_37)] [] μ38 (L_X12_token_163 k39 n v2_37 μ38) := by
  intro n
  induction n with
  | zero => intros; exact W_no
  | succ n ih =>
    intro v2_37 μ38
    rw [L_X12_token_163.eq_2]
    refine W_s (s_aload_n dX12_token_163 rfl rfl) ?_
    refine W_br (ec := gx_eI) (fun r_ hr_ => s_callV (As := []) dX12_token_164 Lk_RX12_126 rfl g_206 (by decide) rfl (Nat.le_of_ble_eq_true rfl) (Nat.le_of_ble_eq_true rfl) (ev_X12_see μ38 hr_)) (fun r40 => ?_)
    refine W_s (s_bipush dX12_token_167 kcb_48) ?_
    refine W_s (s_bipush dX12_token_169 kcb_57) ?_
    refine W_s (s_callS (As := [.int _, .int _, .int _]) dX12_token_171 Lk_RX12_112 rfl (Nat.le_of_ble_eq_true rfl) (Nat.le_of_ble_eq_true rfl) (ev_X12_in r40 48 57 μ38)) ?_
    refine W_ite (fun h41 => ?_) (fun h41 => ?_)
    · refine W_s (s_if_eq_f dX12_token_174 rfl (gx_bt h41)) ?_
      refine W_s (s_aload_n dX12_token_177 rfl rfl) ?_
      refine W_s (s_iload_n dX12_token_178 rfl rfl) ?_
      refine W_s (s_iconst dX12_token_179 kci_2) ?_
      refine W_fun (fun J => ∀ (j0_45 : Int32) (μ46 : gx_M), GoW E l Y_X12_token 1 gx_eV 205 [some (.ref (E.2.2.1 + 206)), none, some (.int v2_37)] [.int j0_45, .ref (E.2.2.1 + 206)] μ46 (J j0_45 μ46)) ?_ (fun J42 hJ42 => ?_)
      · intro j0_45 μ46
        refine W_s (pf_RX12_140 rfl dX12_token_205) ?_
        refine W_letM (fun μ47 => ?_)
        refine W_s (s_aload_n dX12_token_208 rfl rfl) ?_
        refine W_s (s_dup dX12_token_209 rfl) ?_
        refine W_s (gf_RX12_120 rfl dX12_token_210) ?_
        refine W_s (s_iconst dX12_token_213 kci_1) ?_
        refine W_s (s_iadd dX12_token_214) ?_
        refine W_s (pf_RX12_120 rfl dX12_token_215) ?_
        refine W_letM (fun μ48 => ?_)
        refine W_s (s_iinc dX12_token_218 rfl (kinc_1 v2_37) (Nat.le_of_ble_eq_true rfl)) ?_
        refine W_s (s_goto dX12_token_221 rfl) ?_
        exact W_wk (ih (v2_37 + 1) μ48) (le_s rfl (le_o (le_s rfl le_n)))
      · skip
        refine W_ite (fun h43 => ?_) (fun h43 => ?_)
        · refine W_s (s_icmp_ge_t dX12_token_180 rfl h43) ?_
          refine W_s (s_aload_n dX12_token_201 rfl rfl) ?_
          refine W_s (gf_RX12_140 rfl dX12_token_202) ?_
          exact W_wk (hJ42 (μ38.1 206 14) μ38) (le_s rfl (le_o (le_s rfl le_n)))
        · refine W_s (s_icmp_ge_f dX12_token_180 rfl h43) ?_
          refine W_s (s_bipush dX12_token_183 kcb_10) ?_
          refine W_s (s_aload_n dX12_token_185 rfl rfl) ?_
          refine W_s (gf_RX12_140 rfl dX12_token_186) ?_
          refine W_s (s_imul dX12_token_189) ?_
          refine W_s (s_aload_n dX12_token_190 rfl rfl) ?_
          refine W_br (ec := gx_eI) (fun r_ hr_ => s_callV (As := []) dX12_token_191 Lk_RX12_126 rfl g_206 (by decide) rfl (Nat.le_of_ble_eq_true rfl) (Nat.le_of_ble_eq_true rfl) (ev_X12_see μ38 hr_)) (fun r44 => ?_)
          refine W_s (s_iadd dX12_token_194) ?_
          refine W_s (s_bipush dX12_token_195 kcb_48) ?_
          refine W_s (s_isub dX12_token_197) ?_
          refine W_s (s_goto dX12_token_198 rfl) ?_
          exact W_wk (hJ42 ((((10 : Int32) * (μ38.1 206 14)) + r44) - 48) μ38) (le_s rfl (le_o (le_s rfl le_n)))
    · refine W_s (s_if_eq_t dX12_token_174 rfl (gx_bf h41)) ?_
      exact W_wk (hk v2_37 μ38) (le_s rfl (le_o (le_s rfl le_n)))
theorem ev_X12_token {E : gx_E} {l : Launch} (μ : gx_M) {r : Unit} {μ' : gx_M} (hr : f_X12_token μ = some (r, μ')) : gEv E l 1 Y_X12_token [.ref (E.2.2.1 + 206)] gx_G1 μ (gx_eV r) gx_G1 μ' := by
  refine W_ev (by decide) (Nat.le_of_ble_eq_true rfl) (em := gx_eV) (T := f_X12_token μ) ?_ hr
  show GoW E l Y_X12_token 1 gx_eV 0 (gx_el [.ref (E.2.2.1 + 206)]) [] μ (f_X12_token μ)
  unfold f_X12_token
  refine W_wk (okL_X12_token_0 ?_ 4000 μ) (le_s rfl le_n)
  intro μ11
  refine W_s (s_aload_n dX12_token_31 rfl rfl) ?_
  refine W_s (s_aload_n dX12_token_32 rfl rfl) ?_
  refine W_s (gf_RX12_120 rfl dX12_token_33) ?_
  refine W_s (pf_RX12_130 rfl dX12_token_36) ?_
  refine W_letM (fun μ12 => ?_)
  refine W_s (s_aload_n dX12_token_39 rfl rfl) ?_
  refine W_br (ec := gx_eI) (fun r_ hr_ => s_callV (As := []) dX12_token_40 Lk_RX12_126 rfl g_206 (by decide) rfl (Nat.le_of_ble_eq_true rfl) (Nat.le_of_ble_eq_true rfl) (ev_X12_see μ12 hr_)) (fun r13 => ?_)
  refine W_s (s_istore_n dX12_token_43 rfl (Nat.le_of_ble_eq_true rfl)) ?_
  refine W_s (s_aload_n dX12_token_44 rfl rfl) ?_
  refine W_s (s_lconst dX12_token_45 kcl_0) ?_
  refine W_s (pf_RX12_133 rfl dX12_token_46) ?_
  refine W_letM (fun μ14 => ?_)
  refine W_s (s_iconst dX12_token_49 kci_0) ?_
  refine W_s (s_istore_n dX12_token_50 rfl (Nat.le_of_ble_eq_true rfl)) ?_
  refine W_s (s_iload_n dX12_token_51 rfl rfl) ?_
  refine W_ite (fun h15 => ?_) (fun h15 => ?_)
  · refine W_s (s_if_ge_t dX12_token_52 rfl h15) ?_
    refine W_s (s_iload_n dX12_token_63 rfl rfl) ?_
    refine W_s (s_bipush dX12_token_64 kcb_97) ?_
    refine W_s (s_bipush dX12_token_66 kcb_122) ?_
    refine W_s (s_callS (As := [.int _, .int _, .int _]) dX12_token_68 Lk_RX12_112 rfl (Nat.le_of_ble_eq_true rfl) (Nat.le_of_ble_eq_true rfl) (ev_X12_in r13 97 122 μ14)) ?_
    refine W_ite (fun h16 => ?_) (fun h16 => ?_)
    · refine W_s (s_if_eq_f dX12_token_71 rfl (gx_bt h16)) ?_
      refine W_wk (okL_X12_token_74 ?_ 4000 0 μ14) (le_s rfl (le_o (le_s rfl le_n)))
      intro x2_27 μ28
      refine W_s (s_aload_n dX12_token_121 rfl rfl) ?_
      refine W_s (s_iload_n dX12_token_122 rfl rfl) ?_
      refine W_s (s_bipush dX12_token_123 kcb_8) ?_
      refine W_fun (fun J => ∀ (j0_31 : Int64) (μ32 : gx_M), GoW E l Y_X12_token 1 gx_eV 136 [some (.ref (E.2.2.1 + 206))] [.long j0_31, .ref (E.2.2.1 + 206)] μ32 (J j0_31 μ32)) ?_ (fun J29 hJ29 => ?_)
      · intro j0_31 μ32
        refine W_s (pf_RX12_133 rfl dX12_token_136) ?_
        refine W_letM (fun μ33 => ?_)
        refine W_s (s_aload_n dX12_token_139 rfl rfl) ?_
        refine W_s (s_iconst dX12_token_140 kci_2) ?_
        refine W_s (pf_RX12_137 rfl dX12_token_141) ?_
        refine W_letM (fun μ34 => ?_)
        refine W_s (s_goto dX12_token_144 rfl) ?_
        exact W_r (r := ()) (f_void dX12_token_266 rfl)
      · skip
        refine W_ite (fun h30 => ?_) (fun h30 => ?_)
        · refine W_s (s_icmp_le_t dX12_token_125 rfl h30) ?_
          refine W_s (s_aload_n dX12_token_132 rfl rfl) ?_
          refine W_s (gf_RX12_133 rfl dX12_token_133) ?_
          exact W_wk (hJ29 (μ28.2 206 15) μ28) (le_s rfl le_n)
        · refine W_s (s_icmp_le_f dX12_token_125 rfl h30) ?_
          refine W_s (s_lconst dX12_token_128 kcl_0) ?_
          refine W_s (s_goto dX12_token_129 rfl) ?_
          exact W_wk (hJ29 0 μ28) (le_s rfl le_n)
    · refine W_s (s_if_eq_t dX12_token_71 rfl (gx_bf h16)) ?_
      refine W_s (s_iload_n dX12_token_147 rfl rfl) ?_
      refine W_s (s_bipush dX12_token_148 kcb_48) ?_
      refine W_s (s_bipush dX12_token_150 kcb_57) ?_
      refine W_s (s_callS (As := [.int _, .int _, .int _]) dX12_token_152 Lk_RX12_112 rfl (Nat.le_of_ble_eq_true rfl) (Nat.le_of_ble_eq_true rfl) (ev_X12_in r13 48 57 μ14)) ?_
      refine W_ite (fun h35 => ?_) (fun h35 => ?_)
      · refine W_s (s_if_eq_f dX12_token_155 rfl (gx_bt h35)) ?_
        refine W_s (s_aload_n dX12_token_158 rfl rfl) ?_
        refine W_s (s_iconst dX12_token_159 kci_0) ?_
        refine W_s (pf_RX12_140 rfl dX12_token_160) ?_
        refine W_letM (fun μ36 => ?_)
        refine W_wk (okL_X12_token_163 ?_ 4000 0 μ36) (le_s rfl (le_o (le_s rfl le_n)))
        intro x2_51 μ52
        refine W_s (s_aload_n dX12_token_224 rfl rfl) ?_
        refine W_s (s_iload_n dX12_token_225 rfl rfl) ?_
        refine W_s (s_iconst dX12_token_226 kci_2) ?_
        refine W_ite (fun h53 => ?_) (fun h53 => ?_)
        · refine W_s (s_icmp_le_t dX12_token_227 rfl h53) ?_
          refine W_s (s_iconst dX12_token_234 kci_3) ?_
          refine W_s (pf_RX12_137 rfl dX12_token_235) ?_
          refine W_letM (fun μ54 => ?_)
          refine W_s (s_goto dX12_token_238 rfl) ?_
          exact W_r (r := ()) (f_void dX12_token_266 rfl)
        · refine W_s (s_icmp_le_f dX12_token_227 rfl h53) ?_
          refine W_s (s_iconst dX12_token_230 kci_1) ?_
          refine W_s (s_goto dX12_token_231 rfl) ?_
          refine W_s (pf_RX12_137 rfl dX12_token_235) ?_
          refine W_letM (fun μ55 => ?_)
          refine W_s (s_goto dX12_token_238 rfl) ?_
          exact W_r (r := ()) (f_void dX12_token_266 rfl)
      · refine W_s (s_if_eq_t dX12_token_155 rfl (gx_bf h35)) ?_
        refine W_s (s_aload_n dX12_token_241 rfl rfl) ?_
        refine W_s (s_dup dX12_token_242 rfl) ?_
        refine W_s (gf_RX12_120 rfl dX12_token_243) ?_
        refine W_s (s_iconst dX12_token_246 kci_1) ?_
        refine W_s (s_iadd dX12_token_247) ?_
        refine W_s (pf_RX12_120 rfl dX12_token_248) ?_
        refine W_letM (fun μ56 => ?_)
        refine W_s (s_aload_n dX12_token_251 rfl rfl) ?_
        refine W_s (s_iload_n dX12_token_252 rfl rfl) ?_
        refine W_s (s_bipush dX12_token_253 kcb_59) ?_
        refine W_ite (fun h57 => ?_) (fun h57 => ?_)
        · refine W_s (s_icmp_ne_f dX12_token_255 rfl h57) ?_
          refine W_s (s_iconst dX12_token_258 kci_4) ?_
          refine W_s (s_goto dX12_token_259 rfl) ?_
          refine W_s (pf_RX12_137 rfl dX12_token_263) ?_
          refine W_letM (fun μ59 => ?_)
          exact W_r (r := ()) (f_void dX12_token_266 rfl)
        · refine W_s (s_icmp_ne_t dX12_token_255 rfl h57) ?_
          refine W_s (s_iconst dX12_token_262 kci_1) ?_
          refine W_s (pf_RX12_137 rfl dX12_token_263) ?_
          refine W_letM (fun μ58 => ?_)
          exact W_r (r := ()) (f_void dX12_token_266 rfl)
  · refine W_s (s_if_ge_f dX12_token_52 rfl h15) ?_
    refine W_s (s_aload_n dX12_token_55 rfl rfl) ?_
    refine W_s (s_iconst dX12_token_56 kci_0) ?_
    refine W_s (pf_RX12_137 rfl dX12_token_57) ?_
    refine W_letM (fun μ60 => ?_)
    refine W_s (s_goto dX12_token_60 rfl) ?_
    exact W_r (r := ()) (f_void dX12_token_266 rfl)

def f_X12_full (p1 : Int32) (p2 : Int32) (p3 : Int32) (μ : gx_M) : Option (Unit × gx_M) := gx_ck (gx_ix p1 161 = true) (if (μ.1 216 p1.toNatClampNeg) = p2 then gx_bd (f_X12_later 3 p3 μ) (fun (r3 : Unit) (μ4 : gx_M) => some ((), μ4)) else some ((), μ))
theorem ev_X12_full {E : gx_E} {l : Launch} (p1 : Int32) (p2 : Int32) (p3 : Int32) (μ : gx_M) {r : Unit} {μ' : gx_M} (hr : f_X12_full p1 p2 p3 μ = some (r, μ')) : gEv E l 1 Y_X12_full [.ref (E.2.2.1 + 206), .int p1, .int p2, .int p3] gx_G1 μ (gx_eV r) gx_G1 μ' := by
  refine W_ev (by decide) (Nat.le_of_ble_eq_true rfl) (em := gx_eV) (T := f_X12_full p1 p2 p3 μ) ?_ hr
  show GoW E l Y_X12_full 1 gx_eV 0 (gx_el [.ref (E.2.2.1 + 206), .int p1, .int p2, .int p3]) [] μ (f_X12_full p1 p2 p3 μ)
  unfold f_X12_full
  refine W_s (s_aload_n dX12_full_0 rfl rfl) ?_
  refine W_s (gf_RX12_38 rfl dX12_full_1) ?_
  refine W_s (s_iload_n dX12_full_4 rfl rfl) ?_
  refine W_ck (fun h1 => ?_)
  refine W_s (s_iald dX12_full_5 g_216 (gx_ixv h1)) ?_
  refine W_s (s_iload_n dX12_full_6 rfl rfl) ?_
  refine W_ite (fun h2 => ?_) (fun h2 => ?_)
  · refine W_s (s_icmp_ne_f dX12_full_7 rfl h2) ?_
    refine W_s (s_aload_n dX12_full_10 rfl rfl) ?_
    refine W_s (s_iconst dX12_full_11 kci_3) ?_
    refine W_s (s_iload_n dX12_full_12 rfl rfl) ?_
    refine W_bd (ec := gx_eV) (fun r_ μ_ hr_ => s_callV (As := [.int _, .int _]) dX12_full_13 Lk_RX12_156 rfl g_206 (by decide) rfl (Nat.le_of_ble_eq_true rfl) (Nat.le_of_ble_eq_true rfl) (ev_X12_later 3 p3 μ hr_)) (fun r3 μ4 => ?_)
    exact W_r (r := ()) (f_void dX12_full_16 rfl)
  · refine W_s (s_icmp_ne_t dX12_full_7 rfl h2) ?_
    exact W_r (r := ()) (f_void dX12_full_16 rfl)

def f_X12_storeAll (p1 : Int32) (p2 : Int32) (μ : gx_M) : Option (Unit × gx_M) := if p1 = 0 then gx_bd (f_X12_store 212 888 111 p2 μ) (fun (r2 : Unit) (μ3 : gx_M) => some ((), μ3)) else if p1 = 1 then gx_bd (f_X12_store 213 1288 161 p2 μ) (fun (r5 : Unit) (μ6 : gx_M) => some ((), μ6)) else if p1 = 2 then gx_bd (f_X12_store 214 136 17 p2 μ) (fun (r8 : Unit) (μ9 : gx_M) => some ((), μ9)) else gx_bd (f_X12_store 215 296 37 p2 μ) (fun (r10 : Unit) (μ11 : gx_M) => some ((), μ11))
theorem ev_X12_storeAll {E : gx_E} {l : Launch} (p1 : Int32) (p2 : Int32) (μ : gx_M) {r : Unit} {μ' : gx_M} (hr : f_X12_storeAll p1 p2 μ = some (r, μ')) : gEv E l 1 Y_X12_storeAll [.ref (E.2.2.1 + 206), .int p1, .int p2] gx_G1 μ (gx_eV r) gx_G1 μ' := by
  refine W_ev (by decide) (Nat.le_of_ble_eq_true rfl) (em := gx_eV) (T := f_X12_storeAll p1 p2 μ) ?_ hr
  show GoW E l Y_X12_storeAll 1 gx_eV 0 (gx_el [.ref (E.2.2.1 + 206), .int p1, .int p2]) [] μ (f_X12_storeAll p1 p2 μ)
  unfold f_X12_storeAll
  refine W_s (s_iload_n dX12_storeAll_0 rfl rfl) ?_
  refine W_ite (fun h1 => ?_) (fun h1 => ?_)
  · refine W_s (s_tsw_eq (c := 0) dX12_storeAll_1 h1 (by decide) (by decide) rfl rfl) ?_
    refine W_s (s_aload_n dX12_storeAll_28 rfl rfl) ?_
    refine W_s (s_aload_n dX12_storeAll_29 rfl rfl) ?_
    refine W_s (gf_RX12_26 rfl dX12_storeAll_30) ?_
    refine W_s (s_bipush dX12_storeAll_33 kcb_111) ?_
    refine W_s (s_iload_n dX12_storeAll_35 rfl rfl) ?_
    refine W_bd (ec := gx_eV) (fun r_ μ_ hr_ => s_callV (As := [.ref _, .int _, .int _]) dX12_storeAll_36 Lk_RX12_263 rfl g_206 (by decide) rfl (Nat.le_of_ble_eq_true rfl) (Nat.le_of_ble_eq_true rfl) (ev_X12_store 212 888 111 p2 g_212 μ hr_)) (fun r2 μ3 => ?_)
    exact W_r (r := ()) (f_void dX12_storeAll_39 rfl)
  · skip
    refine W_ite (fun h4 => ?_) (fun h4 => ?_)
    · refine W_s (s_tsw_eq (c := 1) dX12_storeAll_1 h4 (by decide) (by decide) rfl rfl) ?_
      refine W_s (s_aload_n dX12_storeAll_40 rfl rfl) ?_
      refine W_s (s_aload_n dX12_storeAll_41 rfl rfl) ?_
      refine W_s (gf_RX12_29 rfl dX12_storeAll_42) ?_
      refine W_s (s_sipush dX12_storeAll_45 kcs_161) ?_
      refine W_s (s_iload_n dX12_storeAll_48 rfl rfl) ?_
      refine W_bd (ec := gx_eV) (fun r_ μ_ hr_ => s_callV (As := [.ref _, .int _, .int _]) dX12_storeAll_49 Lk_RX12_263 rfl g_206 (by decide) rfl (Nat.le_of_ble_eq_true rfl) (Nat.le_of_ble_eq_true rfl) (ev_X12_store 213 1288 161 p2 g_213 μ hr_)) (fun r5 μ6 => ?_)
      exact W_r (r := ()) (f_void dX12_storeAll_52 rfl)
    · skip
      refine W_ite (fun h7 => ?_) (fun h7 => ?_)
      · refine W_s (s_tsw_eq (c := 2) dX12_storeAll_1 h7 (by decide) (by decide) rfl rfl) ?_
        refine W_s (s_aload_n dX12_storeAll_53 rfl rfl) ?_
        refine W_s (s_aload_n dX12_storeAll_54 rfl rfl) ?_
        refine W_s (gf_RX12_32 rfl dX12_storeAll_55) ?_
        refine W_s (s_bipush dX12_storeAll_58 kcb_17) ?_
        refine W_s (s_iload_n dX12_storeAll_60 rfl rfl) ?_
        refine W_bd (ec := gx_eV) (fun r_ μ_ hr_ => s_callV (As := [.ref _, .int _, .int _]) dX12_storeAll_61 Lk_RX12_263 rfl g_206 (by decide) rfl (Nat.le_of_ble_eq_true rfl) (Nat.le_of_ble_eq_true rfl) (ev_X12_store 214 136 17 p2 g_214 μ hr_)) (fun r8 μ9 => ?_)
        exact W_r (r := ()) (f_void dX12_storeAll_64 rfl)
      · skip
        refine W_s (s_tsw_out dX12_storeAll_1 (gx_out_0_3 h1 h4 h7) rfl) ?_
        refine W_s (s_aload_n dX12_storeAll_65 rfl rfl) ?_
        refine W_s (s_aload_n dX12_storeAll_66 rfl rfl) ?_
        refine W_s (gf_RX12_35 rfl dX12_storeAll_67) ?_
        refine W_s (s_bipush dX12_storeAll_70 kcb_37) ?_
        refine W_s (s_iload_n dX12_storeAll_72 rfl rfl) ?_
        refine W_bd (ec := gx_eV) (fun r_ μ_ hr_ => s_callV (As := [.ref _, .int _, .int _]) dX12_storeAll_73 Lk_RX12_263 rfl g_206 (by decide) rfl (Nat.le_of_ble_eq_true rfl) (Nat.le_of_ble_eq_true rfl) (ev_X12_store 215 296 37 p2 g_215 μ hr_)) (fun r10 μ11 => ?_)
        exact W_r (r := ()) (f_void dX12_storeAll_76 rfl)

def f_X12_isMinute (p1 : Int32) (μ : gx_M) : Bool := (f_X12_in p1 0 ((μ.1 206 25) - 1))
theorem ev_X12_isMinute {E : gx_E} {l : Launch} (p1 : Int32) (μ : gx_M) : gEv E l 1 Y_X12_isMinute [.ref (E.2.2.1 + 206), .int p1] gx_G1 μ (gx_eB (f_X12_isMinute p1 μ)) gx_G1 μ := by
  refine P_ev (by decide) (Nat.le_of_ble_eq_true rfl) (em := gx_eB) (T := f_X12_isMinute p1 μ) ?_
  show GoP E l Y_X12_isMinute 1 gx_eB 0 (gx_el [.ref (E.2.2.1 + 206), .int p1]) [] μ (f_X12_isMinute p1 μ)
  unfold f_X12_isMinute
  refine P_s (s_iload_n dX12_isMinute_0 rfl rfl) ?_
  refine P_s (s_iconst dX12_isMinute_1 kci_0) ?_
  refine P_s (s_aload_n dX12_isMinute_2 rfl rfl) ?_
  refine P_s (gf_RX12_283 rfl dX12_isMinute_3) ?_
  refine P_s (s_iconst dX12_isMinute_6 kci_1) ?_
  refine P_s (s_isub dX12_isMinute_7) ?_
  refine P_s (s_callS (As := [.int _, .int _, .int _]) dX12_isMinute_8 Lk_RX12_112 rfl (Nat.le_of_ble_eq_true rfl) (Nat.le_of_ble_eq_true rfl) (ev_X12_in p1 0 ((μ.1 206 25) - 1) μ)) ?_
  exact P_r (r := (f_X12_in p1 0 ((μ.1 206 25) - 1))) (f_int (ty := .boolean) (x := gx_bi (f_X12_in p1 0 ((μ.1 206 25) - 1))) dX12_isMinute_11 rfl (gx_bn (f_X12_in p1 0 ((μ.1 206 25) - 1))))

def f_X12_isPerson (p1 : Int32) (μ : gx_M) : Bool := (f_X12_in p1 0 ((μ.1 206 26) - 1))
theorem ev_X12_isPerson {E : gx_E} {l : Launch} (p1 : Int32) (μ : gx_M) : gEv E l 1 Y_X12_isPerson [.ref (E.2.2.1 + 206), .int p1] gx_G1 μ (gx_eB (f_X12_isPerson p1 μ)) gx_G1 μ := by
  refine P_ev (by decide) (Nat.le_of_ble_eq_true rfl) (em := gx_eB) (T := f_X12_isPerson p1 μ) ?_
  show GoP E l Y_X12_isPerson 1 gx_eB 0 (gx_el [.ref (E.2.2.1 + 206), .int p1]) [] μ (f_X12_isPerson p1 μ)
  unfold f_X12_isPerson
  refine P_s (s_iload_n dX12_isPerson_0 rfl rfl) ?_
  refine P_s (s_iconst dX12_isPerson_1 kci_0) ?_
  refine P_s (s_aload_n dX12_isPerson_2 rfl rfl) ?_
  refine P_s (gf_RX12_286 rfl dX12_isPerson_3) ?_
  refine P_s (s_iconst dX12_isPerson_6 kci_1) ?_
  refine P_s (s_isub dX12_isPerson_7) ?_
  refine P_s (s_callS (As := [.int _, .int _, .int _]) dX12_isPerson_8 Lk_RX12_112 rfl (Nat.le_of_ble_eq_true rfl) (Nat.le_of_ble_eq_true rfl) (ev_X12_in p1 0 ((μ.1 206 26) - 1) μ)) ?_
  exact P_r (r := (f_X12_in p1 0 ((μ.1 206 26) - 1))) (f_int (ty := .boolean) (x := gx_bi (f_X12_in p1 0 ((μ.1 206 26) - 1))) dX12_isPerson_11 rfl (gx_bn (f_X12_in p1 0 ((μ.1 206 26) - 1))))

def f_X12_isTask (p1 : Int32) (μ : gx_M) : Bool := (f_X12_in p1 0 ((μ.1 206 27) - 1))
theorem ev_X12_isTask {E : gx_E} {l : Launch} (p1 : Int32) (μ : gx_M) : gEv E l 1 Y_X12_isTask [.ref (E.2.2.1 + 206), .int p1] gx_G1 μ (gx_eB (f_X12_isTask p1 μ)) gx_G1 μ := by
  refine P_ev (by decide) (Nat.le_of_ble_eq_true rfl) (em := gx_eB) (T := f_X12_isTask p1 μ) ?_
  show GoP E l Y_X12_isTask 1 gx_eB 0 (gx_el [.ref (E.2.2.1 + 206), .int p1]) [] μ (f_X12_isTask p1 μ)
  unfold f_X12_isTask
  refine P_s (s_iload_n dX12_isTask_0 rfl rfl) ?_
  refine P_s (s_iconst dX12_isTask_1 kci_0) ?_
  refine P_s (s_aload_n dX12_isTask_2 rfl rfl) ?_
  refine P_s (gf_RX12_289 rfl dX12_isTask_3) ?_
  refine P_s (s_iconst dX12_isTask_6 kci_1) ?_
  refine P_s (s_isub dX12_isTask_7) ?_
  refine P_s (s_callS (As := [.int _, .int _, .int _]) dX12_isTask_8 Lk_RX12_112 rfl (Nat.le_of_ble_eq_true rfl) (Nat.le_of_ble_eq_true rfl) (ev_X12_in p1 0 ((μ.1 206 27) - 1) μ)) ?_
  exact P_r (r := (f_X12_in p1 0 ((μ.1 206 27) - 1))) (f_int (ty := .boolean) (x := gx_bi (f_X12_in p1 0 ((μ.1 206 27) - 1))) dX12_isTask_11 rfl (gx_bn (f_X12_in p1 0 ((μ.1 206 27) - 1))))

def f_X12_isSet (p1 : Int32) (μ : gx_M) : Bool := (f_X12_in p1 0 (((1 : Int32) <<< ((μ.1 206 27) &&& 31)) - 1))
theorem ev_X12_isSet {E : gx_E} {l : Launch} (p1 : Int32) (μ : gx_M) : gEv E l 1 Y_X12_isSet [.ref (E.2.2.1 + 206), .int p1] gx_G1 μ (gx_eB (f_X12_isSet p1 μ)) gx_G1 μ := by
  refine P_ev (by decide) (Nat.le_of_ble_eq_true rfl) (em := gx_eB) (T := f_X12_isSet p1 μ) ?_
  show GoP E l Y_X12_isSet 1 gx_eB 0 (gx_el [.ref (E.2.2.1 + 206), .int p1]) [] μ (f_X12_isSet p1 μ)
  unfold f_X12_isSet
  refine P_s (s_iload_n dX12_isSet_0 rfl rfl) ?_
  refine P_s (s_iconst dX12_isSet_1 kci_0) ?_
  refine P_s (s_iconst dX12_isSet_2 kci_1) ?_
  refine P_s (s_aload_n dX12_isSet_3 rfl rfl) ?_
  refine P_s (gf_RX12_289 rfl dX12_isSet_4) ?_
  refine P_s (s_ishl dX12_isSet_7) ?_
  refine P_s (s_iconst dX12_isSet_8 kci_1) ?_
  refine P_s (s_isub dX12_isSet_9) ?_
  refine P_s (s_callS (As := [.int _, .int _, .int _]) dX12_isSet_10 Lk_RX12_112 rfl (Nat.le_of_ble_eq_true rfl) (Nat.le_of_ble_eq_true rfl) (ev_X12_in p1 0 (((1 : Int32) <<< ((μ.1 206 27) &&& 31)) - 1) μ)) ?_
  exact P_r (r := (f_X12_in p1 0 (((1 : Int32) <<< ((μ.1 206 27) &&& 31)) - 1))) (f_int (ty := .boolean) (x := gx_bi (f_X12_in p1 0 (((1 : Int32) <<< ((μ.1 206 27) &&& 31)) - 1))) dX12_isSet_13 rfl (gx_bn (f_X12_in p1 0 (((1 : Int32) <<< ((μ.1 206 27) &&& 31)) - 1))))

def f_X12_lengthOf (p1 : Int32) (μ : gx_M) : Option Int32 := gx_br (f_X12_of ((7 : Int32) + p1) μ) (fun (r1 : Int32) => some r1)
theorem ev_X12_lengthOf {E : gx_E} {l : Launch} (p1 : Int32) (μ : gx_M) {r : Int32} (hr : f_X12_lengthOf p1 μ = some r) : gEv E l 1 Y_X12_lengthOf [.ref (E.2.2.1 + 206), .int p1] gx_G1 μ (gx_eI r) gx_G1 μ := by
  refine R_ev (by decide) (Nat.le_of_ble_eq_true rfl) (em := gx_eI) (T := f_X12_lengthOf p1 μ) ?_ hr
  show GoR E l Y_X12_lengthOf 1 gx_eI 0 (gx_el [.ref (E.2.2.1 + 206), .int p1]) [] μ (f_X12_lengthOf p1 μ)
  unfold f_X12_lengthOf
  refine R_s (s_aload_n dX12_lengthOf_0 rfl rfl) ?_
  refine R_s (s_bipush dX12_lengthOf_1 kcb_7) ?_
  refine R_s (s_iload_n dX12_lengthOf_3 rfl rfl) ?_
  refine R_s (s_iadd dX12_lengthOf_4) ?_
  refine R_br (ec := gx_eI) (fun r_ hr_ => s_callV (As := [.int _]) dX12_lengthOf_5 Lk_RX12_279 rfl g_206 (by decide) rfl (Nat.le_of_ble_eq_true rfl) (Nat.le_of_ble_eq_true rfl) (ev_X12_of ((7 : Int32) + p1) μ hr_)) (fun r1 => ?_)
  exact R_r (r := r1) (f_int (ty := .int) dX12_lengthOf_8 rfl rfl)

def f_X12_ofState (p1 : Int32) (μ : gx_M) : Option Int32 := gx_lt (p1 - p1 / 10 * 10) (fun (x1 : Int32) => if p1 < 100 then gx_lt (p1 / 10) (fun (t3 : Int32) => if t3 = 0 then if (f_X12_in p1 0 2) = true then gx_br (f_X12_ofAll p1 μ) (fun (r6 : Int32) => some r6) else some (-2) else if t3 = 1 then if (μ.1 206 26) ≤ x1 then some (-2) else gx_ck (gx_ix x1 4 = true) (some (μ.1 218 x1.toNatClampNeg)) else if t3 = 2 then if (μ.1 206 26) ≤ x1 then some (-2) else gx_br (f_X12_minutesOf x1 μ) (fun (r12 : Int32) => some r12) else if t3 = 3 then if (μ.1 206 27) ≤ x1 then some (-2) else gx_ck (gx_ix x1 6 = true) (some (μ.1 222 x1.toNatClampNeg)) else some (-2)) else gx_lt (p1 - p1 / 100 * 100) (fun (x16 : Int32) => if (μ.1 206 25) ≤ x16 then some (-2) else if p1 < 400 then if 200 ≤ p1 then if 300 ≤ p1 then gx_ck (gx_ix x16 40 = true) (if (μ.1 221 x16.toNatClampNeg) = 0 then some 0 else some 1) else gx_ck (gx_ix x16 40 = true) (some (μ.1 220 x16.toNatClampNeg)) else gx_ck (gx_ix x16 40 = true) (some (μ.1 219 x16.toNatClampNeg)) else some (-2)))
theorem ev_X12_ofState {E : gx_E} {l : Launch} (p1 : Int32) (μ : gx_M) {r : Int32} (hr : f_X12_ofState p1 μ = some r) : gEv E l 1 Y_X12_ofState [.ref (E.2.2.1 + 206), .int p1] gx_G1 μ (gx_eI r) gx_G1 μ := by
  refine R_ev (by decide) (Nat.le_of_ble_eq_true rfl) (em := gx_eI) (T := f_X12_ofState p1 μ) ?_ hr
  show GoR E l Y_X12_ofState 1 gx_eI 0 (gx_el [.ref (E.2.2.1 + 206), .int p1]) [] μ (f_X12_ofState p1 μ)
  unfold f_X12_ofState
  refine R_s (s_iload_n dX12_ofState_0 rfl rfl) ?_
  refine R_s (s_bipush dX12_ofState_1 kcb_10) ?_
  refine R_s (s_irem dX12_ofState_3 (by decide)) ?_
  refine R_letI (fun x1 => ?_)
  refine R_s (s_istore_n dX12_ofState_4 rfl (Nat.le_of_ble_eq_true rfl)) ?_
  refine R_s (s_iload_n dX12_ofState_5 rfl rfl) ?_
  refine R_s (s_bipush dX12_ofState_6 kcb_100) ?_
  refine R_ite (fun h2 => ?_) (fun h2 => ?_)
  · refine R_s (s_icmp_lt_t dX12_ofState_8 rfl h2) ?_
    refine R_s (s_iload_n dX12_ofState_83 rfl rfl) ?_
    refine R_s (s_bipush dX12_ofState_84 kcb_10) ?_
    refine R_s (s_idiv dX12_ofState_86 (by decide)) ?_
    refine R_letI (fun t3 => ?_)
    refine R_ite (fun h4 => ?_) (fun h4 => ?_)
    · refine R_s (s_tsw_eq (c := 0) dX12_ofState_87 h4 (by decide) (by decide) rfl rfl) ?_
      refine R_s (s_iload_n dX12_ofState_116 rfl rfl) ?_
      refine R_s (s_iconst dX12_ofState_117 kci_0) ?_
      refine R_s (s_iconst dX12_ofState_118 kci_2) ?_
      refine R_s (s_callS (As := [.int _, .int _, .int _]) dX12_ofState_119 Lk_RX12_112 rfl (Nat.le_of_ble_eq_true rfl) (Nat.le_of_ble_eq_true rfl) (ev_X12_in p1 0 2 μ)) ?_
      refine R_ite (fun h5 => ?_) (fun h5 => ?_)
      · refine R_s (s_if_eq_f dX12_ofState_122 rfl (gx_bt h5)) ?_
        refine R_s (s_aload_n dX12_ofState_125 rfl rfl) ?_
        refine R_s (s_iload_n dX12_ofState_126 rfl rfl) ?_
        refine R_br (ec := gx_eI) (fun r_ hr_ => s_callV (As := [.int _]) dX12_ofState_127 Lk_RX12_362 rfl g_206 (by decide) rfl (Nat.le_of_ble_eq_true rfl) (Nat.le_of_ble_eq_true rfl) (ev_X12_ofAll p1 μ hr_)) (fun r6 => ?_)
        refine R_s (s_goto dX12_ofState_130 rfl) ?_
        exact R_r (r := r6) (f_int (ty := .int) dX12_ofState_135 rfl rfl)
      · refine R_s (s_if_eq_t dX12_ofState_122 rfl (gx_bf h5)) ?_
        refine R_s (s_bipush dX12_ofState_133 kcb_m2) ?_
        exact R_r (r := (-2)) (f_int (ty := .int) dX12_ofState_135 rfl rfl)
    · skip
      refine R_ite (fun h7 => ?_) (fun h7 => ?_)
      · refine R_s (s_tsw_eq (c := 1) dX12_ofState_87 h7 (by decide) (by decide) rfl rfl) ?_
        refine R_s (s_iload_n dX12_ofState_136 rfl rfl) ?_
        refine R_s (s_aload_n dX12_ofState_137 rfl rfl) ?_
        refine R_s (gf_RX12_286 rfl dX12_ofState_138) ?_
        refine R_ite (fun h8 => ?_) (fun h8 => ?_)
        · refine R_s (s_icmp_ge_t dX12_ofState_141 rfl h8) ?_
          refine R_s (s_bipush dX12_ofState_153 kcb_m2) ?_
          exact R_r (r := (-2)) (f_int (ty := .int) dX12_ofState_155 rfl rfl)
        · refine R_s (s_icmp_ge_f dX12_ofState_141 rfl h8) ?_
          refine R_s (s_aload_n dX12_ofState_144 rfl rfl) ?_
          refine R_s (gf_RX12_44 rfl dX12_ofState_145) ?_
          refine R_s (s_iload_n dX12_ofState_148 rfl rfl) ?_
          refine R_ck (fun h9 => ?_)
          refine R_s (s_iald dX12_ofState_149 g_218 (gx_ixv h9)) ?_
          refine R_s (s_goto dX12_ofState_150 rfl) ?_
          exact R_r (r := (μ.1 218 x1.toNatClampNeg)) (f_int (ty := .int) dX12_ofState_155 rfl rfl)
      · skip
        refine R_ite (fun h10 => ?_) (fun h10 => ?_)
        · refine R_s (s_tsw_eq (c := 2) dX12_ofState_87 h10 (by decide) (by decide) rfl rfl) ?_
          refine R_s (s_iload_n dX12_ofState_156 rfl rfl) ?_
          refine R_s (s_aload_n dX12_ofState_157 rfl rfl) ?_
          refine R_s (gf_RX12_286 rfl dX12_ofState_158) ?_
          refine R_ite (fun h11 => ?_) (fun h11 => ?_)
          · refine R_s (s_icmp_ge_t dX12_ofState_161 rfl h11) ?_
            refine R_s (s_bipush dX12_ofState_172 kcb_m2) ?_
            exact R_r (r := (-2)) (f_int (ty := .int) dX12_ofState_174 rfl rfl)
          · refine R_s (s_icmp_ge_f dX12_ofState_161 rfl h11) ?_
            refine R_s (s_aload_n dX12_ofState_164 rfl rfl) ?_
            refine R_s (s_iload_n dX12_ofState_165 rfl rfl) ?_
            refine R_br (ec := gx_eI) (fun r_ hr_ => s_callV (As := [.int _]) dX12_ofState_166 Lk_RX12_365 rfl g_206 (by decide) rfl (Nat.le_of_ble_eq_true rfl) (Nat.le_of_ble_eq_true rfl) (ev_X12_minutesOf x1 μ hr_)) (fun r12 => ?_)
            refine R_s (s_goto dX12_ofState_169 rfl) ?_
            exact R_r (r := r12) (f_int (ty := .int) dX12_ofState_174 rfl rfl)
        · skip
          refine R_ite (fun h13 => ?_) (fun h13 => ?_)
          · refine R_s (s_tsw_eq (c := 3) dX12_ofState_87 h13 (by decide) (by decide) rfl rfl) ?_
            refine R_s (s_iload_n dX12_ofState_175 rfl rfl) ?_
            refine R_s (s_aload_n dX12_ofState_176 rfl rfl) ?_
            refine R_s (gf_RX12_289 rfl dX12_ofState_177) ?_
            refine R_ite (fun h14 => ?_) (fun h14 => ?_)
            · refine R_s (s_icmp_ge_t dX12_ofState_180 rfl h14) ?_
              refine R_s (s_bipush dX12_ofState_192 kcb_m2) ?_
              exact R_r (r := (-2)) (f_int (ty := .int) dX12_ofState_194 rfl rfl)
            · refine R_s (s_icmp_ge_f dX12_ofState_180 rfl h14) ?_
              refine R_s (s_aload_n dX12_ofState_183 rfl rfl) ?_
              refine R_s (gf_RX12_57 rfl dX12_ofState_184) ?_
              refine R_s (s_iload_n dX12_ofState_187 rfl rfl) ?_
              refine R_ck (fun h15 => ?_)
              refine R_s (s_iald dX12_ofState_188 g_222 (gx_ixv h15)) ?_
              refine R_s (s_goto dX12_ofState_189 rfl) ?_
              exact R_r (r := (μ.1 222 x1.toNatClampNeg)) (f_int (ty := .int) dX12_ofState_194 rfl rfl)
          · skip
            refine R_s (s_tsw_out dX12_ofState_87 (gx_out_0_4 h4 h7 h10 h13) rfl) ?_
            refine R_s (s_bipush dX12_ofState_195 kcb_m2) ?_
            exact R_r (r := (-2)) (f_int (ty := .int) dX12_ofState_197 rfl rfl)
  · refine R_s (s_icmp_lt_f dX12_ofState_8 rfl h2) ?_
    refine R_s (s_iload_n dX12_ofState_11 rfl rfl) ?_
    refine R_s (s_bipush dX12_ofState_12 kcb_100) ?_
    refine R_s (s_irem dX12_ofState_14 (by decide)) ?_
    refine R_letI (fun x16 => ?_)
    refine R_s (s_istore_n dX12_ofState_15 rfl (Nat.le_of_ble_eq_true rfl)) ?_
    refine R_s (s_iload_n dX12_ofState_16 rfl rfl) ?_
    refine R_s (s_aload_n dX12_ofState_17 rfl rfl) ?_
    refine R_s (gf_RX12_283 rfl dX12_ofState_18) ?_
    refine R_ite (fun h17 => ?_) (fun h17 => ?_)
    · refine R_s (s_icmp_ge_t dX12_ofState_21 rfl h17) ?_
      refine R_s (s_bipush dX12_ofState_31 kcb_m2) ?_
      refine R_s (s_goto dX12_ofState_33 rfl) ?_
      exact R_r (r := (-2)) (f_int (ty := .int) dX12_ofState_82 rfl rfl)
    · refine R_s (s_icmp_ge_f dX12_ofState_21 rfl h17) ?_
      refine R_s (s_iload_n dX12_ofState_24 rfl rfl) ?_
      refine R_s (s_sipush dX12_ofState_25 kcs_400) ?_
      refine R_ite (fun h18 => ?_) (fun h18 => ?_)
      · refine R_s (s_icmp_lt_t dX12_ofState_28 rfl h18) ?_
        refine R_s (s_iload_n dX12_ofState_36 rfl rfl) ?_
        refine R_s (s_sipush dX12_ofState_37 kcs_200) ?_
        refine R_ite (fun h19 => ?_) (fun h19 => ?_)
        · refine R_s (s_icmp_ge_t dX12_ofState_40 rfl h19) ?_
          refine R_s (s_iload_n dX12_ofState_52 rfl rfl) ?_
          refine R_s (s_sipush dX12_ofState_53 kcs_300) ?_
          refine R_ite (fun h20 => ?_) (fun h20 => ?_)
          · refine R_s (s_icmp_ge_t dX12_ofState_56 rfl h20) ?_
            refine R_s (s_aload_n dX12_ofState_68 rfl rfl) ?_
            refine R_s (gf_RX12_53 rfl dX12_ofState_69) ?_
            refine R_s (s_iload_n dX12_ofState_72 rfl rfl) ?_
            refine R_ck (fun h21 => ?_)
            refine R_s (s_zald dX12_ofState_73 g_221 (gx_ixv h21)) ?_
            refine R_ite (fun h22 => ?_) (fun h22 => ?_)
            · refine R_s (s_if_eq_t dX12_ofState_74 rfl h22) ?_
              refine R_s (s_iconst dX12_ofState_81 kci_0) ?_
              exact R_r (r := 0) (f_int (ty := .int) dX12_ofState_82 rfl rfl)
            · refine R_s (s_if_eq_f dX12_ofState_74 rfl h22) ?_
              refine R_s (s_iconst dX12_ofState_77 kci_1) ?_
              refine R_s (s_goto dX12_ofState_78 rfl) ?_
              exact R_r (r := 1) (f_int (ty := .int) dX12_ofState_82 rfl rfl)
          · refine R_s (s_icmp_ge_f dX12_ofState_56 rfl h20) ?_
            refine R_s (s_aload_n dX12_ofState_59 rfl rfl) ?_
            refine R_s (gf_RX12_50 rfl dX12_ofState_60) ?_
            refine R_s (s_iload_n dX12_ofState_63 rfl rfl) ?_
            refine R_ck (fun h23 => ?_)
            refine R_s (s_iald dX12_ofState_64 g_220 (gx_ixv h23)) ?_
            refine R_s (s_goto dX12_ofState_65 rfl) ?_
            exact R_r (r := (μ.1 220 x16.toNatClampNeg)) (f_int (ty := .int) dX12_ofState_82 rfl rfl)
        · refine R_s (s_icmp_ge_f dX12_ofState_40 rfl h19) ?_
          refine R_s (s_aload_n dX12_ofState_43 rfl rfl) ?_
          refine R_s (gf_RX12_47 rfl dX12_ofState_44) ?_
          refine R_s (s_iload_n dX12_ofState_47 rfl rfl) ?_
          refine R_ck (fun h24 => ?_)
          refine R_s (s_iald dX12_ofState_48 g_219 (gx_ixv h24)) ?_
          refine R_s (s_goto dX12_ofState_49 rfl) ?_
          exact R_r (r := (μ.1 219 x16.toNatClampNeg)) (f_int (ty := .int) dX12_ofState_82 rfl rfl)
      · refine R_s (s_icmp_lt_f dX12_ofState_28 rfl h18) ?_
        refine R_s (s_bipush dX12_ofState_31 kcb_m2) ?_
        refine R_s (s_goto dX12_ofState_33 rfl) ?_
        exact R_r (r := (-2)) (f_int (ty := .int) dX12_ofState_82 rfl rfl)

def L_X12_worthOf_4 (μ : gx_M) (p1 : Int32) (k3 : Int32 → Option Int32) : Nat → Int32 → Int32 → Option Int32
  | 0, _, _ => none
  | n + 1, v2_1, v3_2 => if (μ.1 206 27) ≤ v3_2 then k3 v2_1 else gx_lt (fun (j0_8 : Int32) => gx_lt (v2_1 + j0_8) (fun (x9 : Int32) => L_X12_worthOf_4 μ p1 k3 n x9 (v3_2 + 1))) (fun J5 => if (f_X12_has p1 v3_2) = true then gx_br (f_X12_of ((25 : Int32) + v3_2) μ) (fun (r7 : Int32) => J5 r7) else J5 0)
def f_X12_worthOf (p1 : Int32) (μ : gx_M) : Option Int32 := L_X12_worthOf_4 μ p1 (fun (x2_11 : Int32) => some x2_11) 4000 0 0
theorem okL_X12_worthOf_4 {E : gx_E} {l : Launch} {μ : gx_M} {p1 : Int32} {k3 : Int32 → Option Int32} (hk : ∀ (w10 : Int32), GoR E l Y_X12_worthOf 1 gx_eI 41 [none, none, some (.int w10)] [] μ (k3 w10)) : ∀ (n : Nat) (v2_1 : Int32) (v3_2 : Int32), GoR E l Y_X12_worthOf 1 gx_eI 4 [some (.ref (E.2.2.1 + 206)), some (.int p1), some (.int v2_1), some (.int v3_2)] [] μ (L_X12_worthOf_4 μ p1 k3 n v2_1 v3_2) := by
  intro n
  induction n with
  | zero => intros; exact R_no
  | succ n ih =>
    intro v2_1 v3_2
    rw [L_X12_worthOf_4.eq_2]
    refine R_s (s_iload_n dX12_worthOf_4 rfl rfl) ?_
    refine R_s (s_aload_n dX12_worthOf_5 rfl rfl) ?_
    refine R_s (gf_RX12_289 rfl dX12_worthOf_6) ?_
    refine R_ite (fun h4 => ?_) (fun h4 => ?_)
    · refine R_s (s_icmp_ge_t dX12_worthOf_9 rfl h4) ?_
      exact R_wk (hk v2_1) (le_o (le_o (le_s rfl le_n)))
    · refine R_s (s_icmp_ge_f dX12_worthOf_9 rfl h4) ?_
      refine R_s (s_iload_n dX12_worthOf_12 rfl rfl) ?_
      refine R_s (s_iload_n dX12_worthOf_13 rfl rfl) ?_
      refine R_s (s_iload_n dX12_worthOf_14 rfl rfl) ?_
      refine R_s (s_callS (As := [.int _, .int _]) dX12_worthOf_15 Lk_RX12_104 rfl (Nat.le_of_ble_eq_true rfl) (Nat.le_of_ble_eq_true rfl) (ev_X12_has p1 v3_2 μ)) ?_
      refine R_fun (fun J => ∀ (j0_8 : Int32), GoR E l Y_X12_worthOf 1 gx_eI 33 [some (.ref (E.2.2.1 + 206)), some (.int p1), none, some (.int v3_2)] [.int j0_8, .int v2_1] μ (J j0_8)) ?_ (fun J5 hJ5 => ?_)
      · intro j0_8
        refine R_s (s_iadd dX12_worthOf_33) ?_
        refine R_letI (fun x9 => ?_)
        refine R_s (s_istore_n dX12_worthOf_34 rfl (Nat.le_of_ble_eq_true rfl)) ?_
        refine R_s (s_iinc dX12_worthOf_35 rfl (kinc_1 v3_2) (Nat.le_of_ble_eq_true rfl)) ?_
        refine R_s (s_goto dX12_worthOf_38 rfl) ?_
        exact R_wk (ih x9 (v3_2 + 1)) (le_s rfl (le_s rfl (le_s rfl (le_s rfl le_n))))
      · skip
        refine R_ite (fun h6 => ?_) (fun h6 => ?_)
        · refine R_s (s_if_eq_f dX12_worthOf_18 rfl (gx_bt h6)) ?_
          refine R_s (s_aload_n dX12_worthOf_21 rfl rfl) ?_
          refine R_s (s_bipush dX12_worthOf_22 kcb_25) ?_
          refine R_s (s_iload_n dX12_worthOf_24 rfl rfl) ?_
          refine R_s (s_iadd dX12_worthOf_25) ?_
          refine R_br (ec := gx_eI) (fun r_ hr_ => s_callV (As := [.int _]) dX12_worthOf_26 Lk_RX12_279 rfl g_206 (by decide) rfl (Nat.le_of_ble_eq_true rfl) (Nat.le_of_ble_eq_true rfl) (ev_X12_of ((25 : Int32) + v3_2) μ hr_)) (fun r7 => ?_)
          refine R_s (s_goto dX12_worthOf_29 rfl) ?_
          exact R_wk (hJ5 r7) (le_s rfl (le_s rfl (le_o (le_s rfl le_n))))
        · refine R_s (s_if_eq_t dX12_worthOf_18 rfl (gx_bf h6)) ?_
          refine R_s (s_iconst dX12_worthOf_32 kci_0) ?_
          exact R_wk (hJ5 0) (le_s rfl (le_s rfl (le_o (le_s rfl le_n))))
theorem ev_X12_worthOf {E : gx_E} {l : Launch} (p1 : Int32) (μ : gx_M) {r : Int32} (hr : f_X12_worthOf p1 μ = some r) : gEv E l 1 Y_X12_worthOf [.ref (E.2.2.1 + 206), .int p1] gx_G1 μ (gx_eI r) gx_G1 μ := by
  refine R_ev (by decide) (Nat.le_of_ble_eq_true rfl) (em := gx_eI) (T := f_X12_worthOf p1 μ) ?_ hr
  show GoR E l Y_X12_worthOf 1 gx_eI 0 (gx_el [.ref (E.2.2.1 + 206), .int p1]) [] μ (f_X12_worthOf p1 μ)
  unfold f_X12_worthOf
  refine R_s (s_iconst dX12_worthOf_0 kci_0) ?_
  refine R_s (s_istore_n dX12_worthOf_1 rfl (Nat.le_of_ble_eq_true rfl)) ?_
  refine R_s (s_iconst dX12_worthOf_2 kci_0) ?_
  refine R_s (s_istore_n dX12_worthOf_3 rfl (Nat.le_of_ble_eq_true rfl)) ?_
  refine R_wk (okL_X12_worthOf_4 ?_ 4000 0 0) (le_s rfl (le_s rfl (le_s rfl (le_s rfl le_n))))
  intro x2_11
  refine R_s (s_iload_n dX12_worthOf_41 rfl rfl) ?_
  exact R_r (r := x2_11) (f_int (ty := .int) dX12_worthOf_42 rfl rfl)

def L_X12_fewestHits_70 (v3_3 : Int32) (p1 : Int64) (v4_7 : Int32) (v5_15 : Int32) (k25 : gx_M → Option (Int32 × gx_M)) : Nat → Int32 → gx_M → Option (Int32 × gx_M)
  | 0, _, _ => none
  | n + 1, v6_23, μ24 => if (μ24.1 206 25) ≤ v6_23 then k25 μ24 else gx_lt (fun (μ36 : gx_M) => if 3 ≤ v3_3 then L_X12_fewestHits_70 v3_3 p1 v4_7 v5_15 k25 n (v6_23 + 1) μ36 else k25 μ36) (fun J27 => if (f_X12_hasBit p1 v4_7) = true then if (f_X12_hasBit p1 v5_15) = true then if (f_X12_hasBit p1 v6_23) = true then gx_br (f_X12_allHit ((((1 : Int64) <<< ((v4_7 : Int32).toInt64 &&& 63)) ||| ((1 : Int64) <<< ((v5_15 : Int32).toInt64 &&& 63))) ||| ((1 : Int64) <<< ((v6_23 : Int32).toInt64 &&& 63))) μ24) (fun (r31 : Bool) => if r31 = true then gx_lt (gx_uI μ24 230 0 v4_7) (fun (μ33 : gx_M) => gx_lt (gx_uI μ33 230 1 v5_15) (fun (μ34 : gx_M) => gx_lt (gx_uI μ34 230 2 v6_23) (fun (μ35 : gx_M) => some (v3_3, μ35)))) else J27 μ24) else J27 μ24 else J27 μ24 else J27 μ24)
def L_X12_fewestHits_45 (v3_3 : Int32) (p1 : Int64) (v4_7 : Int32) (k17 : gx_M → Option (Int32 × gx_M)) : Nat → Int32 → gx_M → Option (Int32 × gx_M)
  | 0, _, _ => none
  | n + 1, v5_15, μ16 => if (μ16.1 206 25) ≤ v5_15 then k17 μ16 else gx_lt (fun (j0_21 : Int32) (μ22 : gx_M) => L_X12_fewestHits_70 v3_3 p1 v4_7 v5_15 (fun (μ39 : gx_M) => if 2 ≤ v3_3 then L_X12_fewestHits_45 v3_3 p1 v4_7 k17 n (v5_15 + 1) μ39 else k17 μ39) 4000 j0_21 μ22) (fun J19 => if v3_3 ≤ 2 then J19 v5_15 μ16 else J19 (v5_15 + 1) μ16)
def L_X12_fewestHits_20 (v3_3 : Int32) (p1 : Int64) (k9 : gx_M → Option (Int32 × gx_M)) : Nat → Int32 → gx_M → Option (Int32 × gx_M)
  | 0, _, _ => none
  | n + 1, v4_7, μ8 => if (μ8.1 206 25) ≤ v4_7 then k9 μ8 else gx_lt (fun (j0_13 : Int32) (μ14 : gx_M) => L_X12_fewestHits_45 v3_3 p1 v4_7 (fun (μ42 : gx_M) => L_X12_fewestHits_20 v3_3 p1 k9 n (v4_7 + 1) μ42) 4000 j0_13 μ14) (fun J11 => if v3_3 ≤ 1 then J11 v4_7 μ8 else J11 (v4_7 + 1) μ8)
def L_X12_fewestHits_12 (p1 : Int64) (k5 : gx_M → Option (Int32 × gx_M)) : Nat → Int32 → gx_M → Option (Int32 × gx_M)
  | 0, _, _ => none
  | n + 1, v3_3, μ4 => if 3 < v3_3 then k5 μ4 else L_X12_fewestHits_20 v3_3 p1 (fun (μ44 : gx_M) => L_X12_fewestHits_12 p1 k5 n (v3_3 + 1) μ44) 4000 0 μ4
def f_X12_fewestHits (p1 : Int64) (μ : gx_M) : Option (Int32 × gx_M) := gx_br (f_X12_allHit 0 μ) (fun (r1 : Bool) => if r1 = true then some (0, μ) else L_X12_fewestHits_12 p1 (fun (μ46 : gx_M) => some ((-1), μ46)) 4000 1 μ)
theorem okL_X12_fewestHits_70 {E : gx_E} {l : Launch} {v3_3 : Int32} {p1 : Int64} {v4_7 : Int32} {v5_15 : Int32} {k25 : gx_M → Option (Int32 × gx_M)} (hk : ∀ (μ38 : gx_M), GoW E l Y_X12_fewestHits 1 gx_eI 167 [some (.ref (E.2.2.1 + 206)), some (.long p1), none, some (.int v3_3), some (.int v4_7), some (.int v5_15)] [] μ38 (k25 μ38)) : ∀ (n : Nat) (v6_23 : Int32) (μ24 : gx_M), GoW E l Y_X12_fewestHits 1 gx_eI 70 [some (.ref (E.2.2.1 + 206)), some (.long p1), none, some (.int v3_3), some (.int v4_7), some (.int v5_15), some (.int v6_23)] [] μ24 (L_X12_fewestHits_70 v3_3 p1 v4_7 v5_15 k25 n v6_23 μ24) := by
  intro n
  induction n with
  | zero => intros; exact W_no
  | succ n ih =>
    intro v6_23 μ24
    rw [L_X12_fewestHits_70.eq_2]
    refine W_s (s_iload dX12_fewestHits_70 rfl) ?_
    refine W_s (s_aload_n dX12_fewestHits_72 rfl rfl) ?_
    refine W_s (gf_RX12_283 rfl dX12_fewestHits_73) ?_
    refine W_ite (fun h26 => ?_) (fun h26 => ?_)
    · refine W_s (s_icmp_ge_t dX12_fewestHits_76 rfl h26) ?_
      exact W_wk (hk μ24) (le_s rfl (le_s rfl (le_o (le_s rfl (le_s rfl (le_s rfl le_n))))))
    · refine W_s (s_icmp_ge_f dX12_fewestHits_76 rfl h26) ?_
      refine W_s (s_lload_n dX12_fewestHits_79 rfl rfl) ?_
      refine W_s (s_iload dX12_fewestHits_80 rfl) ?_
      refine W_s (s_callS (As := [.long _, .int _]) dX12_fewestHits_82 Lk_RX12_424 rfl (Nat.le_of_ble_eq_true rfl) (Nat.le_of_ble_eq_true rfl) (ev_X12_hasBit p1 v4_7 μ24)) ?_
      refine W_fun (fun J => ∀ (μ36 : gx_M), GoW E l Y_X12_fewestHits 1 gx_eI 153 [some (.ref (E.2.2.1 + 206)), some (.long p1), none, some (.int v3_3), some (.int v4_7), some (.int v5_15), some (.int v6_23)] [] μ36 (J μ36)) ?_ (fun J27 hJ27 => ?_)
      · intro μ36
        refine W_s (s_iload_n dX12_fewestHits_153 rfl rfl) ?_
        refine W_s (s_iconst dX12_fewestHits_154 kci_3) ?_
        refine W_ite (fun h37 => ?_) (fun h37 => ?_)
        · refine W_s (s_icmp_ge_t dX12_fewestHits_155 rfl h37) ?_
          refine W_s (s_iinc dX12_fewestHits_161 rfl (kinc_1 v6_23) (Nat.le_of_ble_eq_true rfl)) ?_
          refine W_s (s_goto dX12_fewestHits_164 rfl) ?_
          exact W_wk (ih (v6_23 + 1) μ36) (le_s rfl (le_s rfl (le_o (le_s rfl (le_s rfl (le_s rfl (le_s rfl le_n)))))))
        · refine W_s (s_icmp_ge_f dX12_fewestHits_155 rfl h37) ?_
          refine W_s (s_goto dX12_fewestHits_158 rfl) ?_
          exact W_wk (hk μ36) (le_s rfl (le_s rfl (le_o (le_s rfl (le_s rfl (le_s rfl le_n))))))
      · skip
        refine W_ite (fun h28 => ?_) (fun h28 => ?_)
        · refine W_s (s_if_eq_f dX12_fewestHits_85 rfl (gx_bt h28)) ?_
          refine W_s (s_lload_n dX12_fewestHits_88 rfl rfl) ?_
          refine W_s (s_iload dX12_fewestHits_89 rfl) ?_
          refine W_s (s_callS (As := [.long _, .int _]) dX12_fewestHits_91 Lk_RX12_424 rfl (Nat.le_of_ble_eq_true rfl) (Nat.le_of_ble_eq_true rfl) (ev_X12_hasBit p1 v5_15 μ24)) ?_
          refine W_ite (fun h29 => ?_) (fun h29 => ?_)
          · refine W_s (s_if_eq_f dX12_fewestHits_94 rfl (gx_bt h29)) ?_
            refine W_s (s_lload_n dX12_fewestHits_97 rfl rfl) ?_
            refine W_s (s_iload dX12_fewestHits_98 rfl) ?_
            refine W_s (s_callS (As := [.long _, .int _]) dX12_fewestHits_100 Lk_RX12_424 rfl (Nat.le_of_ble_eq_true rfl) (Nat.le_of_ble_eq_true rfl) (ev_X12_hasBit p1 v6_23 μ24)) ?_
            refine W_ite (fun h30 => ?_) (fun h30 => ?_)
            · refine W_s (s_if_eq_f dX12_fewestHits_103 rfl (gx_bt h30)) ?_
              refine W_s (s_aload_n dX12_fewestHits_106 rfl rfl) ?_
              refine W_s (s_lconst dX12_fewestHits_107 kcl_1) ?_
              refine W_s (s_iload dX12_fewestHits_108 rfl) ?_
              refine W_s (s_lshl dX12_fewestHits_110) ?_
              refine W_s (s_lconst dX12_fewestHits_111 kcl_1) ?_
              refine W_s (s_iload dX12_fewestHits_112 rfl) ?_
              refine W_s (s_lshl dX12_fewestHits_114) ?_
              refine W_s (s_lor dX12_fewestHits_115) ?_
              refine W_s (s_lconst dX12_fewestHits_116 kcl_1) ?_
              refine W_s (s_iload dX12_fewestHits_117 rfl) ?_
              refine W_s (s_lshl dX12_fewestHits_119) ?_
              refine W_s (s_lor dX12_fewestHits_120) ?_
              refine W_br (ec := gx_eB) (fun r_ hr_ => s_callV (As := [.long _]) dX12_fewestHits_121 Lk_RX12_421 rfl g_206 (by decide) rfl (Nat.le_of_ble_eq_true rfl) (Nat.le_of_ble_eq_true rfl) (ev_X12_allHit ((((1 : Int64) <<< ((v4_7 : Int32).toInt64 &&& 63)) ||| ((1 : Int64) <<< ((v5_15 : Int32).toInt64 &&& 63))) ||| ((1 : Int64) <<< ((v6_23 : Int32).toInt64 &&& 63))) μ24 hr_)) (fun r31 => ?_)
              refine W_ite (fun h32 => ?_) (fun h32 => ?_)
              · refine W_s (s_if_eq_f dX12_fewestHits_124 rfl (gx_bt h32)) ?_
                refine W_s (s_aload_n dX12_fewestHits_127 rfl rfl) ?_
                refine W_s (gf_RX12_82 rfl dX12_fewestHits_128) ?_
                refine W_s (s_iconst dX12_fewestHits_131 kci_0) ?_
                refine W_s (s_iload dX12_fewestHits_132 rfl) ?_
                refine W_s (s_iastL (k := 0) dX12_fewestHits_134 g_230 (gx_inl (by decide)) (by decide)) ?_
                refine W_letM (fun μ33 => ?_)
                refine W_s (s_aload_n dX12_fewestHits_135 rfl rfl) ?_
                refine W_s (gf_RX12_82 rfl dX12_fewestHits_136) ?_
                refine W_s (s_iconst dX12_fewestHits_139 kci_1) ?_
                refine W_s (s_iload dX12_fewestHits_140 rfl) ?_
                refine W_s (s_iastL (k := 1) dX12_fewestHits_142 g_230 (gx_inl (by decide)) (by decide)) ?_
                refine W_letM (fun μ34 => ?_)
                refine W_s (s_aload_n dX12_fewestHits_143 rfl rfl) ?_
                refine W_s (gf_RX12_82 rfl dX12_fewestHits_144) ?_
                refine W_s (s_iconst dX12_fewestHits_147 kci_2) ?_
                refine W_s (s_iload dX12_fewestHits_148 rfl) ?_
                refine W_s (s_iastL (k := 2) dX12_fewestHits_150 g_230 (gx_inl (by decide)) (by decide)) ?_
                refine W_letM (fun μ35 => ?_)
                refine W_s (s_iload_n dX12_fewestHits_151 rfl rfl) ?_
                exact W_r (r := v3_3) (f_int (ty := .int) dX12_fewestHits_152 rfl rfl)
              · refine W_s (s_if_eq_t dX12_fewestHits_124 rfl (gx_bf h32)) ?_
                exact W_wk (hJ27 μ24) (le_s rfl (le_s rfl (le_o (le_s rfl (le_s rfl (le_s rfl (le_s rfl le_n)))))))
            · refine W_s (s_if_eq_t dX12_fewestHits_103 rfl (gx_bf h30)) ?_
              exact W_wk (hJ27 μ24) (le_s rfl (le_s rfl (le_o (le_s rfl (le_s rfl (le_s rfl (le_s rfl le_n)))))))
          · refine W_s (s_if_eq_t dX12_fewestHits_94 rfl (gx_bf h29)) ?_
            exact W_wk (hJ27 μ24) (le_s rfl (le_s rfl (le_o (le_s rfl (le_s rfl (le_s rfl (le_s rfl le_n)))))))
        · refine W_s (s_if_eq_t dX12_fewestHits_85 rfl (gx_bf h28)) ?_
          exact W_wk (hJ27 μ24) (le_s rfl (le_s rfl (le_o (le_s rfl (le_s rfl (le_s rfl (le_s rfl le_n)))))))
theorem okL_X12_fewestHits_45 {E : gx_E} {l : Launch} {v3_3 : Int32} {p1 : Int64} {v4_7 : Int32} {k17 : gx_M → Option (Int32 × gx_M)} (hk : ∀ (μ41 : gx_M), GoW E l Y_X12_fewestHits 1 gx_eI 181 [some (.ref (E.2.2.1 + 206)), some (.long p1), none, some (.int v3_3), some (.int v4_7)] [] μ41 (k17 μ41)) : ∀ (n : Nat) (v5_15 : Int32) (μ16 : gx_M), GoW E l Y_X12_fewestHits 1 gx_eI 45 [some (.ref (E.2.2.1 + 206)), some (.long p1), none, some (.int v3_3), some (.int v4_7), some (.int v5_15)] [] μ16 (L_X12_fewestHits_45 v3_3 p1 v4_7 k17 n v5_15 μ16) := by
  intro n
  induction n with
  | zero => intros; exact W_no
  | succ n ih =>
    intro v5_15 μ16
    rw [L_X12_fewestHits_45.eq_2]
    refine W_s (s_iload dX12_fewestHits_45 rfl) ?_
    refine W_s (s_aload_n dX12_fewestHits_47 rfl rfl) ?_
    refine W_s (gf_RX12_283 rfl dX12_fewestHits_48) ?_
    refine W_ite (fun h18 => ?_) (fun h18 => ?_)
    · refine W_s (s_icmp_ge_t dX12_fewestHits_51 rfl h18) ?_
      exact W_wk (hk μ16) (le_s rfl (le_s rfl (le_o (le_s rfl (le_s rfl le_n)))))
    · refine W_s (s_icmp_ge_f dX12_fewestHits_51 rfl h18) ?_
      refine W_s (s_iload_n dX12_fewestHits_54 rfl rfl) ?_
      refine W_s (s_iconst dX12_fewestHits_55 kci_2) ?_
      refine W_fun (fun J => ∀ (j0_21 : Int32) (μ22 : gx_M), GoW E l Y_X12_fewestHits 1 gx_eI 68 [some (.ref (E.2.2.1 + 206)), some (.long p1), none, some (.int v3_3), some (.int v4_7), some (.int v5_15)] [.int j0_21] μ22 (J j0_21 μ22)) ?_ (fun J19 hJ19 => ?_)
      · intro j0_21 μ22
        refine W_s (s_istore dX12_fewestHits_68 (Nat.le_of_ble_eq_true rfl)) ?_
        refine W_wk (okL_X12_fewestHits_70 ?_ 4000 j0_21 μ22) (le_s rfl (le_s rfl (le_o (le_s rfl (le_s rfl (le_s rfl (le_s rfl le_n)))))))
        intro μ39
        refine W_s (s_iload_n dX12_fewestHits_167 rfl rfl) ?_
        refine W_s (s_iconst dX12_fewestHits_168 kci_2) ?_
        refine W_ite (fun h40 => ?_) (fun h40 => ?_)
        · refine W_s (s_icmp_ge_t dX12_fewestHits_169 rfl h40) ?_
          refine W_s (s_iinc dX12_fewestHits_175 rfl (kinc_1 v5_15) (Nat.le_of_ble_eq_true rfl)) ?_
          refine W_s (s_goto dX12_fewestHits_178 rfl) ?_
          exact W_wk (ih (v5_15 + 1) μ39) (le_s rfl (le_s rfl (le_o (le_s rfl (le_s rfl (le_s rfl le_n))))))
        · refine W_s (s_icmp_ge_f dX12_fewestHits_169 rfl h40) ?_
          refine W_s (s_goto dX12_fewestHits_172 rfl) ?_
          exact W_wk (hk μ39) (le_s rfl (le_s rfl (le_o (le_s rfl (le_s rfl le_n)))))
      · skip
        refine W_ite (fun h20 => ?_) (fun h20 => ?_)
        · refine W_s (s_icmp_le_t dX12_fewestHits_56 rfl h20) ?_
          refine W_s (s_iload dX12_fewestHits_66 rfl) ?_
          exact W_wk (hJ19 v5_15 μ16) (le_s rfl (le_s rfl (le_o (le_s rfl (le_s rfl (le_s rfl le_n))))))
        · refine W_s (s_icmp_le_f dX12_fewestHits_56 rfl h20) ?_
          refine W_s (s_iload dX12_fewestHits_59 rfl) ?_
          refine W_s (s_iconst dX12_fewestHits_61 kci_1) ?_
          refine W_s (s_iadd dX12_fewestHits_62) ?_
          refine W_s (s_goto dX12_fewestHits_63 rfl) ?_
          exact W_wk (hJ19 (v5_15 + 1) μ16) (le_s rfl (le_s rfl (le_o (le_s rfl (le_s rfl (le_s rfl le_n))))))
theorem okL_X12_fewestHits_20 {E : gx_E} {l : Launch} {v3_3 : Int32} {p1 : Int64} {k9 : gx_M → Option (Int32 × gx_M)} (hk : ∀ (μ43 : gx_M), GoW E l Y_X12_fewestHits 1 gx_eI 187 [some (.ref (E.2.2.1 + 206)), some (.long p1), none, some (.int v3_3)] [] μ43 (k9 μ43)) : ∀ (n : Nat) (v4_7 : Int32) (μ8 : gx_M), GoW E l Y_X12_fewestHits 1 gx_eI 20 [some (.ref (E.2.2.1 + 206)), some (.long p1), none, some (.int v3_3), some (.int v4_7)] [] μ8 (L_X12_fewestHits_20 v3_3 p1 k9 n v4_7 μ8) := by
  intro n
  induction n with
  | zero => intros; exact W_no
  | succ n ih =>
    intro v4_7 μ8
    rw [L_X12_fewestHits_20.eq_2]
    refine W_s (s_iload dX12_fewestHits_20 rfl) ?_
    refine W_s (s_aload_n dX12_fewestHits_22 rfl rfl) ?_
    refine W_s (gf_RX12_283 rfl dX12_fewestHits_23) ?_
    refine W_ite (fun h10 => ?_) (fun h10 => ?_)
    · refine W_s (s_icmp_ge_t dX12_fewestHits_26 rfl h10) ?_
      exact W_wk (hk μ8) (le_s rfl (le_s rfl (le_o (le_s rfl le_n))))
    · refine W_s (s_icmp_ge_f dX12_fewestHits_26 rfl h10) ?_
      refine W_s (s_iload_n dX12_fewestHits_29 rfl rfl) ?_
      refine W_s (s_iconst dX12_fewestHits_30 kci_1) ?_
      refine W_fun (fun J => ∀ (j0_13 : Int32) (μ14 : gx_M), GoW E l Y_X12_fewestHits 1 gx_eI 43 [some (.ref (E.2.2.1 + 206)), some (.long p1), none, some (.int v3_3), some (.int v4_7)] [.int j0_13] μ14 (J j0_13 μ14)) ?_ (fun J11 hJ11 => ?_)
      · intro j0_13 μ14
        refine W_s (s_istore dX12_fewestHits_43 (Nat.le_of_ble_eq_true rfl)) ?_
        refine W_wk (okL_X12_fewestHits_45 ?_ 4000 j0_13 μ14) (le_s rfl (le_s rfl (le_o (le_s rfl (le_s rfl (le_s rfl le_n))))))
        intro μ42
        refine W_s (s_iinc dX12_fewestHits_181 rfl (kinc_1 v4_7) (Nat.le_of_ble_eq_true rfl)) ?_
        refine W_s (s_goto dX12_fewestHits_184 rfl) ?_
        exact W_wk (ih (v4_7 + 1) μ42) (le_s rfl (le_s rfl (le_o (le_s rfl (le_s rfl le_n)))))
      · skip
        refine W_ite (fun h12 => ?_) (fun h12 => ?_)
        · refine W_s (s_icmp_le_t dX12_fewestHits_31 rfl h12) ?_
          refine W_s (s_iload dX12_fewestHits_41 rfl) ?_
          exact W_wk (hJ11 v4_7 μ8) (le_s rfl (le_s rfl (le_o (le_s rfl (le_s rfl le_n)))))
        · refine W_s (s_icmp_le_f dX12_fewestHits_31 rfl h12) ?_
          refine W_s (s_iload dX12_fewestHits_34 rfl) ?_
          refine W_s (s_iconst dX12_fewestHits_36 kci_1) ?_
          refine W_s (s_iadd dX12_fewestHits_37) ?_
          refine W_s (s_goto dX12_fewestHits_38 rfl) ?_
          exact W_wk (hJ11 (v4_7 + 1) μ8) (le_s rfl (le_s rfl (le_o (le_s rfl (le_s rfl le_n)))))
theorem okL_X12_fewestHits_12 {E : gx_E} {l : Launch} {p1 : Int64} {k5 : gx_M → Option (Int32 × gx_M)} (hk : ∀ (μ45 : gx_M), GoW E l Y_X12_fewestHits 1 gx_eI 193 [] [] μ45 (k5 μ45)) : ∀ (n : Nat) (v3_3 : Int32) (μ4 : gx_M), GoW E l Y_X12_fewestHits 1 gx_eI 12 [some (.ref (E.2.2.1 + 206)), some (.long p1), none, some (.int v3_3)] [] μ4 (L_X12_fewestHits_12 p1 k5 n v3_3 μ4) := by
  intro n
  induction n with
  | zero => intros; exact W_no
  | succ n ih =>
    intro v3_3 μ4
    rw [L_X12_fewestHits_12.eq_2]
    refine W_s (s_iload_n dX12_fewestHits_12 rfl rfl) ?_
    refine W_s (s_iconst dX12_fewestHits_13 kci_3) ?_
    refine W_ite (fun h6 => ?_) (fun h6 => ?_)
    · refine W_s (s_icmp_gt_t dX12_fewestHits_14 rfl h6) ?_
      exact W_wk (hk μ4) le_n
    · refine W_s (s_icmp_gt_f dX12_fewestHits_14 rfl h6) ?_
      refine W_s (s_iconst dX12_fewestHits_17 kci_0) ?_
      refine W_s (s_istore dX12_fewestHits_18 (Nat.le_of_ble_eq_true rfl)) ?_
      refine W_wk (okL_X12_fewestHits_20 ?_ 4000 0 μ4) (le_s rfl (le_s rfl (le_o (le_s rfl (le_s rfl le_n)))))
      intro μ44
      refine W_s (s_iinc dX12_fewestHits_187 rfl (kinc_1 v3_3) (Nat.le_of_ble_eq_true rfl)) ?_
      refine W_s (s_goto dX12_fewestHits_190 rfl) ?_
      exact W_wk (ih (v3_3 + 1) μ44) (le_s rfl (le_s rfl (le_o (le_s rfl le_n))))
theorem ev_X12_fewestHits {E : gx_E} {l : Launch} (p1 : Int64) (μ : gx_M) {r : Int32} {μ' : gx_M} (hr : f_X12_fewestHits p1 μ = some (r, μ')) : gEv E l 1 Y_X12_fewestHits [.ref (E.2.2.1 + 206), .long p1] gx_G1 μ (gx_eI r) gx_G1 μ' := by
  refine W_ev (by decide) (Nat.le_of_ble_eq_true rfl) (em := gx_eI) (T := f_X12_fewestHits p1 μ) ?_ hr
  show GoW E l Y_X12_fewestHits 1 gx_eI 0 (gx_el [.ref (E.2.2.1 + 206), .long p1]) [] μ (f_X12_fewestHits p1 μ)
  unfold f_X12_fewestHits
  refine W_s (s_aload_n dX12_fewestHits_0 rfl rfl) ?_
  refine W_s (s_lconst dX12_fewestHits_1 kcl_0) ?_
  refine W_br (ec := gx_eB) (fun r_ hr_ => s_callV (As := [.long _]) dX12_fewestHits_2 Lk_RX12_421 rfl g_206 (by decide) rfl (Nat.le_of_ble_eq_true rfl) (Nat.le_of_ble_eq_true rfl) (ev_X12_allHit 0 μ hr_)) (fun r1 => ?_)
  refine W_ite (fun h2 => ?_) (fun h2 => ?_)
  · refine W_s (s_if_eq_f dX12_fewestHits_5 rfl (gx_bt h2)) ?_
    refine W_s (s_iconst dX12_fewestHits_8 kci_0) ?_
    exact W_r (r := 0) (f_int (ty := .int) dX12_fewestHits_9 rfl rfl)
  · refine W_s (s_if_eq_t dX12_fewestHits_5 rfl (gx_bf h2)) ?_
    refine W_s (s_iconst dX12_fewestHits_10 kci_1) ?_
    refine W_s (s_istore_n dX12_fewestHits_11 rfl (Nat.le_of_ble_eq_true rfl)) ?_
    refine W_wk (okL_X12_fewestHits_12 ?_ 4000 1 μ) (le_s rfl (le_s rfl (le_o (le_s rfl le_n))))
    intro μ46
    refine W_s (s_iconst dX12_fewestHits_193 kci_m1) ?_
    exact W_r (r := (-1)) (f_int (ty := .int) dX12_fewestHits_194 rfl rfl)

def f_X12_part (p0 : Int64) (p2 : Int64) (p4 : Bool) (μ : gx_M) : Option Int64 := gx_lt (fun (j0_3 : Int64) => gx_br (f_X12_common p2 p0 μ) (fun (r4 : Int64) => gx_ck (¬ r4 = 0) (some (j0_3 / r4)))) (fun J1 => if p4 = true then J1 p2 else J1 p0)
theorem ev_X12_part {E : gx_E} {l : Launch} (p0 : Int64) (p2 : Int64) (p4 : Bool) (μ : gx_M) {r : Int64} (hr : f_X12_part p0 p2 p4 μ = some r) : gEv E l 1 Y_X12_part [.long p0, .long p2, .int (gx_bi p4)] gx_G1 μ (gx_eL r) gx_G1 μ := by
  refine R_ev (by decide) (Nat.le_of_ble_eq_true rfl) (em := gx_eL) (T := f_X12_part p0 p2 p4 μ) ?_ hr
  show GoR E l Y_X12_part 1 gx_eL 0 (gx_el [.long p0, .long p2, .int (gx_bi p4)]) [] μ (f_X12_part p0 p2 p4 μ)
  unfold f_X12_part
  refine R_s (s_iload dX12_part_0 rfl) ?_
  refine R_fun (fun J => ∀ (j0_3 : Int64), GoR E l Y_X12_part 1 gx_eL 10 [some (.long p0), none, some (.long p2)] [.long j0_3] μ (J j0_3)) ?_ (fun J1 hJ1 => ?_)
  · intro j0_3
    refine R_s (s_lload_n dX12_part_10 rfl rfl) ?_
    refine R_s (s_lload_n dX12_part_11 rfl rfl) ?_
    refine R_br (ec := gx_eL) (fun r_ hr_ => s_callS (As := [.long _, .long _]) dX12_part_12 Lk_RX12_446 rfl (Nat.le_of_ble_eq_true rfl) (Nat.le_of_ble_eq_true rfl) (ev_X12_common p2 p0 μ hr_)) (fun r4 => ?_)
    refine R_ck (fun h5 => ?_)
    refine R_s (s_ldiv dX12_part_15 h5) ?_
    exact R_r (r := (j0_3 / r4)) (f_long dX12_part_16 rfl)
  · skip
    refine R_ite (fun h2 => ?_) (fun h2 => ?_)
    · refine R_s (s_if_eq_f dX12_part_2 rfl (gx_bt h2)) ?_
      refine R_s (s_lload_n dX12_part_5 rfl rfl) ?_
      refine R_s (s_goto dX12_part_6 rfl) ?_
      exact R_wk (hJ1 p2) (le_s rfl (le_o (le_s rfl le_n)))
    · refine R_s (s_if_eq_t dX12_part_2 rfl (gx_bf h2)) ?_
      refine R_s (s_lload_n dX12_part_9 rfl rfl) ?_
      exact R_wk (hJ1 p0) (le_s rfl (le_o (le_s rfl le_n)))

def L_X12_leftBy_8 (p0 : Int32) (p1 : Int32) (p2 : Int32) (μ : gx_M) (k4 : Int64 → Option Int64) : Nat → Int64 → Int64 → Int32 → Option Int64
  | 0, _, _, _ => none
  | n + 1, v3_1, v5_2, v7_3 => if p0 < v7_3 then k4 v3_1 else gx_lt (fun (j0_10 : Int64) => gx_lt (v3_1 + j0_10) (fun (x11 : Int64) => gx_ck (¬ (((v7_3 + 1) : Int32).toInt64) = 0) (gx_lt ((v5_2 * (((p0 - v7_3) : Int32).toInt64)) / (((v7_3 + 1) : Int32).toInt64)) (fun (x13 : Int64) => L_X12_leftBy_8 p0 p1 p2 μ k4 n x11 x13 (v7_3 + 1))))) (fun J6 => if v7_3 < p1 then J6 0 else gx_br (f_X12_power ((10 : Int64) - ((p2 : Int32).toInt64)) v7_3 μ) (fun (r8 : Int64) => gx_br (f_X12_power ((p2 : Int32).toInt64) (p0 - v7_3) μ) (fun (r9 : Int64) => J6 ((v5_2 * r8) * r9))))
def f_X12_leftBy (p0 : Int32) (p1 : Int32) (p2 : Int32) (μ : gx_M) : Option Int64 := L_X12_leftBy_8 p0 p1 p2 μ (fun (x3_15 : Int64) => some x3_15) 4000 0 1 0
theorem okL_X12_leftBy_8 {E : gx_E} {l : Launch} {p0 : Int32} {p1 : Int32} {p2 : Int32} {μ : gx_M} {k4 : Int64 → Option Int64} (hk : ∀ (w14 : Int64), GoR E l Y_X12_leftBy 1 gx_eL 73 [none, none, none, some (.long w14)] [] μ (k4 w14)) : ∀ (n : Nat) (v3_1 : Int64) (v5_2 : Int64) (v7_3 : Int32), GoR E l Y_X12_leftBy 1 gx_eL 8 [some (.int p0), some (.int p1), some (.int p2), some (.long v3_1), none, some (.long v5_2), none, some (.int v7_3)] [] μ (L_X12_leftBy_8 p0 p1 p2 μ k4 n v3_1 v5_2 v7_3) := by
  intro n
  induction n with
  | zero => intros; exact R_no
  | succ n ih =>
    intro v3_1 v5_2 v7_3
    rw [L_X12_leftBy_8.eq_2]
    refine R_s (s_iload dX12_leftBy_8 rfl) ?_
    refine R_s (s_iload_n dX12_leftBy_10 rfl rfl) ?_
    refine R_ite (fun h5 => ?_) (fun h5 => ?_)
    · refine R_s (s_icmp_gt_t dX12_leftBy_11 rfl h5) ?_
      exact R_wk (hk v3_1) (le_o (le_o (le_o (le_s rfl le_n))))
    · refine R_s (s_icmp_gt_f dX12_leftBy_11 rfl h5) ?_
      refine R_s (s_lload_n dX12_leftBy_14 rfl rfl) ?_
      refine R_s (s_iload dX12_leftBy_15 rfl) ?_
      refine R_s (s_iload_n dX12_leftBy_17 rfl rfl) ?_
      refine R_fun (fun J => ∀ (j0_10 : Int64), GoR E l Y_X12_leftBy 1 gx_eL 49 [some (.int p0), some (.int p1), some (.int p2), none, none, some (.long v5_2), none, some (.int v7_3)] [.long j0_10, .long v3_1] μ (J j0_10)) ?_ (fun J6 hJ6 => ?_)
      · intro j0_10
        refine R_s (s_ladd dX12_leftBy_49) ?_
        refine R_letL (fun x11 => ?_)
        refine R_s (s_lstore_n dX12_leftBy_50 rfl (Nat.le_of_ble_eq_true rfl)) ?_
        refine R_s (s_lload dX12_leftBy_51 rfl) ?_
        refine R_s (s_iload_n dX12_leftBy_53 rfl rfl) ?_
        refine R_s (s_iload dX12_leftBy_54 rfl) ?_
        refine R_s (s_isub dX12_leftBy_56) ?_
        refine R_s (s_i2l dX12_leftBy_57) ?_
        refine R_s (s_lmul dX12_leftBy_58) ?_
        refine R_s (s_iload dX12_leftBy_59 rfl) ?_
        refine R_s (s_iconst dX12_leftBy_61 kci_1) ?_
        refine R_s (s_iadd dX12_leftBy_62) ?_
        refine R_s (s_i2l dX12_leftBy_63) ?_
        refine R_ck (fun h12 => ?_)
        refine R_s (s_ldiv dX12_leftBy_64 h12) ?_
        refine R_letL (fun x13 => ?_)
        refine R_s (s_lstore dX12_leftBy_65 (Nat.le_of_ble_eq_true rfl)) ?_
        refine R_s (s_iinc dX12_leftBy_67 rfl (kinc_1 v7_3) (Nat.le_of_ble_eq_true rfl)) ?_
        refine R_s (s_goto dX12_leftBy_70 rfl) ?_
        exact R_wk (ih x11 x13 (v7_3 + 1)) (le_s rfl (le_s rfl (le_s rfl (le_s rfl (le_o (le_s rfl (le_o (le_s rfl le_n))))))))
      · skip
        refine R_ite (fun h7 => ?_) (fun h7 => ?_)
        · refine R_s (s_icmp_lt_t dX12_leftBy_18 rfl h7) ?_
          refine R_s (s_lconst dX12_leftBy_48 kcl_0) ?_
          exact R_wk (hJ6 0) (le_s rfl (le_s rfl (le_s rfl (le_o (le_o (le_s rfl (le_o (le_s rfl le_n))))))))
        · refine R_s (s_icmp_lt_f dX12_leftBy_18 rfl h7) ?_
          refine R_s (s_lload dX12_leftBy_21 rfl) ?_
          refine R_s (s_ldc2 dX12_leftBy_23 kw_RX12_450) ?_
          refine R_s (s_iload_n dX12_leftBy_26 rfl rfl) ?_
          refine R_s (s_i2l dX12_leftBy_27) ?_
          refine R_s (s_lsub dX12_leftBy_28) ?_
          refine R_s (s_iload dX12_leftBy_29 rfl) ?_
          refine R_br (ec := gx_eL) (fun r_ hr_ => s_callS (As := [.long _, .int _]) dX12_leftBy_31 Lk_RX12_452 rfl (Nat.le_of_ble_eq_true rfl) (Nat.le_of_ble_eq_true rfl) (ev_X12_power ((10 : Int64) - ((p2 : Int32).toInt64)) v7_3 μ hr_)) (fun r8 => ?_)
          refine R_s (s_lmul dX12_leftBy_34) ?_
          refine R_s (s_iload_n dX12_leftBy_35 rfl rfl) ?_
          refine R_s (s_i2l dX12_leftBy_36) ?_
          refine R_s (s_iload_n dX12_leftBy_37 rfl rfl) ?_
          refine R_s (s_iload dX12_leftBy_38 rfl) ?_
          refine R_s (s_isub dX12_leftBy_40) ?_
          refine R_br (ec := gx_eL) (fun r_ hr_ => s_callS (As := [.long _, .int _]) dX12_leftBy_41 Lk_RX12_452 rfl (Nat.le_of_ble_eq_true rfl) (Nat.le_of_ble_eq_true rfl) (ev_X12_power ((p2 : Int32).toInt64) (p0 - v7_3) μ hr_)) (fun r9 => ?_)
          refine R_s (s_lmul dX12_leftBy_44) ?_
          refine R_s (s_goto dX12_leftBy_45 rfl) ?_
          exact R_wk (hJ6 ((v5_2 * r8) * r9)) (le_s rfl (le_s rfl (le_s rfl (le_o (le_o (le_s rfl (le_o (le_s rfl le_n))))))))
theorem ev_X12_leftBy {E : gx_E} {l : Launch} (p0 : Int32) (p1 : Int32) (p2 : Int32) (μ : gx_M) {r : Int64} (hr : f_X12_leftBy p0 p1 p2 μ = some r) : gEv E l 1 Y_X12_leftBy [.int p0, .int p1, .int p2] gx_G1 μ (gx_eL r) gx_G1 μ := by
  refine R_ev (by decide) (Nat.le_of_ble_eq_true rfl) (em := gx_eL) (T := f_X12_leftBy p0 p1 p2 μ) ?_ hr
  show GoR E l Y_X12_leftBy 1 gx_eL 0 (gx_el [.int p0, .int p1, .int p2]) [] μ (f_X12_leftBy p0 p1 p2 μ)
  unfold f_X12_leftBy
  refine R_s (s_lconst dX12_leftBy_0 kcl_0) ?_
  refine R_s (s_lstore_n dX12_leftBy_1 rfl (Nat.le_of_ble_eq_true rfl)) ?_
  refine R_s (s_lconst dX12_leftBy_2 kcl_1) ?_
  refine R_s (s_lstore dX12_leftBy_3 (Nat.le_of_ble_eq_true rfl)) ?_
  refine R_s (s_iconst dX12_leftBy_5 kci_0) ?_
  refine R_s (s_istore dX12_leftBy_6 (Nat.le_of_ble_eq_true rfl)) ?_
  refine R_wk (okL_X12_leftBy_8 ?_ 4000 0 1 0) (le_s rfl (le_s rfl (le_s rfl (le_s rfl (le_o (le_s rfl (le_o (le_s rfl le_n))))))))
  intro x3_15
  refine R_s (s_lload_n dX12_leftBy_73 rfl rfl) ?_
  exact R_r (r := x3_15) (f_long dX12_leftBy_74 rfl)

def L_X12_among_4 (μ : gx_M) (p1 : Int32) (k3 : Int32 → Option Int32) : Nat → Int32 → Int32 → Option Int32
  | 0, _, _ => none
  | n + 1, v2_1, v3_2 => if (μ.1 206 48) ≤ v3_2 then k3 v2_1 else gx_ck (gx_ix v3_2 820 = true) (gx_lt (fun (j0_8 : Bool) => gx_lt (v2_1 + (gx_bi j0_8)) (fun (x9 : Int32) => L_X12_among_4 μ p1 k3 n x9 (v3_2 + 1))) (fun J6 => if (f_X12_in p1 ((μ.1 231 v3_2.toNatClampNeg) / 40) ((μ.1 231 v3_2.toNatClampNeg) - (μ.1 231 v3_2.toNatClampNeg) / 40 * 40)) = true then J6 true else J6 false))
def f_X12_among (p1 : Int32) (μ : gx_M) : Option Int32 := L_X12_among_4 μ p1 (fun (x2_11 : Int32) => some x2_11) 4000 0 0
theorem okL_X12_among_4 {E : gx_E} {l : Launch} {μ : gx_M} {p1 : Int32} {k3 : Int32 → Option Int32} (hk : ∀ (w10 : Int32), GoR E l Y_X12_among 1 gx_eI 51 [none, none, some (.int w10)] [] μ (k3 w10)) : ∀ (n : Nat) (v2_1 : Int32) (v3_2 : Int32), GoR E l Y_X12_among 1 gx_eI 4 [some (.ref (E.2.2.1 + 206)), some (.int p1), some (.int v2_1), some (.int v3_2)] [] μ (L_X12_among_4 μ p1 k3 n v2_1 v3_2) := by
  intro n
  induction n with
  | zero => intros; exact R_no
  | succ n ih =>
    intro v2_1 v3_2
    rw [L_X12_among_4.eq_2]
    refine R_s (s_iload_n dX12_among_4 rfl rfl) ?_
    refine R_s (s_aload_n dX12_among_5 rfl rfl) ?_
    refine R_s (gf_RX12_467 rfl dX12_among_6) ?_
    refine R_ite (fun h4 => ?_) (fun h4 => ?_)
    · refine R_s (s_icmp_ge_t dX12_among_9 rfl h4) ?_
      exact R_wk (hk v2_1) (le_o (le_o (le_s rfl le_n)))
    · refine R_s (s_icmp_ge_f dX12_among_9 rfl h4) ?_
      refine R_s (s_iload_n dX12_among_12 rfl rfl) ?_
      refine R_s (s_iload_n dX12_among_13 rfl rfl) ?_
      refine R_s (s_aload_n dX12_among_14 rfl rfl) ?_
      refine R_s (gf_RX12_85 rfl dX12_among_15) ?_
      refine R_s (s_iload_n dX12_among_18 rfl rfl) ?_
      refine R_ck (fun h5 => ?_)
      refine R_s (s_iald dX12_among_19 g_231 (gx_ixv h5)) ?_
      refine R_s (s_bipush dX12_among_20 kcb_40) ?_
      refine R_s (s_idiv dX12_among_22 (by decide)) ?_
      refine R_s (s_aload_n dX12_among_23 rfl rfl) ?_
      refine R_s (gf_RX12_85 rfl dX12_among_24) ?_
      refine R_s (s_iload_n dX12_among_27 rfl rfl) ?_
      refine R_s (s_iald dX12_among_28 g_231 (gx_ixv h5)) ?_
      refine R_s (s_bipush dX12_among_29 kcb_40) ?_
      refine R_s (s_irem dX12_among_31 (by decide)) ?_
      refine R_s (s_callS (As := [.int _, .int _, .int _]) dX12_among_32 Lk_RX12_112 rfl (Nat.le_of_ble_eq_true rfl) (Nat.le_of_ble_eq_true rfl) (ev_X12_in p1 ((μ.1 231 v3_2.toNatClampNeg) / 40) ((μ.1 231 v3_2.toNatClampNeg) - (μ.1 231 v3_2.toNatClampNeg) / 40 * 40) μ)) ?_
      refine R_fun (fun J => ∀ (j0_8 : Bool), GoR E l Y_X12_among 1 gx_eI 43 [some (.ref (E.2.2.1 + 206)), some (.int p1), none, some (.int v3_2)] [.int (gx_bi j0_8), .int v2_1] μ (J j0_8)) ?_ (fun J6 hJ6 => ?_)
      · intro j0_8
        refine R_s (s_iadd dX12_among_43) ?_
        refine R_letI (fun x9 => ?_)
        refine R_s (s_istore_n dX12_among_44 rfl (Nat.le_of_ble_eq_true rfl)) ?_
        refine R_s (s_iinc dX12_among_45 rfl (kinc_1 v3_2) (Nat.le_of_ble_eq_true rfl)) ?_
        refine R_s (s_goto dX12_among_48 rfl) ?_
        exact R_wk (ih x9 (v3_2 + 1)) (le_s rfl (le_s rfl (le_s rfl (le_s rfl le_n))))
      · skip
        refine R_ite (fun h7 => ?_) (fun h7 => ?_)
        · refine R_s (s_if_eq_f dX12_among_35 rfl (gx_bt h7)) ?_
          refine R_s (s_iconst dX12_among_38 kci_1) ?_
          refine R_s (s_goto dX12_among_39 rfl) ?_
          exact R_wk (hJ6 true) (le_s rfl (le_s rfl (le_o (le_s rfl le_n))))
        · refine R_s (s_if_eq_t dX12_among_35 rfl (gx_bf h7)) ?_
          refine R_s (s_iconst dX12_among_42 kci_0) ?_
          exact R_wk (hJ6 false) (le_s rfl (le_s rfl (le_o (le_s rfl le_n))))
theorem ev_X12_among {E : gx_E} {l : Launch} (p1 : Int32) (μ : gx_M) {r : Int32} (hr : f_X12_among p1 μ = some r) : gEv E l 1 Y_X12_among [.ref (E.2.2.1 + 206), .int p1] gx_G1 μ (gx_eI r) gx_G1 μ := by
  refine R_ev (by decide) (Nat.le_of_ble_eq_true rfl) (em := gx_eI) (T := f_X12_among p1 μ) ?_ hr
  show GoR E l Y_X12_among 1 gx_eI 0 (gx_el [.ref (E.2.2.1 + 206), .int p1]) [] μ (f_X12_among p1 μ)
  unfold f_X12_among
  refine R_s (s_iconst dX12_among_0 kci_0) ?_
  refine R_s (s_istore_n dX12_among_1 rfl (Nat.le_of_ble_eq_true rfl)) ?_
  refine R_s (s_iconst dX12_among_2 kci_0) ?_
  refine R_s (s_istore_n dX12_among_3 rfl (Nat.le_of_ble_eq_true rfl)) ?_
  refine R_wk (okL_X12_among_4 ?_ 4000 0 0) (le_s rfl (le_s rfl (le_s rfl (le_s rfl le_n))))
  intro x2_11
  refine R_s (s_iload_n dX12_among_51 rfl rfl) ?_
  exact R_r (r := x2_11) (f_int (ty := .int) dX12_among_52 rfl rfl)

def L_X12_pointOf_4 (μ : gx_M) (p1 : Int32) (k3 : Int32 → Option Int32) : Nat → Int32 → Int32 → Option Int32
  | 0, _, _ => none
  | n + 1, v2_1, v3_2 => if (μ.1 206 50) ≤ v3_2 then k3 v2_1 else gx_ck (gx_ix v3_2 6 = true) (gx_lt (fun (j0_13 : Int32) => L_X12_pointOf_4 μ p1 k3 n j0_13 (v3_2 + 1)) (fun J6 => if (μ.1 233 v3_2.toNatClampNeg) = (-1) then gx_lt (J6 v3_2) (fun J8 => if v2_1 = (-1) then J8 else gx_br (f_X12_worthTo p1 v3_2 μ) (fun (r10 : Int32) => gx_br (f_X12_worthTo p1 v2_1 μ) (fun (r11 : Int32) => if r10 ≤ r11 then J6 v2_1 else J8))) else J6 v2_1))
def f_X12_pointOf (p1 : Int32) (μ : gx_M) : Option Int32 := L_X12_pointOf_4 μ p1 (fun (x2_15 : Int32) => some x2_15) 4000 (-1) 0
theorem okL_X12_pointOf_4 {E : gx_E} {l : Launch} {μ : gx_M} {p1 : Int32} {k3 : Int32 → Option Int32} (hk : ∀ (w14 : Int32), GoR E l Y_X12_pointOf 1 gx_eI 50 [none, none, some (.int w14)] [] μ (k3 w14)) : ∀ (n : Nat) (v2_1 : Int32) (v3_2 : Int32), GoR E l Y_X12_pointOf 1 gx_eI 4 [some (.ref (E.2.2.1 + 206)), some (.int p1), some (.int v2_1), some (.int v3_2)] [] μ (L_X12_pointOf_4 μ p1 k3 n v2_1 v3_2) := by
  intro n
  induction n with
  | zero => intros; exact R_no
  | succ n ih =>
    intro v2_1 v3_2
    rw [L_X12_pointOf_4.eq_2]
    refine R_s (s_iload_n dX12_pointOf_4 rfl rfl) ?_
    refine R_s (s_aload_n dX12_pointOf_5 rfl rfl) ?_
    refine R_s (gf_RX12_492 rfl dX12_pointOf_6) ?_
    refine R_ite (fun h4 => ?_) (fun h4 => ?_)
    · refine R_s (s_icmp_ge_t dX12_pointOf_9 rfl h4) ?_
      exact R_wk (hk v2_1) (le_o (le_o (le_s rfl le_n)))
    · refine R_s (s_icmp_ge_f dX12_pointOf_9 rfl h4) ?_
      refine R_s (s_aload_n dX12_pointOf_12 rfl rfl) ?_
      refine R_s (gf_RX12_91 rfl dX12_pointOf_13) ?_
      refine R_s (s_iload_n dX12_pointOf_16 rfl rfl) ?_
      refine R_ck (fun h5 => ?_)
      refine R_s (s_iald dX12_pointOf_17 g_233 (gx_ixv h5)) ?_
      refine R_s (s_iconst dX12_pointOf_18 kci_m1) ?_
      refine R_fun (fun J => ∀ (j0_13 : Int32), GoR E l Y_X12_pointOf 1 gx_eI 44 [some (.ref (E.2.2.1 + 206)), some (.int p1), some (.int j0_13), some (.int v3_2)] [] μ (J j0_13)) ?_ (fun J6 hJ6 => ?_)
      · intro j0_13
        refine R_s (s_iinc dX12_pointOf_44 rfl (kinc_1 v3_2) (Nat.le_of_ble_eq_true rfl)) ?_
        refine R_s (s_goto dX12_pointOf_47 rfl) ?_
        exact R_wk (ih j0_13 (v3_2 + 1)) (le_s rfl (le_s rfl (le_s rfl (le_s rfl le_n))))
      · skip
        refine R_ite (fun h7 => ?_) (fun h7 => ?_)
        · refine R_s (s_icmp_ne_f dX12_pointOf_19 rfl h7) ?_
          refine R_s (s_iload_n dX12_pointOf_22 rfl rfl) ?_
          refine R_s (s_iconst dX12_pointOf_23 kci_m1) ?_
          refine R_fun (fun J => GoR E l Y_X12_pointOf 1 gx_eI 42 [some (.ref (E.2.2.1 + 206)), some (.int p1), none, some (.int v3_2)] [] μ (J)) ?_ (fun J8 hJ8 => ?_)
          · skip
            refine R_s (s_iload_n dX12_pointOf_42 rfl rfl) ?_
            refine R_s (s_istore_n dX12_pointOf_43 rfl (Nat.le_of_ble_eq_true rfl)) ?_
            exact R_wk (hJ6 v3_2) (le_s rfl (le_s rfl (le_s rfl (le_s rfl le_n))))
          · skip
            refine R_ite (fun h9 => ?_) (fun h9 => ?_)
            · refine R_s (s_icmp_eq_t dX12_pointOf_24 rfl h9) ?_
              exact R_wk (hJ8) (le_s rfl (le_s rfl (le_o (le_s rfl le_n))))
            · refine R_s (s_icmp_eq_f dX12_pointOf_24 rfl h9) ?_
              refine R_s (s_aload_n dX12_pointOf_27 rfl rfl) ?_
              refine R_s (s_iload_n dX12_pointOf_28 rfl rfl) ?_
              refine R_s (s_iload_n dX12_pointOf_29 rfl rfl) ?_
              refine R_br (ec := gx_eI) (fun r_ hr_ => s_callV (As := [.int _, .int _]) dX12_pointOf_30 Lk_RX12_501 rfl g_206 (by decide) rfl (Nat.le_of_ble_eq_true rfl) (Nat.le_of_ble_eq_true rfl) (ev_X12_worthTo p1 v3_2 μ hr_)) (fun r10 => ?_)
              refine R_s (s_aload_n dX12_pointOf_33 rfl rfl) ?_
              refine R_s (s_iload_n dX12_pointOf_34 rfl rfl) ?_
              refine R_s (s_iload_n dX12_pointOf_35 rfl rfl) ?_
              refine R_br (ec := gx_eI) (fun r_ hr_ => s_callV (As := [.int _, .int _]) dX12_pointOf_36 Lk_RX12_501 rfl g_206 (by decide) rfl (Nat.le_of_ble_eq_true rfl) (Nat.le_of_ble_eq_true rfl) (ev_X12_worthTo p1 v2_1 μ hr_)) (fun r11 => ?_)
              refine R_ite (fun h12 => ?_) (fun h12 => ?_)
              · refine R_s (s_icmp_le_t dX12_pointOf_39 rfl h12) ?_
                exact R_wk (hJ6 v2_1) (le_s rfl (le_s rfl (le_s rfl (le_s rfl le_n))))
              · refine R_s (s_icmp_le_f dX12_pointOf_39 rfl h12) ?_
                exact R_wk (hJ8) (le_s rfl (le_s rfl (le_o (le_s rfl le_n))))
        · refine R_s (s_icmp_ne_t dX12_pointOf_19 rfl h7) ?_
          exact R_wk (hJ6 v2_1) (le_s rfl (le_s rfl (le_s rfl (le_s rfl le_n))))
theorem ev_X12_pointOf {E : gx_E} {l : Launch} (p1 : Int32) (μ : gx_M) {r : Int32} (hr : f_X12_pointOf p1 μ = some r) : gEv E l 1 Y_X12_pointOf [.ref (E.2.2.1 + 206), .int p1] gx_G1 μ (gx_eI r) gx_G1 μ := by
  refine R_ev (by decide) (Nat.le_of_ble_eq_true rfl) (em := gx_eI) (T := f_X12_pointOf p1 μ) ?_ hr
  show GoR E l Y_X12_pointOf 1 gx_eI 0 (gx_el [.ref (E.2.2.1 + 206), .int p1]) [] μ (f_X12_pointOf p1 μ)
  unfold f_X12_pointOf
  refine R_s (s_iconst dX12_pointOf_0 kci_m1) ?_
  refine R_s (s_istore_n dX12_pointOf_1 rfl (Nat.le_of_ble_eq_true rfl)) ?_
  refine R_s (s_iconst dX12_pointOf_2 kci_0) ?_
  refine R_s (s_istore_n dX12_pointOf_3 rfl (Nat.le_of_ble_eq_true rfl)) ?_
  refine R_wk (okL_X12_pointOf_4 ?_ 4000 (-1) 0) (le_s rfl (le_s rfl (le_s rfl (le_s rfl le_n))))
  intro x2_15
  refine R_s (s_iload_n dX12_pointOf_50 rfl rfl) ?_
  exact R_r (r := x2_15) (f_int (ty := .int) dX12_pointOf_51 rfl rfl)

def L_X12_gain_4 (μ : gx_M) (k3 : Int32 → Option Int32) : Nat → Int32 → Int32 → Option Int32
  | 0, _, _ => none
  | n + 1, v1_1, v2_2 => if (μ.1 206 50) ≤ v2_2 then k3 v1_1 else gx_ck (gx_ix v2_2 6 = true) (gx_br (f_X12_worthTo v2_2 (μ.1 232 v2_2.toNatClampNeg) μ) (fun (r6 : Int32) => gx_br (f_X12_worthTo v2_2 v2_2 μ) (fun (r7 : Int32) => gx_lt (v1_1 + (r6 - r7)) (fun (x8 : Int32) => L_X12_gain_4 μ k3 n x8 (v2_2 + 1)))))
def f_X12_gain (μ : gx_M) : Option Int32 := L_X12_gain_4 μ (fun (x1_10 : Int32) => some x1_10) 4000 0 0
theorem okL_X12_gain_4 {E : gx_E} {l : Launch} {μ : gx_M} {k3 : Int32 → Option Int32} (hk : ∀ (w9 : Int32), GoR E l Y_X12_gain 1 gx_eI 39 [none, some (.int w9)] [] μ (k3 w9)) : ∀ (n : Nat) (v1_1 : Int32) (v2_2 : Int32), GoR E l Y_X12_gain 1 gx_eI 4 [some (.ref (E.2.2.1 + 206)), some (.int v1_1), some (.int v2_2)] [] μ (L_X12_gain_4 μ k3 n v1_1 v2_2) := by
  intro n
  induction n with
  | zero => intros; exact R_no
  | succ n ih =>
    intro v1_1 v2_2
    rw [L_X12_gain_4.eq_2]
    refine R_s (s_iload_n dX12_gain_4 rfl rfl) ?_
    refine R_s (s_aload_n dX12_gain_5 rfl rfl) ?_
    refine R_s (gf_RX12_492 rfl dX12_gain_6) ?_
    refine R_ite (fun h4 => ?_) (fun h4 => ?_)
    · refine R_s (s_icmp_ge_t dX12_gain_9 rfl h4) ?_
      exact R_wk (hk v1_1) (le_o (le_s rfl le_n))
    · refine R_s (s_icmp_ge_f dX12_gain_9 rfl h4) ?_
      refine R_s (s_iload_n dX12_gain_12 rfl rfl) ?_
      refine R_s (s_aload_n dX12_gain_13 rfl rfl) ?_
      refine R_s (s_iload_n dX12_gain_14 rfl rfl) ?_
      refine R_s (s_aload_n dX12_gain_15 rfl rfl) ?_
      refine R_s (gf_RX12_88 rfl dX12_gain_16) ?_
      refine R_s (s_iload_n dX12_gain_19 rfl rfl) ?_
      refine R_ck (fun h5 => ?_)
      refine R_s (s_iald dX12_gain_20 g_232 (gx_ixv h5)) ?_
      refine R_br (ec := gx_eI) (fun r_ hr_ => s_callV (As := [.int _, .int _]) dX12_gain_21 Lk_RX12_501 rfl g_206 (by decide) rfl (Nat.le_of_ble_eq_true rfl) (Nat.le_of_ble_eq_true rfl) (ev_X12_worthTo v2_2 (μ.1 232 v2_2.toNatClampNeg) μ hr_)) (fun r6 => ?_)
      refine R_s (s_aload_n dX12_gain_24 rfl rfl) ?_
      refine R_s (s_iload_n dX12_gain_25 rfl rfl) ?_
      refine R_s (s_iload_n dX12_gain_26 rfl rfl) ?_
      refine R_br (ec := gx_eI) (fun r_ hr_ => s_callV (As := [.int _, .int _]) dX12_gain_27 Lk_RX12_501 rfl g_206 (by decide) rfl (Nat.le_of_ble_eq_true rfl) (Nat.le_of_ble_eq_true rfl) (ev_X12_worthTo v2_2 v2_2 μ hr_)) (fun r7 => ?_)
      refine R_s (s_isub dX12_gain_30) ?_
      refine R_s (s_iadd dX12_gain_31) ?_
      refine R_letI (fun x8 => ?_)
      refine R_s (s_istore_n dX12_gain_32 rfl (Nat.le_of_ble_eq_true rfl)) ?_
      refine R_s (s_iinc dX12_gain_33 rfl (kinc_1 v2_2) (Nat.le_of_ble_eq_true rfl)) ?_
      refine R_s (s_goto dX12_gain_36 rfl) ?_
      exact R_wk (ih x8 (v2_2 + 1)) (le_s rfl (le_s rfl (le_s rfl le_n)))
theorem ev_X12_gain {E : gx_E} {l : Launch} (μ : gx_M) {r : Int32} (hr : f_X12_gain μ = some r) : gEv E l 1 Y_X12_gain [.ref (E.2.2.1 + 206)] gx_G1 μ (gx_eI r) gx_G1 μ := by
  refine R_ev (by decide) (Nat.le_of_ble_eq_true rfl) (em := gx_eI) (T := f_X12_gain μ) ?_ hr
  show GoR E l Y_X12_gain 1 gx_eI 0 (gx_el [.ref (E.2.2.1 + 206)]) [] μ (f_X12_gain μ)
  unfold f_X12_gain
  refine R_s (s_iconst dX12_gain_0 kci_0) ?_
  refine R_s (s_istore_n dX12_gain_1 rfl (Nat.le_of_ble_eq_true rfl)) ?_
  refine R_s (s_iconst dX12_gain_2 kci_0) ?_
  refine R_s (s_istore_n dX12_gain_3 rfl (Nat.le_of_ble_eq_true rfl)) ?_
  refine R_wk (okL_X12_gain_4 ?_ 4000 0 0) (le_s rfl (le_s rfl (le_s rfl le_n)))
  intro x1_10
  refine R_s (s_iload_n dX12_gain_39 rfl rfl) ?_
  exact R_r (r := x1_10) (f_int (ty := .int) dX12_gain_40 rfl rfl)

def L_X12_happyOnes_17 (μ : gx_M) (v2_2 : Int32) (k7 : Bool → Option Int32) : Nat → Bool → Int32 → Option Int32
  | 0, _, _ => none
  | n + 1, v3_5, v4_6 => if (μ.1 206 50) ≤ v4_6 then k7 v3_5 else gx_lt (fun (j0_16 : Bool) => L_X12_happyOnes_17 μ v2_2 k7 n j0_16 (v4_6 + 1)) (fun J9 => gx_lt (J9 false) (fun J10 => if v3_5 = true then gx_br (f_X12_worthTo v2_2 v4_6 μ) (fun (r12 : Int32) => gx_ck (gx_ix v2_2 6 = true) (gx_br (f_X12_worthTo v2_2 (μ.1 232 v2_2.toNatClampNeg) μ) (fun (r14 : Int32) => if r14 < r12 then J10 else J9 true))) else J10))
def L_X12_happyOnes_4 (μ : gx_M) (k3 : Int32 → Option Int32) : Nat → Int32 → Int32 → Option Int32
  | 0, _, _ => none
  | n + 1, v1_1, v2_2 => if (μ.1 206 50) ≤ v2_2 then k3 v1_1 else L_X12_happyOnes_17 μ v2_2 (fun (x3_18 : Bool) => gx_lt (fun (j0_21 : Int32) => gx_lt (v1_1 ||| j0_21) (fun (x22 : Int32) => L_X12_happyOnes_4 μ k3 n x22 (v2_2 + 1))) (fun J19 => if x3_18 = true then J19 ((1 : Int32) <<< (v2_2 &&& 31)) else J19 0)) 4000 true 0
def f_X12_happyOnes (μ : gx_M) : Option Int32 := L_X12_happyOnes_4 μ (fun (x1_24 : Int32) => some x1_24) 4000 0 0
theorem okL_X12_happyOnes_17 {E : gx_E} {l : Launch} {μ : gx_M} {v2_2 : Int32} {v1_1 : Int32} {k7 : Bool → Option Int32} (hk : ∀ (w17 : Bool), GoR E l Y_X12_happyOnes 1 gx_eI 63 [some (.ref (E.2.2.1 + 206)), some (.int v1_1), some (.int v2_2), some (.int (gx_bi w17))] [] μ (k7 w17)) : ∀ (n : Nat) (v3_5 : Bool) (v4_6 : Int32), GoR E l Y_X12_happyOnes 1 gx_eI 17 [some (.ref (E.2.2.1 + 206)), some (.int v1_1), some (.int v2_2), some (.int (gx_bi v3_5)), some (.int v4_6)] [] μ (L_X12_happyOnes_17 μ v2_2 k7 n v3_5 v4_6) := by
  intro n
  induction n with
  | zero => intros; exact R_no
  | succ n ih =>
    intro v3_5 v4_6
    rw [L_X12_happyOnes_17.eq_2]
    refine R_s (s_iload dX12_happyOnes_17 rfl) ?_
    refine R_s (s_aload_n dX12_happyOnes_19 rfl rfl) ?_
    refine R_s (gf_RX12_492 rfl dX12_happyOnes_20) ?_
    refine R_ite (fun h8 => ?_) (fun h8 => ?_)
    · refine R_s (s_icmp_ge_t dX12_happyOnes_23 rfl h8) ?_
      exact R_wk (hk v3_5) (le_s rfl (le_s rfl (le_s rfl (le_s rfl le_n))))
    · refine R_s (s_icmp_ge_f dX12_happyOnes_23 rfl h8) ?_
      refine R_s (s_iload_n dX12_happyOnes_26 rfl rfl) ?_
      refine R_fun (fun J => ∀ (j0_16 : Bool), GoR E l Y_X12_happyOnes 1 gx_eI 56 [some (.ref (E.2.2.1 + 206)), some (.int v1_1), some (.int v2_2), none, some (.int v4_6)] [.int (gx_bi j0_16)] μ (J j0_16)) ?_ (fun J9 hJ9 => ?_)
      · intro j0_16
        refine R_s (s_istore_n dX12_happyOnes_56 rfl (Nat.le_of_ble_eq_true rfl)) ?_
        refine R_s (s_iinc dX12_happyOnes_57 rfl (kinc_1 v4_6) (Nat.le_of_ble_eq_true rfl)) ?_
        refine R_s (s_goto dX12_happyOnes_60 rfl) ?_
        exact R_wk (ih j0_16 (v4_6 + 1)) (le_s rfl (le_s rfl (le_s rfl (le_s rfl (le_s rfl le_n)))))
      · skip
        refine R_fun (fun J => GoR E l Y_X12_happyOnes 1 gx_eI 55 [some (.ref (E.2.2.1 + 206)), some (.int v1_1), some (.int v2_2), none, some (.int v4_6)] [] μ (J)) ?_ (fun J10 hJ10 => ?_)
        · skip
          refine R_s (s_iconst dX12_happyOnes_55 kci_0) ?_
          exact R_wk (hJ9 false) (le_s rfl (le_s rfl (le_s rfl (le_o (le_s rfl le_n)))))
        · skip
          refine R_ite (fun h11 => ?_) (fun h11 => ?_)
          · refine R_s (s_if_eq_f dX12_happyOnes_27 rfl (gx_bt h11)) ?_
            refine R_s (s_aload_n dX12_happyOnes_30 rfl rfl) ?_
            refine R_s (s_iload_n dX12_happyOnes_31 rfl rfl) ?_
            refine R_s (s_iload dX12_happyOnes_32 rfl) ?_
            refine R_br (ec := gx_eI) (fun r_ hr_ => s_callV (As := [.int _, .int _]) dX12_happyOnes_34 Lk_RX12_501 rfl g_206 (by decide) rfl (Nat.le_of_ble_eq_true rfl) (Nat.le_of_ble_eq_true rfl) (ev_X12_worthTo v2_2 v4_6 μ hr_)) (fun r12 => ?_)
            refine R_s (s_aload_n dX12_happyOnes_37 rfl rfl) ?_
            refine R_s (s_iload_n dX12_happyOnes_38 rfl rfl) ?_
            refine R_s (s_aload_n dX12_happyOnes_39 rfl rfl) ?_
            refine R_s (gf_RX12_88 rfl dX12_happyOnes_40) ?_
            refine R_s (s_iload_n dX12_happyOnes_43 rfl rfl) ?_
            refine R_ck (fun h13 => ?_)
            refine R_s (s_iald dX12_happyOnes_44 g_232 (gx_ixv h13)) ?_
            refine R_br (ec := gx_eI) (fun r_ hr_ => s_callV (As := [.int _, .int _]) dX12_happyOnes_45 Lk_RX12_501 rfl g_206 (by decide) rfl (Nat.le_of_ble_eq_true rfl) (Nat.le_of_ble_eq_true rfl) (ev_X12_worthTo v2_2 (μ.1 232 v2_2.toNatClampNeg) μ hr_)) (fun r14 => ?_)
            refine R_ite (fun h15 => ?_) (fun h15 => ?_)
            · refine R_s (s_icmp_gt_t dX12_happyOnes_48 rfl h15) ?_
              exact R_wk (hJ10) (le_s rfl (le_s rfl (le_s rfl (le_o (le_s rfl le_n)))))
            · refine R_s (s_icmp_gt_f dX12_happyOnes_48 rfl h15) ?_
              refine R_s (s_iconst dX12_happyOnes_51 kci_1) ?_
              refine R_s (s_goto dX12_happyOnes_52 rfl) ?_
              exact R_wk (hJ9 true) (le_s rfl (le_s rfl (le_s rfl (le_o (le_s rfl le_n)))))
          · refine R_s (s_if_eq_t dX12_happyOnes_27 rfl (gx_bf h11)) ?_
            exact R_wk (hJ10) (le_s rfl (le_s rfl (le_s rfl (le_o (le_s rfl le_n)))))
theorem okL_X12_happyOnes_4 {E : gx_E} {l : Launch} {μ : gx_M} {k3 : Int32 → Option Int32} (hk : ∀ (w23 : Int32), GoR E l Y_X12_happyOnes 1 gx_eI 83 [none, some (.int w23)] [] μ (k3 w23)) : ∀ (n : Nat) (v1_1 : Int32) (v2_2 : Int32), GoR E l Y_X12_happyOnes 1 gx_eI 4 [some (.ref (E.2.2.1 + 206)), some (.int v1_1), some (.int v2_2)] [] μ (L_X12_happyOnes_4 μ k3 n v1_1 v2_2) := by
  intro n
  induction n with
  | zero => intros; exact R_no
  | succ n ih =>
    intro v1_1 v2_2
    rw [L_X12_happyOnes_4.eq_2]
    refine R_s (s_iload_n dX12_happyOnes_4 rfl rfl) ?_
    refine R_s (s_aload_n dX12_happyOnes_5 rfl rfl) ?_
    refine R_s (gf_RX12_492 rfl dX12_happyOnes_6) ?_
    refine R_ite (fun h4 => ?_) (fun h4 => ?_)
    · refine R_s (s_icmp_ge_t dX12_happyOnes_9 rfl h4) ?_
      exact R_wk (hk v1_1) (le_o (le_s rfl le_n))
    · refine R_s (s_icmp_ge_f dX12_happyOnes_9 rfl h4) ?_
      refine R_s (s_iconst dX12_happyOnes_12 kci_1) ?_
      refine R_s (s_istore_n dX12_happyOnes_13 rfl (Nat.le_of_ble_eq_true rfl)) ?_
      refine R_s (s_iconst dX12_happyOnes_14 kci_0) ?_
      refine R_s (s_istore dX12_happyOnes_15 (Nat.le_of_ble_eq_true rfl)) ?_
      refine R_wk (okL_X12_happyOnes_17 ?_ 4000 true 0) (le_s rfl (le_s rfl (le_s rfl (le_s rfl (le_s rfl le_n)))))
      intro x3_18
      refine R_s (s_iload_n dX12_happyOnes_63 rfl rfl) ?_
      refine R_s (s_iload_n dX12_happyOnes_64 rfl rfl) ?_
      refine R_fun (fun J => ∀ (j0_21 : Int32), GoR E l Y_X12_happyOnes 1 gx_eI 75 [some (.ref (E.2.2.1 + 206)), none, some (.int v2_2)] [.int j0_21, .int v1_1] μ (J j0_21)) ?_ (fun J19 hJ19 => ?_)
      · intro j0_21
        refine R_s (s_ior dX12_happyOnes_75) ?_
        refine R_letI (fun x22 => ?_)
        refine R_s (s_istore_n dX12_happyOnes_76 rfl (Nat.le_of_ble_eq_true rfl)) ?_
        refine R_s (s_iinc dX12_happyOnes_77 rfl (kinc_1 v2_2) (Nat.le_of_ble_eq_true rfl)) ?_
        refine R_s (s_goto dX12_happyOnes_80 rfl) ?_
        exact R_wk (ih x22 (v2_2 + 1)) (le_s rfl (le_s rfl (le_s rfl le_n)))
      · skip
        refine R_ite (fun h20 => ?_) (fun h20 => ?_)
        · refine R_s (s_if_eq_f dX12_happyOnes_65 rfl (gx_bt h20)) ?_
          refine R_s (s_iconst dX12_happyOnes_68 kci_1) ?_
          refine R_s (s_iload_n dX12_happyOnes_69 rfl rfl) ?_
          refine R_s (s_ishl dX12_happyOnes_70) ?_
          refine R_s (s_goto dX12_happyOnes_71 rfl) ?_
          exact R_wk (hJ19 ((1 : Int32) <<< (v2_2 &&& 31))) (le_s rfl (le_o (le_s rfl le_n)))
        · refine R_s (s_if_eq_t dX12_happyOnes_65 rfl (gx_bf h20)) ?_
          refine R_s (s_iconst dX12_happyOnes_74 kci_0) ?_
          exact R_wk (hJ19 0) (le_s rfl (le_o (le_s rfl le_n)))
theorem ev_X12_happyOnes {E : gx_E} {l : Launch} (μ : gx_M) {r : Int32} (hr : f_X12_happyOnes μ = some r) : gEv E l 1 Y_X12_happyOnes [.ref (E.2.2.1 + 206)] gx_G1 μ (gx_eI r) gx_G1 μ := by
  refine R_ev (by decide) (Nat.le_of_ble_eq_true rfl) (em := gx_eI) (T := f_X12_happyOnes μ) ?_ hr
  show GoR E l Y_X12_happyOnes 1 gx_eI 0 (gx_el [.ref (E.2.2.1 + 206)]) [] μ (f_X12_happyOnes μ)
  unfold f_X12_happyOnes
  refine R_s (s_iconst dX12_happyOnes_0 kci_0) ?_
  refine R_s (s_istore_n dX12_happyOnes_1 rfl (Nat.le_of_ble_eq_true rfl)) ?_
  refine R_s (s_iconst dX12_happyOnes_2 kci_0) ?_
  refine R_s (s_istore_n dX12_happyOnes_3 rfl (Nat.le_of_ble_eq_true rfl)) ?_
  refine R_wk (okL_X12_happyOnes_4 ?_ 4000 0 0) (le_s rfl (le_s rfl (le_s rfl le_n)))
  intro x1_24
  refine R_s (s_iload_n dX12_happyOnes_83 rfl rfl) ?_
  exact R_r (r := x1_24) (f_int (ty := .int) dX12_happyOnes_84 rfl rfl)

def f_X12_count (p1 : Int32) (μ : gx_M) : Option (Int32 × gx_M) := gx_lt (gx_uI μ 206 0 0) (fun (μ1 : gx_M) => if (f_X12_in p1 0 3) = true then gx_ck (gx_ix p1 16 = true) (some ((μ1.1 211 p1.toNatClampNeg), μ1)) else some ((-2), μ1))
theorem ev_X12_count {E : gx_E} {l : Launch} (p1 : Int32) (μ : gx_M) {r : Int32} {μ' : gx_M} (hr : f_X12_count p1 μ = some (r, μ')) : gEv E l 1 Y_X12_count [.ref (E.2.2.1 + 206), .int p1] gx_G1 μ (gx_eI r) gx_G1 μ' := by
  refine W_ev (by decide) (Nat.le_of_ble_eq_true rfl) (em := gx_eI) (T := f_X12_count p1 μ) ?_ hr
  show GoW E l Y_X12_count 1 gx_eI 0 (gx_el [.ref (E.2.2.1 + 206), .int p1]) [] μ (f_X12_count p1 μ)
  unfold f_X12_count
  refine W_s (s_aload_n dX12_count_0 rfl rfl) ?_
  refine W_s (s_iconst dX12_count_1 kci_0) ?_
  refine W_s (pf_RX12_100 rfl dX12_count_2) ?_
  refine W_letM (fun μ1 => ?_)
  refine W_s (s_iload_n dX12_count_5 rfl rfl) ?_
  refine W_s (s_iconst dX12_count_6 kci_0) ?_
  refine W_s (s_iconst dX12_count_7 kci_3) ?_
  refine W_s (s_callS (As := [.int _, .int _, .int _]) dX12_count_8 Lk_RX12_112 rfl (Nat.le_of_ble_eq_true rfl) (Nat.le_of_ble_eq_true rfl) (ev_X12_in p1 0 3 μ1)) ?_
  refine W_ite (fun h2 => ?_) (fun h2 => ?_)
  · refine W_s (s_if_eq_f dX12_count_11 rfl (gx_bt h2)) ?_
    refine W_s (s_aload_n dX12_count_14 rfl rfl) ?_
    refine W_s (gf_RX12_23 rfl dX12_count_15) ?_
    refine W_s (s_iload_n dX12_count_18 rfl rfl) ?_
    refine W_ck (fun h3 => ?_)
    refine W_s (s_iald dX12_count_19 g_211 (gx_ixv h3)) ?_
    refine W_s (s_goto dX12_count_20 rfl) ?_
    exact W_r (r := (μ1.1 211 p1.toNatClampNeg)) (f_int (ty := .int) dX12_count_25 rfl rfl)
  · refine W_s (s_if_eq_t dX12_count_11 rfl (gx_bf h2)) ?_
    refine W_s (s_bipush dX12_count_23 kcb_m2) ?_
    exact W_r (r := (-2)) (f_int (ty := .int) dX12_count_25 rfl rfl)

def f_X12_take (p1 : Int32) (p2 : Int32) (p3 : Int32) (μ : gx_M) : Option (Bool × gx_M) := if (μ.1 206 13) = 3 then gx_ck (gx_ix p1 5 = true) (gx_lt (gx_uI μ 217 p1.toNatClampNeg (μ.1 206 14)) (fun (μ3 : gx_M) => gx_lt (fun (μ9 : gx_M) => gx_bd (f_X12_token μ9) (fun (r10 : Unit) (μ11 : gx_M) => some (true, μ11))) (fun J4 => if (f_X12_in (μ3.1 206 14) p2 p3) = true then J4 μ3 else gx_bd (f_X12_later 2 (μ3.1 206 12) μ3) (fun (r6 : Unit) (μ7 : gx_M) => gx_lt (gx_uI μ7 206 23 (gx_bi false)) (fun (μ8 : gx_M) => J4 μ8))))) else gx_bd (f_X12_fails μ) (fun (r12 : Bool) (μ13 : gx_M) => some (r12, μ13))
theorem ev_X12_take {E : gx_E} {l : Launch} (p1 : Int32) (p2 : Int32) (p3 : Int32) (μ : gx_M) {r : Bool} {μ' : gx_M} (hr : f_X12_take p1 p2 p3 μ = some (r, μ')) : gEv E l 2 Y_X12_take [.ref (E.2.2.1 + 206), .int p1, .int p2, .int p3] gx_G1 μ (gx_eB r) gx_G1 μ' := by
  refine W_ev (by decide) (Nat.le_of_ble_eq_true rfl) (em := gx_eB) (T := f_X12_take p1 p2 p3 μ) ?_ hr
  show GoW E l Y_X12_take 2 gx_eB 0 (gx_el [.ref (E.2.2.1 + 206), .int p1, .int p2, .int p3]) [] μ (f_X12_take p1 p2 p3 μ)
  unfold f_X12_take
  refine W_s (s_aload_n dX12_take_0 rfl rfl) ?_
  refine W_s (gf_RX12_137 rfl dX12_take_1) ?_
  refine W_s (s_iconst dX12_take_4 kci_3) ?_
  refine W_ite (fun h1 => ?_) (fun h1 => ?_)
  · refine W_s (s_icmp_eq_t dX12_take_5 rfl h1) ?_
    refine W_s (s_aload_n dX12_take_13 rfl rfl) ?_
    refine W_s (gf_RX12_41 rfl dX12_take_14) ?_
    refine W_s (s_iload_n dX12_take_17 rfl rfl) ?_
    refine W_s (s_aload_n dX12_take_18 rfl rfl) ?_
    refine W_s (gf_RX12_140 rfl dX12_take_19) ?_
    refine W_ck (fun h2 => ?_)
    refine W_s (s_iast dX12_take_22 g_217 (gx_ixv h2)) ?_
    refine W_letM (fun μ3 => ?_)
    refine W_s (s_aload_n dX12_take_23 rfl rfl) ?_
    refine W_s (gf_RX12_140 rfl dX12_take_24) ?_
    refine W_s (s_iload_n dX12_take_27 rfl rfl) ?_
    refine W_s (s_iload_n dX12_take_28 rfl rfl) ?_
    refine W_s (s_callS (As := [.int _, .int _, .int _]) dX12_take_29 Lk_RX12_112 rfl (Nat.le_of_ble_eq_true rfl) (Nat.le_of_ble_eq_true rfl) (ev_X12_in (μ3.1 206 14) p2 p3 μ3)) ?_
    refine W_fun (fun J => ∀ (μ9 : gx_M), GoW E l Y_X12_take 2 gx_eB 49 [some (.ref (E.2.2.1 + 206))] [] μ9 (J μ9)) ?_ (fun J4 hJ4 => ?_)
    · intro μ9
      refine W_s (s_aload_n dX12_take_49 rfl rfl) ?_
      refine W_bd (ec := gx_eV) (fun r_ μ_ hr_ => s_callV (As := []) dX12_take_50 Lk_RX12_164 rfl g_206 (by decide) rfl (Nat.le_of_ble_eq_true rfl) (Nat.le_of_ble_eq_true rfl) (ev_X12_token μ9 hr_)) (fun r10 μ11 => ?_)
      refine W_s (s_iconst dX12_take_53 kci_1) ?_
      exact W_r (r := true) (f_int (ty := .boolean) (x := gx_bi true) dX12_take_54 rfl (gx_bn true))
    · skip
      refine W_ite (fun h5 => ?_) (fun h5 => ?_)
      · refine W_s (s_if_ne_t dX12_take_32 rfl (gx_bt h5)) ?_
        exact W_wk (hJ4 μ3) (le_s rfl le_n)
      · refine W_s (s_if_ne_f dX12_take_32 rfl (gx_bf h5)) ?_
        refine W_s (s_aload_n dX12_take_35 rfl rfl) ?_
        refine W_s (s_iconst dX12_take_36 kci_2) ?_
        refine W_s (s_aload_n dX12_take_37 rfl rfl) ?_
        refine W_s (gf_RX12_130 rfl dX12_take_38) ?_
        refine W_bd (ec := gx_eV) (fun r_ μ_ hr_ => s_callV (As := [.int _, .int _]) dX12_take_41 Lk_RX12_156 rfl g_206 (by decide) rfl (Nat.le_of_ble_eq_true rfl) (Nat.le_of_ble_eq_true rfl) (ev_X12_later 2 (μ3.1 206 12) μ3 hr_)) (fun r6 μ7 => ?_)
        refine W_s (s_aload_n dX12_take_44 rfl rfl) ?_
        refine W_s (s_iconst dX12_take_45 kci_0) ?_
        refine W_s (pf_RX12_160 (b := false) rfl dX12_take_46) ?_
        refine W_letM (fun μ8 => ?_)
        exact W_wk (hJ4 μ8) (le_s rfl le_n)
  · refine W_s (s_icmp_eq_f dX12_take_5 rfl h1) ?_
    refine W_s (s_aload_n dX12_take_8 rfl rfl) ?_
    refine W_bd (ec := gx_eB) (fun r_ μ_ hr_ => s_callV (As := []) dX12_take_9 Lk_RX12_152 rfl g_206 (by decide) rfl (Nat.le_of_ble_eq_true rfl) (Nat.le_of_ble_eq_true rfl) (ev_X12_fails μ hr_)) (fun r12 μ13 => ?_)
    exact W_r (r := r12) (f_int (ty := .boolean) (x := gx_bi r12) dX12_take_12 rfl (gx_bn r12))

def L_X12_hand_45 (k12 : gx_M → Option (Bool × gx_M)) : Nat → Int32 → gx_M → Option (Bool × gx_M)
  | 0, _, _ => none
  | n + 1, v2_10, μ11 => if 4 ≤ v2_10 then k12 μ11 else gx_br (f_X12_of ((3 : Int32) + v2_10) μ11) (fun (r14 : Int32) => gx_ck (gx_ix v2_10 4 = true) (gx_lt (gx_uI μ11 218 v2_10.toNatClampNeg r14) (fun (μ16 : gx_M) => L_X12_hand_45 k12 n (v2_10 + 1) μ16)))
def L_X12_hand_71 (k21 : gx_M → Option (Bool × gx_M)) : Nat → Int32 → gx_M → Option (Bool × gx_M)
  | 0, _, _ => none
  | n + 1, v2_19, μ20 => if 40 ≤ v2_19 then k21 μ20 else gx_br (f_X12_of ((31 : Int32) + v2_19) μ20) (fun (r23 : Int32) => gx_ck (gx_ix v2_19 40 = true) (gx_lt (gx_uI μ20 219 v2_19.toNatClampNeg r23) (fun (μ25 : gx_M) => gx_br (f_X12_of ((71 : Int32) + v2_19) μ25) (fun (r26 : Int32) => gx_lt (gx_uI μ25 220 v2_19.toNatClampNeg r26) (fun (μ27 : gx_M) => gx_lt (gx_uI μ27 221 v2_19.toNatClampNeg (gx_bi false)) (fun (μ28 : gx_M) => L_X12_hand_71 k21 n (v2_19 + 1) μ28))))))
def L_X12_hand_120 (k33 : gx_M → Option (Bool × gx_M)) : Nat → Int32 → gx_M → Option (Bool × gx_M)
  | 0, _, _ => none
  | n + 1, v2_31, μ32 => if 6 ≤ v2_31 then k33 μ32 else gx_ck (gx_ix v2_31 6 = true) (gx_lt (gx_uI μ32 222 v2_31.toNatClampNeg (-1)) (fun (μ36 : gx_M) => gx_lt (gx_uI μ36 225 v2_31.toNatClampNeg (-1)) (fun (μ37 : gx_M) => L_X12_hand_120 k33 n (v2_31 + 1) μ37)))
def f_X12_hand (p1 : Int32) (μ : gx_M) : Option (Bool × gx_M) := gx_br (f_X12_is 0 p1 μ) (fun (r1 : Bool) => if r1 = true then gx_lt (gx_uI μ 206 24 p1) (fun (μ3 : gx_M) => gx_br (f_X12_of 0 μ3) (fun (r4 : Int32) => gx_lt (gx_uI μ3 206 25 r4) (fun (μ5 : gx_M) => gx_br (f_X12_of 1 μ5) (fun (r6 : Int32) => gx_lt (gx_uI μ5 206 26 r6) (fun (μ7 : gx_M) => gx_br (f_X12_of 2 μ7) (fun (r8 : Int32) => gx_lt (gx_uI μ7 206 27 r8) (fun (μ9 : gx_M) => L_X12_hand_45 (fun (μ18 : gx_M) => L_X12_hand_71 (fun (μ30 : gx_M) => L_X12_hand_120 (fun (μ39 : gx_M) => gx_lt (gx_uI μ39 206 38 (-1)) (fun (μ40 : gx_M) => some (true, μ40))) 4000 0 μ30) 4000 0 μ18) 4000 0 μ9))))))) else some (false, μ))
theorem okL_X12_hand_45 {E : gx_E} {l : Launch} {k12 : gx_M → Option (Bool × gx_M)} (hk : ∀ (μ17 : gx_M), GoW E l Y_X12_hand 2 gx_eB 69 [some (.ref (E.2.2.1 + 206))] [] μ17 (k12 μ17)) : ∀ (n : Nat) (v2_10 : Int32) (μ11 : gx_M), GoW E l Y_X12_hand 2 gx_eB 45 [some (.ref (E.2.2.1 + 206)), none, some (.int v2_10)] [] μ11 (L_X12_hand_45 k12 n v2_10 μ11) := by
  intro n
  induction n with
  | zero => intros; exact W_no
  | succ n ih =>
    intro v2_10 μ11
    rw [L_X12_hand_45.eq_2]
    refine W_s (s_iload_n dX12_hand_45 rfl rfl) ?_
    refine W_s (s_iconst dX12_hand_46 kci_4) ?_
    refine W_ite (fun h13 => ?_) (fun h13 => ?_)
    · refine W_s (s_icmp_ge_t dX12_hand_47 rfl h13) ?_
      exact W_wk (hk μ11) (le_s rfl le_n)
    · refine W_s (s_icmp_ge_f dX12_hand_47 rfl h13) ?_
      refine W_s (s_aload_n dX12_hand_50 rfl rfl) ?_
      refine W_s (gf_RX12_44 rfl dX12_hand_51) ?_
      refine W_s (s_iload_n dX12_hand_54 rfl rfl) ?_
      refine W_s (s_aload_n dX12_hand_55 rfl rfl) ?_
      refine W_s (s_iconst dX12_hand_56 kci_3) ?_
      refine W_s (s_iload_n dX12_hand_57 rfl rfl) ?_
      refine W_s (s_iadd dX12_hand_58) ?_
      refine W_br (ec := gx_eI) (fun r_ hr_ => s_callV (As := [.int _]) dX12_hand_59 Lk_RX12_279 rfl g_206 (by decide) rfl (Nat.le_of_ble_eq_true rfl) (Nat.le_of_ble_eq_true rfl) (ev_X12_of ((3 : Int32) + v2_10) μ11 hr_)) (fun r14 => ?_)
      refine W_ck (fun h15 => ?_)
      refine W_s (s_iast dX12_hand_62 g_218 (gx_ixv h15)) ?_
      refine W_letM (fun μ16 => ?_)
      refine W_s (s_iinc dX12_hand_63 rfl (kinc_1 v2_10) (Nat.le_of_ble_eq_true rfl)) ?_
      refine W_s (s_goto dX12_hand_66 rfl) ?_
      exact W_wk (ih (v2_10 + 1) μ16) (le_s rfl (le_o (le_s rfl le_n)))
theorem okL_X12_hand_71 {E : gx_E} {l : Launch} {k21 : gx_M → Option (Bool × gx_M)} (hk : ∀ (μ29 : gx_M), GoW E l Y_X12_hand 2 gx_eB 118 [some (.ref (E.2.2.1 + 206))] [] μ29 (k21 μ29)) : ∀ (n : Nat) (v2_19 : Int32) (μ20 : gx_M), GoW E l Y_X12_hand 2 gx_eB 71 [some (.ref (E.2.2.1 + 206)), none, some (.int v2_19)] [] μ20 (L_X12_hand_71 k21 n v2_19 μ20) := by
  intro n
  induction n with
  | zero => intros; exact W_no
  | succ n ih =>
    intro v2_19 μ20
    rw [L_X12_hand_71.eq_2]
    refine W_s (s_iload_n dX12_hand_71 rfl rfl) ?_
    refine W_s (s_bipush dX12_hand_72 kcb_40) ?_
    refine W_ite (fun h22 => ?_) (fun h22 => ?_)
    · refine W_s (s_icmp_ge_t dX12_hand_74 rfl h22) ?_
      exact W_wk (hk μ20) (le_s rfl le_n)
    · refine W_s (s_icmp_ge_f dX12_hand_74 rfl h22) ?_
      refine W_s (s_aload_n dX12_hand_77 rfl rfl) ?_
      refine W_s (gf_RX12_47 rfl dX12_hand_78) ?_
      refine W_s (s_iload_n dX12_hand_81 rfl rfl) ?_
      refine W_s (s_aload_n dX12_hand_82 rfl rfl) ?_
      refine W_s (s_bipush dX12_hand_83 kcb_31) ?_
      refine W_s (s_iload_n dX12_hand_85 rfl rfl) ?_
      refine W_s (s_iadd dX12_hand_86) ?_
      refine W_br (ec := gx_eI) (fun r_ hr_ => s_callV (As := [.int _]) dX12_hand_87 Lk_RX12_279 rfl g_206 (by decide) rfl (Nat.le_of_ble_eq_true rfl) (Nat.le_of_ble_eq_true rfl) (ev_X12_of ((31 : Int32) + v2_19) μ20 hr_)) (fun r23 => ?_)
      refine W_ck (fun h24 => ?_)
      refine W_s (s_iast dX12_hand_90 g_219 (gx_ixv h24)) ?_
      refine W_letM (fun μ25 => ?_)
      refine W_s (s_aload_n dX12_hand_91 rfl rfl) ?_
      refine W_s (gf_RX12_50 rfl dX12_hand_92) ?_
      refine W_s (s_iload_n dX12_hand_95 rfl rfl) ?_
      refine W_s (s_aload_n dX12_hand_96 rfl rfl) ?_
      refine W_s (s_bipush dX12_hand_97 kcb_71) ?_
      refine W_s (s_iload_n dX12_hand_99 rfl rfl) ?_
      refine W_s (s_iadd dX12_hand_100) ?_
      refine W_br (ec := gx_eI) (fun r_ hr_ => s_callV (As := [.int _]) dX12_hand_101 Lk_RX12_279 rfl g_206 (by decide) rfl (Nat.le_of_ble_eq_true rfl) (Nat.le_of_ble_eq_true rfl) (ev_X12_of ((71 : Int32) + v2_19) μ25 hr_)) (fun r26 => ?_)
      refine W_s (s_iast dX12_hand_104 g_220 (gx_ixv h24)) ?_
      refine W_letM (fun μ27 => ?_)
      refine W_s (s_aload_n dX12_hand_105 rfl rfl) ?_
      refine W_s (gf_RX12_53 rfl dX12_hand_106) ?_
      refine W_s (s_iload_n dX12_hand_109 rfl rfl) ?_
      refine W_s (s_iconst dX12_hand_110 kci_0) ?_
      refine W_s (s_zastB (b := false) dX12_hand_111 g_221 (gx_ixv h24)) ?_
      refine W_letM (fun μ28 => ?_)
      refine W_s (s_iinc dX12_hand_112 rfl (kinc_1 v2_19) (Nat.le_of_ble_eq_true rfl)) ?_
      refine W_s (s_goto dX12_hand_115 rfl) ?_
      exact W_wk (ih (v2_19 + 1) μ28) (le_s rfl (le_o (le_s rfl le_n)))
theorem okL_X12_hand_120 {E : gx_E} {l : Launch} {k33 : gx_M → Option (Bool × gx_M)} (hk : ∀ (μ38 : gx_M), GoW E l Y_X12_hand 2 gx_eB 146 [some (.ref (E.2.2.1 + 206))] [] μ38 (k33 μ38)) : ∀ (n : Nat) (v2_31 : Int32) (μ32 : gx_M), GoW E l Y_X12_hand 2 gx_eB 120 [some (.ref (E.2.2.1 + 206)), none, some (.int v2_31)] [] μ32 (L_X12_hand_120 k33 n v2_31 μ32) := by
  intro n
  induction n with
  | zero => intros; exact W_no
  | succ n ih =>
    intro v2_31 μ32
    rw [L_X12_hand_120.eq_2]
    refine W_s (s_iload_n dX12_hand_120 rfl rfl) ?_
    refine W_s (s_bipush dX12_hand_121 kcb_6) ?_
    refine W_ite (fun h34 => ?_) (fun h34 => ?_)
    · refine W_s (s_icmp_ge_t dX12_hand_123 rfl h34) ?_
      exact W_wk (hk μ32) (le_s rfl le_n)
    · refine W_s (s_icmp_ge_f dX12_hand_123 rfl h34) ?_
      refine W_s (s_aload_n dX12_hand_126 rfl rfl) ?_
      refine W_s (gf_RX12_57 rfl dX12_hand_127) ?_
      refine W_s (s_iload_n dX12_hand_130 rfl rfl) ?_
      refine W_s (s_iconst dX12_hand_131 kci_m1) ?_
      refine W_ck (fun h35 => ?_)
      refine W_s (s_iast dX12_hand_132 g_222 (gx_ixv h35)) ?_
      refine W_letM (fun μ36 => ?_)
      refine W_s (s_aload_n dX12_hand_133 rfl rfl) ?_
      refine W_s (gf_RX12_66 rfl dX12_hand_134) ?_
      refine W_s (s_iload_n dX12_hand_137 rfl rfl) ?_
      refine W_s (s_iconst dX12_hand_138 kci_m1) ?_
      refine W_s (s_iast dX12_hand_139 g_225 (gx_ixv h35)) ?_
      refine W_letM (fun μ37 => ?_)
      refine W_s (s_iinc dX12_hand_140 rfl (kinc_1 v2_31) (Nat.le_of_ble_eq_true rfl)) ?_
      refine W_s (s_goto dX12_hand_143 rfl) ?_
      exact W_wk (ih (v2_31 + 1) μ37) (le_s rfl (le_o (le_s rfl le_n)))
theorem ev_X12_hand {E : gx_E} {l : Launch} (p1 : Int32) (μ : gx_M) {r : Bool} {μ' : gx_M} (hr : f_X12_hand p1 μ = some (r, μ')) : gEv E l 2 Y_X12_hand [.ref (E.2.2.1 + 206), .int p1] gx_G1 μ (gx_eB r) gx_G1 μ' := by
  refine W_ev (by decide) (Nat.le_of_ble_eq_true rfl) (em := gx_eB) (T := f_X12_hand p1 μ) ?_ hr
  show GoW E l Y_X12_hand 2 gx_eB 0 (gx_el [.ref (E.2.2.1 + 206), .int p1]) [] μ (f_X12_hand p1 μ)
  unfold f_X12_hand
  refine W_s (s_aload_n dX12_hand_0 rfl rfl) ?_
  refine W_s (s_iconst dX12_hand_1 kci_0) ?_
  refine W_s (s_iload_n dX12_hand_2 rfl rfl) ?_
  refine W_br (ec := gx_eB) (fun r_ hr_ => s_callV (As := [.int _, .int _]) dX12_hand_3 Lk_RX12_267 rfl g_206 (by decide) rfl (Nat.le_of_ble_eq_true rfl) (Nat.le_of_ble_eq_true rfl) (ev_X12_is 0 p1 μ hr_)) (fun r1 => ?_)
  refine W_ite (fun h2 => ?_) (fun h2 => ?_)
  · refine W_s (s_if_ne_t dX12_hand_6 rfl (gx_bt h2)) ?_
    refine W_s (s_aload_n dX12_hand_11 rfl rfl) ?_
    refine W_s (s_iload_n dX12_hand_12 rfl rfl) ?_
    refine W_s (pf_RX12_276 rfl dX12_hand_13) ?_
    refine W_letM (fun μ3 => ?_)
    refine W_s (s_aload_n dX12_hand_16 rfl rfl) ?_
    refine W_s (s_aload_n dX12_hand_17 rfl rfl) ?_
    refine W_s (s_iconst dX12_hand_18 kci_0) ?_
    refine W_br (ec := gx_eI) (fun r_ hr_ => s_callV (As := [.int _]) dX12_hand_19 Lk_RX12_279 rfl g_206 (by decide) rfl (Nat.le_of_ble_eq_true rfl) (Nat.le_of_ble_eq_true rfl) (ev_X12_of 0 μ3 hr_)) (fun r4 => ?_)
    refine W_s (pf_RX12_283 rfl dX12_hand_22) ?_
    refine W_letM (fun μ5 => ?_)
    refine W_s (s_aload_n dX12_hand_25 rfl rfl) ?_
    refine W_s (s_aload_n dX12_hand_26 rfl rfl) ?_
    refine W_s (s_iconst dX12_hand_27 kci_1) ?_
    refine W_br (ec := gx_eI) (fun r_ hr_ => s_callV (As := [.int _]) dX12_hand_28 Lk_RX12_279 rfl g_206 (by decide) rfl (Nat.le_of_ble_eq_true rfl) (Nat.le_of_ble_eq_true rfl) (ev_X12_of 1 μ5 hr_)) (fun r6 => ?_)
    refine W_s (pf_RX12_286 rfl dX12_hand_31) ?_
    refine W_letM (fun μ7 => ?_)
    refine W_s (s_aload_n dX12_hand_34 rfl rfl) ?_
    refine W_s (s_aload_n dX12_hand_35 rfl rfl) ?_
    refine W_s (s_iconst dX12_hand_36 kci_2) ?_
    refine W_br (ec := gx_eI) (fun r_ hr_ => s_callV (As := [.int _]) dX12_hand_37 Lk_RX12_279 rfl g_206 (by decide) rfl (Nat.le_of_ble_eq_true rfl) (Nat.le_of_ble_eq_true rfl) (ev_X12_of 2 μ7 hr_)) (fun r8 => ?_)
    refine W_s (pf_RX12_289 rfl dX12_hand_40) ?_
    refine W_letM (fun μ9 => ?_)
    refine W_s (s_iconst dX12_hand_43 kci_0) ?_
    refine W_s (s_istore_n dX12_hand_44 rfl (Nat.le_of_ble_eq_true rfl)) ?_
    refine W_wk (okL_X12_hand_45 ?_ 4000 0 μ9) (le_s rfl (le_o (le_s rfl le_n)))
    intro μ18
    refine W_s (s_iconst dX12_hand_69 kci_0) ?_
    refine W_s (s_istore_n dX12_hand_70 rfl (Nat.le_of_ble_eq_true rfl)) ?_
    refine W_wk (okL_X12_hand_71 ?_ 4000 0 μ18) (le_s rfl (le_o (le_s rfl le_n)))
    intro μ30
    refine W_s (s_iconst dX12_hand_118 kci_0) ?_
    refine W_s (s_istore_n dX12_hand_119 rfl (Nat.le_of_ble_eq_true rfl)) ?_
    refine W_wk (okL_X12_hand_120 ?_ 4000 0 μ30) (le_s rfl (le_o (le_s rfl le_n)))
    intro μ39
    refine W_s (s_aload_n dX12_hand_146 rfl rfl) ?_
    refine W_s (s_iconst dX12_hand_147 kci_m1) ?_
    refine W_s (pf_RX12_292 rfl dX12_hand_148) ?_
    refine W_letM (fun μ40 => ?_)
    refine W_s (s_iconst dX12_hand_151 kci_1) ?_
    exact W_r (r := true) (f_int (ty := .boolean) (x := gx_bi true) dX12_hand_152 rfl (gx_bn true))
  · refine W_s (s_if_ne_f dX12_hand_6 rfl (gx_bf h2)) ?_
    refine W_s (s_iconst dX12_hand_9 kci_0) ?_
    exact W_r (r := false) (f_int (ty := .boolean) (x := gx_bi false) dX12_hand_10 rfl (gx_bn false))

def f_X12_mayBegin (p1 : Int32) (p2 : Int32) (μ : gx_M) : Option Bool := gx_br (f_X12_of ((13 : Int32) + p1) μ) (fun (r1 : Int32) => if p2 < r1 then some false else gx_br (f_X12_lengthOf p1 μ) (fun (r3 : Int32) => gx_br (f_X12_of ((19 : Int32) + p1) μ) (fun (r4 : Int32) => if r4 < ((p2 + r3) - 1) then some false else some true)))
theorem ev_X12_mayBegin {E : gx_E} {l : Launch} (p1 : Int32) (p2 : Int32) (μ : gx_M) {r : Bool} (hr : f_X12_mayBegin p1 p2 μ = some r) : gEv E l 2 Y_X12_mayBegin [.ref (E.2.2.1 + 206), .int p1, .int p2] gx_G1 μ (gx_eB r) gx_G1 μ := by
  refine R_ev (by decide) (Nat.le_of_ble_eq_true rfl) (em := gx_eB) (T := f_X12_mayBegin p1 p2 μ) ?_ hr
  show GoR E l Y_X12_mayBegin 2 gx_eB 0 (gx_el [.ref (E.2.2.1 + 206), .int p1, .int p2]) [] μ (f_X12_mayBegin p1 p2 μ)
  unfold f_X12_mayBegin
  refine R_s (s_iload_n dX12_mayBegin_0 rfl rfl) ?_
  refine R_s (s_aload_n dX12_mayBegin_1 rfl rfl) ?_
  refine R_s (s_bipush dX12_mayBegin_2 kcb_13) ?_
  refine R_s (s_iload_n dX12_mayBegin_4 rfl rfl) ?_
  refine R_s (s_iadd dX12_mayBegin_5) ?_
  refine R_br (ec := gx_eI) (fun r_ hr_ => s_callV (As := [.int _]) dX12_mayBegin_6 Lk_RX12_279 rfl g_206 (by decide) rfl (Nat.le_of_ble_eq_true rfl) (Nat.le_of_ble_eq_true rfl) (ev_X12_of ((13 : Int32) + p1) μ hr_)) (fun r1 => ?_)
  refine R_ite (fun h2 => ?_) (fun h2 => ?_)
  · refine R_s (s_icmp_lt_t dX12_mayBegin_9 rfl h2) ?_
    refine R_s (s_iconst dX12_mayBegin_36 kci_0) ?_
    exact R_r (r := false) (f_int (ty := .boolean) (x := gx_bi false) dX12_mayBegin_37 rfl (gx_bn false))
  · refine R_s (s_icmp_lt_f dX12_mayBegin_9 rfl h2) ?_
    refine R_s (s_iload_n dX12_mayBegin_12 rfl rfl) ?_
    refine R_s (s_aload_n dX12_mayBegin_13 rfl rfl) ?_
    refine R_s (s_iload_n dX12_mayBegin_14 rfl rfl) ?_
    refine R_br (ec := gx_eI) (fun r_ hr_ => s_callV (As := [.int _]) dX12_mayBegin_15 Lk_RX12_295 rfl g_206 (by decide) rfl (Nat.le_of_ble_eq_true rfl) (Nat.le_of_ble_eq_true rfl) (ev_X12_lengthOf p1 μ hr_)) (fun r3 => ?_)
    refine R_s (s_iadd dX12_mayBegin_18) ?_
    refine R_s (s_iconst dX12_mayBegin_19 kci_1) ?_
    refine R_s (s_isub dX12_mayBegin_20) ?_
    refine R_s (s_aload_n dX12_mayBegin_21 rfl rfl) ?_
    refine R_s (s_bipush dX12_mayBegin_22 kcb_19) ?_
    refine R_s (s_iload_n dX12_mayBegin_24 rfl rfl) ?_
    refine R_s (s_iadd dX12_mayBegin_25) ?_
    refine R_br (ec := gx_eI) (fun r_ hr_ => s_callV (As := [.int _]) dX12_mayBegin_26 Lk_RX12_279 rfl g_206 (by decide) rfl (Nat.le_of_ble_eq_true rfl) (Nat.le_of_ble_eq_true rfl) (ev_X12_of ((19 : Int32) + p1) μ hr_)) (fun r4 => ?_)
    refine R_ite (fun h5 => ?_) (fun h5 => ?_)
    · refine R_s (s_icmp_gt_t dX12_mayBegin_29 rfl h5) ?_
      refine R_s (s_iconst dX12_mayBegin_36 kci_0) ?_
      exact R_r (r := false) (f_int (ty := .boolean) (x := gx_bi false) dX12_mayBegin_37 rfl (gx_bn false))
    · refine R_s (s_icmp_gt_f dX12_mayBegin_29 rfl h5) ?_
      refine R_s (s_iconst dX12_mayBegin_32 kci_1) ?_
      refine R_s (s_goto dX12_mayBegin_33 rfl) ?_
      exact R_r (r := true) (f_int (ty := .boolean) (x := gx_bi true) dX12_mayBegin_37 rfl (gx_bn true))

def f_X12_hasYear (p1 : Int32) (μ : gx_M) : Option (Bool × gx_M) := gx_lt (gx_uI μ 206 33 p1) (fun (μ1 : gx_M) => gx_br (f_X12_is 1 p1 μ1) (fun (r2 : Bool) => some (r2, μ1)))
theorem ev_X12_hasYear {E : gx_E} {l : Launch} (p1 : Int32) (μ : gx_M) {r : Bool} {μ' : gx_M} (hr : f_X12_hasYear p1 μ = some (r, μ')) : gEv E l 2 Y_X12_hasYear [.ref (E.2.2.1 + 206), .int p1] gx_G1 μ (gx_eB r) gx_G1 μ' := by
  refine W_ev (by decide) (Nat.le_of_ble_eq_true rfl) (em := gx_eB) (T := f_X12_hasYear p1 μ) ?_ hr
  show GoW E l Y_X12_hasYear 2 gx_eB 0 (gx_el [.ref (E.2.2.1 + 206), .int p1]) [] μ (f_X12_hasYear p1 μ)
  unfold f_X12_hasYear
  refine W_s (s_aload_n dX12_hasYear_0 rfl rfl) ?_
  refine W_s (s_iload_n dX12_hasYear_1 rfl rfl) ?_
  refine W_s (pf_RX12_301 rfl dX12_hasYear_2) ?_
  refine W_letM (fun μ1 => ?_)
  refine W_s (s_aload_n dX12_hasYear_5 rfl rfl) ?_
  refine W_s (s_iconst dX12_hasYear_6 kci_1) ?_
  refine W_s (s_iload_n dX12_hasYear_7 rfl rfl) ?_
  refine W_br (ec := gx_eB) (fun r_ hr_ => s_callV (As := [.int _, .int _]) dX12_hasYear_8 Lk_RX12_267 rfl g_206 (by decide) rfl (Nat.le_of_ble_eq_true rfl) (Nat.le_of_ble_eq_true rfl) (ev_X12_is 1 p1 μ1 hr_)) (fun r2 => ?_)
  exact W_r (r := r2) (f_int (ty := .boolean) (x := gx_bi r2) dX12_hasYear_11 rfl (gx_bn r2))

def f_X12_prices (p1 : Int32) (p2 : Int32) (μ : gx_M) : Option (Bool × gx_M) := if (f_X12_isMinute p1 μ) = true then gx_ck (gx_ix p1 40 = true) (if (f_X12_in ((μ.1 219 p1.toNatClampNeg) + p2) 0 9) = true then gx_lt (gx_uI μ 219 p1.toNatClampNeg ((μ.1 219 p1.toNatClampNeg) + p2)) (fun (μ4 : gx_M) => some (true, μ4)) else some (false, μ)) else some (false, μ)
theorem ev_X12_prices {E : gx_E} {l : Launch} (p1 : Int32) (p2 : Int32) (μ : gx_M) {r : Bool} {μ' : gx_M} (hr : f_X12_prices p1 p2 μ = some (r, μ')) : gEv E l 2 Y_X12_prices [.ref (E.2.2.1 + 206), .int p1, .int p2] gx_G1 μ (gx_eB r) gx_G1 μ' := by
  refine W_ev (by decide) (Nat.le_of_ble_eq_true rfl) (em := gx_eB) (T := f_X12_prices p1 p2 μ) ?_ hr
  show GoW E l Y_X12_prices 2 gx_eB 0 (gx_el [.ref (E.2.2.1 + 206), .int p1, .int p2]) [] μ (f_X12_prices p1 p2 μ)
  unfold f_X12_prices
  refine W_s (s_aload_n dX12_prices_0 rfl rfl) ?_
  refine W_s (s_iload_n dX12_prices_1 rfl rfl) ?_
  refine W_s (s_callV (As := [.int _]) dX12_prices_2 Lk_RX12_322 rfl g_206 (by decide) rfl (Nat.le_of_ble_eq_true rfl) (Nat.le_of_ble_eq_true rfl) (ev_X12_isMinute p1 μ)) ?_
  refine W_ite (fun h1 => ?_) (fun h1 => ?_)
  · refine W_s (s_if_eq_f dX12_prices_5 rfl (gx_bt h1)) ?_
    refine W_s (s_aload_n dX12_prices_8 rfl rfl) ?_
    refine W_s (gf_RX12_47 rfl dX12_prices_9) ?_
    refine W_s (s_iload_n dX12_prices_12 rfl rfl) ?_
    refine W_ck (fun h2 => ?_)
    refine W_s (s_iald dX12_prices_13 g_219 (gx_ixv h2)) ?_
    refine W_s (s_iload_n dX12_prices_14 rfl rfl) ?_
    refine W_s (s_iadd dX12_prices_15) ?_
    refine W_s (s_iconst dX12_prices_16 kci_0) ?_
    refine W_s (s_bipush dX12_prices_17 kcb_9) ?_
    refine W_s (s_callS (As := [.int _, .int _, .int _]) dX12_prices_19 Lk_RX12_112 rfl (Nat.le_of_ble_eq_true rfl) (Nat.le_of_ble_eq_true rfl) (ev_X12_in ((μ.1 219 p1.toNatClampNeg) + p2) 0 9 μ)) ?_
    refine W_ite (fun h3 => ?_) (fun h3 => ?_)
    · refine W_s (s_if_ne_t dX12_prices_22 rfl (gx_bt h3)) ?_
      refine W_s (s_aload_n dX12_prices_27 rfl rfl) ?_
      refine W_s (gf_RX12_47 rfl dX12_prices_28) ?_
      refine W_s (s_iload_n dX12_prices_31 rfl rfl) ?_
      refine W_s (s_dup2 dX12_prices_32 rfl rfl) ?_
      refine W_s (s_iald dX12_prices_33 g_219 (gx_ixv h2)) ?_
      refine W_s (s_iload_n dX12_prices_34 rfl rfl) ?_
      refine W_s (s_iadd dX12_prices_35) ?_
      refine W_s (s_iast dX12_prices_36 g_219 (gx_ixv h2)) ?_
      refine W_letM (fun μ4 => ?_)
      refine W_s (s_iconst dX12_prices_37 kci_1) ?_
      exact W_r (r := true) (f_int (ty := .boolean) (x := gx_bi true) dX12_prices_38 rfl (gx_bn true))
    · refine W_s (s_if_ne_f dX12_prices_22 rfl (gx_bf h3)) ?_
      refine W_s (s_iconst dX12_prices_25 kci_0) ?_
      exact W_r (r := false) (f_int (ty := .boolean) (x := gx_bi false) dX12_prices_26 rfl (gx_bn false))
  · refine W_s (s_if_eq_t dX12_prices_5 rfl (gx_bf h1)) ?_
    refine W_s (s_iconst dX12_prices_25 kci_0) ?_
    exact W_r (r := false) (f_int (ty := .boolean) (x := gx_bi false) dX12_prices_26 rfl (gx_bn false))

def f_X12_runBits (p1 : Int32) (p2 : Int32) (μ : gx_M) : Option Int64 := gx_br (f_X12_lengthOf p1 μ) (fun (r1 : Int32) => some ((((1 : Int64) <<< ((r1 : Int32).toInt64 &&& 63)) - 1) <<< ((p2 : Int32).toInt64 &&& 63)))
theorem ev_X12_runBits {E : gx_E} {l : Launch} (p1 : Int32) (p2 : Int32) (μ : gx_M) {r : Int64} (hr : f_X12_runBits p1 p2 μ = some r) : gEv E l 2 Y_X12_runBits [.ref (E.2.2.1 + 206), .int p1, .int p2] gx_G1 μ (gx_eL r) gx_G1 μ := by
  refine R_ev (by decide) (Nat.le_of_ble_eq_true rfl) (em := gx_eL) (T := f_X12_runBits p1 p2 μ) ?_ hr
  show GoR E l Y_X12_runBits 2 gx_eL 0 (gx_el [.ref (E.2.2.1 + 206), .int p1, .int p2]) [] μ (f_X12_runBits p1 p2 μ)
  unfold f_X12_runBits
  refine R_s (s_lconst dX12_runBits_0 kcl_1) ?_
  refine R_s (s_aload_n dX12_runBits_1 rfl rfl) ?_
  refine R_s (s_iload_n dX12_runBits_2 rfl rfl) ?_
  refine R_br (ec := gx_eI) (fun r_ hr_ => s_callV (As := [.int _]) dX12_runBits_3 Lk_RX12_295 rfl g_206 (by decide) rfl (Nat.le_of_ble_eq_true rfl) (Nat.le_of_ble_eq_true rfl) (ev_X12_lengthOf p1 μ hr_)) (fun r1 => ?_)
  refine R_s (s_lshl dX12_runBits_6) ?_
  refine R_s (s_lconst dX12_runBits_7 kcl_1) ?_
  refine R_s (s_lsub dX12_runBits_8) ?_
  refine R_s (s_iload_n dX12_runBits_9 rfl rfl) ?_
  refine R_s (s_lshl dX12_runBits_10) ?_
  exact R_r (r := ((((1 : Int64) <<< ((r1 : Int32).toInt64 &&& 63)) - 1) <<< ((p2 : Int32).toInt64 &&& 63))) (f_long dX12_runBits_11 rfl)

def f_X12_hitOf (p1 : Int64) (p3 : Int32) (μ : gx_M) : Option (Int32 × gx_M) := gx_bd (f_X12_fewestHits p1 μ) (fun (r1 : Int32) (μ2 : gx_M) => if p3 = (-1) then some (r1, μ2) else if (f_X12_in p3 0 (r1 - 1)) = true then gx_ck (gx_ix p3 3 = true) (some ((μ2.1 230 p3.toNatClampNeg), μ2)) else some ((-1), μ2))
theorem ev_X12_hitOf {E : gx_E} {l : Launch} (p1 : Int64) (p3 : Int32) (μ : gx_M) {r : Int32} {μ' : gx_M} (hr : f_X12_hitOf p1 p3 μ = some (r, μ')) : gEv E l 2 Y_X12_hitOf [.ref (E.2.2.1 + 206), .long p1, .int p3] gx_G1 μ (gx_eI r) gx_G1 μ' := by
  refine W_ev (by decide) (Nat.le_of_ble_eq_true rfl) (em := gx_eI) (T := f_X12_hitOf p1 p3 μ) ?_ hr
  show GoW E l Y_X12_hitOf 2 gx_eI 0 (gx_el [.ref (E.2.2.1 + 206), .long p1, .int p3]) [] μ (f_X12_hitOf p1 p3 μ)
  unfold f_X12_hitOf
  refine W_s (s_aload_n dX12_hitOf_0 rfl rfl) ?_
  refine W_s (s_lload_n dX12_hitOf_1 rfl rfl) ?_
  refine W_bd (ec := gx_eI) (fun r_ μ_ hr_ => s_callV (As := [.long _]) dX12_hitOf_2 Lk_RX12_427 rfl g_206 (by decide) rfl (Nat.le_of_ble_eq_true rfl) (Nat.le_of_ble_eq_true rfl) (ev_X12_fewestHits p1 μ hr_)) (fun r1 μ2 => ?_)
  refine W_s (s_istore dX12_hitOf_5 (Nat.le_of_ble_eq_true rfl)) ?_
  refine W_s (s_iload_n dX12_hitOf_7 rfl rfl) ?_
  refine W_s (s_iconst dX12_hitOf_8 kci_m1) ?_
  refine W_ite (fun h3 => ?_) (fun h3 => ?_)
  · refine W_s (s_icmp_ne_f dX12_hitOf_9 rfl h3) ?_
    refine W_s (s_iload dX12_hitOf_12 rfl) ?_
    refine W_s (s_goto dX12_hitOf_14 rfl) ?_
    exact W_r (r := r1) (f_int (ty := .int) dX12_hitOf_39 rfl rfl)
  · refine W_s (s_icmp_ne_t dX12_hitOf_9 rfl h3) ?_
    refine W_s (s_iload_n dX12_hitOf_17 rfl rfl) ?_
    refine W_s (s_iconst dX12_hitOf_18 kci_0) ?_
    refine W_s (s_iload dX12_hitOf_19 rfl) ?_
    refine W_s (s_iconst dX12_hitOf_21 kci_1) ?_
    refine W_s (s_isub dX12_hitOf_22) ?_
    refine W_s (s_callS (As := [.int _, .int _, .int _]) dX12_hitOf_23 Lk_RX12_112 rfl (Nat.le_of_ble_eq_true rfl) (Nat.le_of_ble_eq_true rfl) (ev_X12_in p3 0 (r1 - 1) μ2)) ?_
    refine W_ite (fun h4 => ?_) (fun h4 => ?_)
    · refine W_s (s_if_eq_f dX12_hitOf_26 rfl (gx_bt h4)) ?_
      refine W_s (s_aload_n dX12_hitOf_29 rfl rfl) ?_
      refine W_s (gf_RX12_82 rfl dX12_hitOf_30) ?_
      refine W_s (s_iload_n dX12_hitOf_33 rfl rfl) ?_
      refine W_ck (fun h5 => ?_)
      refine W_s (s_iald dX12_hitOf_34 g_230 (gx_ixv h5)) ?_
      refine W_s (s_goto dX12_hitOf_35 rfl) ?_
      exact W_r (r := (μ2.1 230 p3.toNatClampNeg)) (f_int (ty := .int) dX12_hitOf_39 rfl rfl)
    · refine W_s (s_if_eq_t dX12_hitOf_26 rfl (gx_bf h4)) ?_
      refine W_s (s_iconst dX12_hitOf_38 kci_m1) ?_
      exact W_r (r := (-1)) (f_int (ty := .int) dX12_hitOf_39 rfl rfl)

def f_X12_tin (p1 : Int32) (p2 : Int32) (p3 : Int32) (p4 : Bool) (μ : gx_M) : Option (Int64 × gx_M) := gx_lt (gx_uI μ 206 0 0) (fun (μ1 : gx_M) => if (f_X12_in p1 0 9) = true then if (f_X12_in p2 0 9) = true then if (f_X12_in p3 0 10) = true then gx_br (f_X12_leftBy p1 p2 p3 μ1) (fun (r5 : Int64) => gx_br (f_X12_power 10 p1 μ1) (fun (r6 : Int64) => gx_br (f_X12_part r5 r6 p4 μ1) (fun (r7 : Int64) => some (r7, μ1)))) else some ((-1), μ1) else some ((-1), μ1) else some ((-1), μ1))
theorem ev_X12_tin {E : gx_E} {l : Launch} (p1 : Int32) (p2 : Int32) (p3 : Int32) (p4 : Bool) (μ : gx_M) {r : Int64} {μ' : gx_M} (hr : f_X12_tin p1 p2 p3 p4 μ = some (r, μ')) : gEv E l 2 Y_X12_tin [.ref (E.2.2.1 + 206), .int p1, .int p2, .int p3, .int (gx_bi p4)] gx_G1 μ (gx_eL r) gx_G1 μ' := by
  refine W_ev (by decide) (Nat.le_of_ble_eq_true rfl) (em := gx_eL) (T := f_X12_tin p1 p2 p3 p4 μ) ?_ hr
  show GoW E l Y_X12_tin 2 gx_eL 0 (gx_el [.ref (E.2.2.1 + 206), .int p1, .int p2, .int p3, .int (gx_bi p4)]) [] μ (f_X12_tin p1 p2 p3 p4 μ)
  unfold f_X12_tin
  refine W_s (s_aload_n dX12_tin_0 rfl rfl) ?_
  refine W_s (s_iconst dX12_tin_1 kci_0) ?_
  refine W_s (pf_RX12_100 rfl dX12_tin_2) ?_
  refine W_letM (fun μ1 => ?_)
  refine W_s (s_iload_n dX12_tin_5 rfl rfl) ?_
  refine W_s (s_iconst dX12_tin_6 kci_0) ?_
  refine W_s (s_bipush dX12_tin_7 kcb_9) ?_
  refine W_s (s_callS (As := [.int _, .int _, .int _]) dX12_tin_9 Lk_RX12_112 rfl (Nat.le_of_ble_eq_true rfl) (Nat.le_of_ble_eq_true rfl) (ev_X12_in p1 0 9 μ1)) ?_
  refine W_ite (fun h2 => ?_) (fun h2 => ?_)
  · refine W_s (s_if_eq_f dX12_tin_12 rfl (gx_bt h2)) ?_
    refine W_s (s_iload_n dX12_tin_15 rfl rfl) ?_
    refine W_s (s_iconst dX12_tin_16 kci_0) ?_
    refine W_s (s_bipush dX12_tin_17 kcb_9) ?_
    refine W_s (s_callS (As := [.int _, .int _, .int _]) dX12_tin_19 Lk_RX12_112 rfl (Nat.le_of_ble_eq_true rfl) (Nat.le_of_ble_eq_true rfl) (ev_X12_in p2 0 9 μ1)) ?_
    refine W_ite (fun h3 => ?_) (fun h3 => ?_)
    · refine W_s (s_if_eq_f dX12_tin_22 rfl (gx_bt h3)) ?_
      refine W_s (s_iload_n dX12_tin_25 rfl rfl) ?_
      refine W_s (s_iconst dX12_tin_26 kci_0) ?_
      refine W_s (s_bipush dX12_tin_27 kcb_10) ?_
      refine W_s (s_callS (As := [.int _, .int _, .int _]) dX12_tin_29 Lk_RX12_112 rfl (Nat.le_of_ble_eq_true rfl) (Nat.le_of_ble_eq_true rfl) (ev_X12_in p3 0 10 μ1)) ?_
      refine W_ite (fun h4 => ?_) (fun h4 => ?_)
      · refine W_s (s_if_eq_f dX12_tin_32 rfl (gx_bt h4)) ?_
        refine W_s (s_iload_n dX12_tin_35 rfl rfl) ?_
        refine W_s (s_iload_n dX12_tin_36 rfl rfl) ?_
        refine W_s (s_iload_n dX12_tin_37 rfl rfl) ?_
        refine W_br (ec := gx_eL) (fun r_ hr_ => s_callS (As := [.int _, .int _, .int _]) dX12_tin_38 Lk_RX12_456 rfl (Nat.le_of_ble_eq_true rfl) (Nat.le_of_ble_eq_true rfl) (ev_X12_leftBy p1 p2 p3 μ1 hr_)) (fun r5 => ?_)
        refine W_s (s_ldc2 dX12_tin_41 kw_RX12_450) ?_
        refine W_s (s_iload_n dX12_tin_44 rfl rfl) ?_
        refine W_br (ec := gx_eL) (fun r_ hr_ => s_callS (As := [.long _, .int _]) dX12_tin_45 Lk_RX12_452 rfl (Nat.le_of_ble_eq_true rfl) (Nat.le_of_ble_eq_true rfl) (ev_X12_power 10 p1 μ1 hr_)) (fun r6 => ?_)
        refine W_s (s_iload dX12_tin_48 rfl) ?_
        refine W_br (ec := gx_eL) (fun r_ hr_ => s_callS (As := [.long _, .long _, .int _]) dX12_tin_50 Lk_RX12_460 rfl (Nat.le_of_ble_eq_true rfl) (Nat.le_of_ble_eq_true rfl) (ev_X12_part r5 r6 p4 μ1 hr_)) (fun r7 => ?_)
        refine W_s (s_goto dX12_tin_53 rfl) ?_
        exact W_r (r := r7) (f_long dX12_tin_59 rfl)
      · refine W_s (s_if_eq_t dX12_tin_32 rfl (gx_bf h4)) ?_
        refine W_s (s_ldc2 dX12_tin_56 kw_RX12_419) ?_
        exact W_r (r := (-1)) (f_long dX12_tin_59 rfl)
    · refine W_s (s_if_eq_t dX12_tin_22 rfl (gx_bf h3)) ?_
      refine W_s (s_ldc2 dX12_tin_56 kw_RX12_419) ?_
      exact W_r (r := (-1)) (f_long dX12_tin_59 rfl)
  · refine W_s (s_if_eq_t dX12_tin_12 rfl (gx_bf h2)) ?_
    refine W_s (s_ldc2 dX12_tin_56 kw_RX12_419) ?_
    exact W_r (r := (-1)) (f_long dX12_tin_59 rfl)

def L_X12_waits_48 (v5_5 : Int64) (v3_4 : Int64) (k13 : Int64 → gx_M → Option (Int64 × gx_M)) : Nat → Int64 → Int32 → gx_M → Option (Int64 × gx_M)
  | 0, _, _, _ => none
  | n + 1, v8_10, v10_11, μ12 => if 10 ≤ v10_11 then k13 v8_10 μ12 else gx_lt (fun (j0_17 : Int64) (μ18 : gx_M) => gx_lt (v8_10 + j0_17) (fun (x19 : Int64) => L_X12_waits_48 v5_5 v3_4 k13 n x19 (v10_11 + 1) μ18)) (fun J15 => if (((v10_11 : Int32).toInt64) * v5_5) ≤ v3_4 then J15 v3_4 μ12 else J15 (((v10_11 : Int32).toInt64) * v5_5) μ12)
def L_X12_waits_36 (p1 : Int32) (k8 : Int64 → Int64 → gx_M → Option (Int64 × gx_M)) : Nat → Int64 → Int64 → Int32 → gx_M → Option (Int64 × gx_M)
  | 0, _, _, _, _ => none
  | n + 1, v3_4, v5_5, v7_6, μ7 => if p1 ≤ v7_6 then k8 v3_4 v5_5 μ7 else L_X12_waits_48 v5_5 v3_4 (fun (x8_22 : Int64) (μ23 : gx_M) => gx_lt (v5_5 * 10) (fun (x24 : Int64) => L_X12_waits_36 p1 k8 n x8_22 x24 (v7_6 + 1) μ23)) 4000 0 0 μ7
def L_X12_waits_139 (x5_29 : Int64) (x3_28 : Int64) (k35 : Int64 → gx_M → Option (Int64 × gx_M)) : Nat → Int64 → Int32 → gx_M → Option (Int64 × gx_M)
  | 0, _, _, _ => none
  | n + 1, v7_32, v9_33, μ34 => if 10 ≤ v9_33 then k35 v7_32 μ34 else gx_lt (fun (j0_39 : Int64) (μ40 : gx_M) => gx_lt (v7_32 + j0_39) (fun (x41 : Int64) => L_X12_waits_139 x5_29 x3_28 k35 n x41 (v9_33 + 1) μ40)) (fun J37 => if (((v9_33 : Int32).toInt64) * x5_29) ≤ x3_28 then J37 x3_28 μ34 else J37 (((v9_33 : Int32).toInt64) * x5_29) μ34)
def L_X12_waits_112 (x3_28 : Int64) (x5_29 : Int64) (k53 : Int32 → gx_M → Option (Int64 × gx_M)) : Nat → Int32 → gx_M → Option (Int64 × gx_M)
  | 0, _, _ => none
  | n + 1, v7_51, μ52 => if x3_28 ≤ (((v7_51 : Int32).toInt64) * x5_29) then k53 v7_51 μ52 else L_X12_waits_112 x3_28 x5_29 k53 n (v7_51 + 1) μ52
def f_X12_waits (p1 : Int32) (p2 : Int32) (μ : gx_M) : Option (Int64 × gx_M) := gx_lt (gx_uI μ 206 0 0) (fun (μ1 : gx_M) => if (f_X12_in p1 1 9) = true then if (f_X12_in p2 0 2) = true then L_X12_waits_36 p1 (fun (x3_28 : Int64) (x5_29 : Int64) (μ30 : gx_M) => if p2 = 2 then L_X12_waits_112 x3_28 x5_29 (fun (x7_57 : Int32) (μ58 : gx_M) => some ((x7_57 : Int32).toInt64, μ58)) 4000 0 μ30 else L_X12_waits_139 x5_29 x3_28 (fun (x7_44 : Int64) (μ45 : gx_M) => gx_lt (fun (j0_48 : Bool) (μ49 : gx_M) => gx_br (f_X12_part x7_44 ((10 : Int64) * x5_29) j0_48 μ49) (fun (r50 : Int64) => some (r50, μ49))) (fun J46 => if p2 = 1 then J46 true μ45 else J46 false μ45)) 4000 0 0 μ30) 4000 0 1 1 μ1 else some ((-1), μ1) else some ((-1), μ1))
theorem okL_X12_waits_48 {E : gx_E} {l : Launch} {v5_5 : Int64} {v3_4 : Int64} {p1 : Int32} {p2 : Int32} {v7_6 : Int32} {k13 : Int64 → gx_M → Option (Int64 × gx_M)} (hk : ∀ (w20 : Int64) (μ21 : gx_M), GoW E l Y_X12_waits 2 gx_eL 87 [none, some (.int p1), some (.int p2), none, none, some (.long v5_5), none, some (.int v7_6), some (.long w20)] [] μ21 (k13 w20 μ21)) : ∀ (n : Nat) (v8_10 : Int64) (v10_11 : Int32) (μ12 : gx_M), GoW E l Y_X12_waits 2 gx_eL 48 [none, some (.int p1), some (.int p2), some (.long v3_4), none, some (.long v5_5), none, some (.int v7_6), some (.long v8_10), none, some (.int v10_11)] [] μ12 (L_X12_waits_48 v5_5 v3_4 k13 n v8_10 v10_11 μ12) := by
  intro n
  induction n with
  | zero => intros; exact W_no
  | succ n ih =>
    intro v8_10 v10_11 μ12
    rw [L_X12_waits_48.eq_2]
    refine W_s (s_iload dX12_waits_48 rfl) ?_
    refine W_s (s_bipush dX12_waits_50 kcb_10) ?_
    refine W_ite (fun h14 => ?_) (fun h14 => ?_)
    · refine W_s (s_icmp_ge_t dX12_waits_52 rfl h14) ?_
      exact W_wk (hk v8_10 μ12) (le_o (le_s rfl (le_s rfl (le_o (le_o (le_s rfl (le_o (le_s rfl (le_s rfl le_n)))))))))
    · refine W_s (s_icmp_ge_f dX12_waits_52 rfl h14) ?_
      refine W_s (s_lload dX12_waits_55 rfl) ?_
      refine W_s (s_iload dX12_waits_57 rfl) ?_
      refine W_s (s_i2l dX12_waits_59) ?_
      refine W_s (s_lload dX12_waits_60 rfl) ?_
      refine W_s (s_lmul dX12_waits_62) ?_
      refine W_s (s_lload_n dX12_waits_63 rfl rfl) ?_
      refine W_s (s_lcmp dX12_waits_64) ?_
      refine W_fun (fun J => ∀ (j0_17 : Int64) (μ18 : gx_M), GoW E l Y_X12_waits 2 gx_eL 78 [none, some (.int p1), some (.int p2), some (.long v3_4), none, some (.long v5_5), none, some (.int v7_6), none, none, some (.int v10_11)] [.long j0_17, .long v8_10] μ18 (J j0_17 μ18)) ?_ (fun J15 hJ15 => ?_)
      · intro j0_17 μ18
        refine W_s (s_ladd dX12_waits_78) ?_
        refine W_letL (fun x19 => ?_)
        refine W_s (s_lstore dX12_waits_79 (Nat.le_of_ble_eq_true rfl)) ?_
        refine W_s (s_iinc dX12_waits_81 rfl (kinc_1 v10_11) (Nat.le_of_ble_eq_true rfl)) ?_
        refine W_s (s_goto dX12_waits_84 rfl) ?_
        exact W_wk (ih x19 (v10_11 + 1) μ18) (le_o (le_s rfl (le_s rfl (le_s rfl (le_o (le_s rfl (le_o (le_s rfl (le_s rfl (le_o (le_s rfl le_n)))))))))))
      · skip
        refine W_ite (fun h16 => ?_) (fun h16 => ?_)
        · refine W_s (s_if_le_t dX12_waits_65 rfl ((lgc_le (((v10_11 : Int32).toInt64) * v5_5) v3_4).mpr h16)) ?_
          refine W_s (s_lload_n dX12_waits_77 rfl rfl) ?_
          exact W_wk (hJ15 v3_4 μ12) (le_o (le_s rfl (le_s rfl (le_s rfl (le_o (le_s rfl (le_o (le_s rfl (le_o (le_o (le_s rfl le_n)))))))))))
        · refine W_s (s_if_le_f dX12_waits_65 rfl (fun hc => h16 ((lgc_le (((v10_11 : Int32).toInt64) * v5_5) v3_4).mp hc))) ?_
          refine W_s (s_iload dX12_waits_68 rfl) ?_
          refine W_s (s_i2l dX12_waits_70) ?_
          refine W_s (s_lload dX12_waits_71 rfl) ?_
          refine W_s (s_lmul dX12_waits_73) ?_
          refine W_s (s_goto dX12_waits_74 rfl) ?_
          exact W_wk (hJ15 (((v10_11 : Int32).toInt64) * v5_5) μ12) (le_o (le_s rfl (le_s rfl (le_s rfl (le_o (le_s rfl (le_o (le_s rfl (le_o (le_o (le_s rfl le_n)))))))))))
theorem okL_X12_waits_36 {E : gx_E} {l : Launch} {p1 : Int32} {p2 : Int32} {k8 : Int64 → Int64 → gx_M → Option (Int64 × gx_M)} (hk : ∀ (w25 : Int64) (w26 : Int64) (μ27 : gx_M), GoW E l Y_X12_waits 2 gx_eL 104 [none, none, some (.int p2), some (.long w25), none, some (.long w26)] [] μ27 (k8 w25 w26 μ27)) : ∀ (n : Nat) (v3_4 : Int64) (v5_5 : Int64) (v7_6 : Int32) (μ7 : gx_M), GoW E l Y_X12_waits 2 gx_eL 36 [none, some (.int p1), some (.int p2), some (.long v3_4), none, some (.long v5_5), none, some (.int v7_6)] [] μ7 (L_X12_waits_36 p1 k8 n v3_4 v5_5 v7_6 μ7) := by
  intro n
  induction n with
  | zero => intros; exact W_no
  | succ n ih =>
    intro v3_4 v5_5 v7_6 μ7
    rw [L_X12_waits_36.eq_2]
    refine W_s (s_iload dX12_waits_36 rfl) ?_
    refine W_s (s_iload_n dX12_waits_38 rfl rfl) ?_
    refine W_ite (fun h9 => ?_) (fun h9 => ?_)
    · refine W_s (s_icmp_ge_t dX12_waits_39 rfl h9) ?_
      exact W_wk (hk v3_4 v5_5 μ7) (le_o (le_o (le_s rfl (le_s rfl (le_o (le_s rfl le_n))))))
    · refine W_s (s_icmp_ge_f dX12_waits_39 rfl h9) ?_
      refine W_s (s_lconst dX12_waits_42 kcl_0) ?_
      refine W_s (s_lstore dX12_waits_43 (Nat.le_of_ble_eq_true rfl)) ?_
      refine W_s (s_iconst dX12_waits_45 kci_0) ?_
      refine W_s (s_istore dX12_waits_46 (Nat.le_of_ble_eq_true rfl)) ?_
      refine W_wk (okL_X12_waits_48 ?_ 4000 0 0 μ7) (le_o (le_s rfl (le_s rfl (le_s rfl (le_o (le_s rfl (le_o (le_s rfl (le_s rfl (le_o (le_s rfl le_n)))))))))))
      intro x8_22 μ23
      refine W_s (s_lload dX12_waits_87 rfl) ?_
      refine W_s (s_lstore_n dX12_waits_89 rfl (Nat.le_of_ble_eq_true rfl)) ?_
      refine W_s (s_lload dX12_waits_90 rfl) ?_
      refine W_s (s_ldc2 dX12_waits_92 kw_RX12_450) ?_
      refine W_s (s_lmul dX12_waits_95) ?_
      refine W_letL (fun x24 => ?_)
      refine W_s (s_lstore dX12_waits_96 (Nat.le_of_ble_eq_true rfl)) ?_
      refine W_s (s_iinc dX12_waits_98 rfl (kinc_1 v7_6) (Nat.le_of_ble_eq_true rfl)) ?_
      refine W_s (s_goto dX12_waits_101 rfl) ?_
      exact W_wk (ih x8_22 x24 (v7_6 + 1) μ23) (le_o (le_s rfl (le_s rfl (le_s rfl (le_o (le_s rfl (le_o (le_s rfl le_n))))))))
theorem okL_X12_waits_139 {E : gx_E} {l : Launch} {x5_29 : Int64} {x3_28 : Int64} {p2 : Int32} {k35 : Int64 → gx_M → Option (Int64 × gx_M)} (hk : ∀ (w42 : Int64) (μ43 : gx_M), GoW E l Y_X12_waits 2 gx_eL 178 [none, none, some (.int p2), none, none, some (.long x5_29), none, some (.long w42)] [] μ43 (k35 w42 μ43)) : ∀ (n : Nat) (v7_32 : Int64) (v9_33 : Int32) (μ34 : gx_M), GoW E l Y_X12_waits 2 gx_eL 139 [none, none, some (.int p2), some (.long x3_28), none, some (.long x5_29), none, some (.long v7_32), none, some (.int v9_33)] [] μ34 (L_X12_waits_139 x5_29 x3_28 k35 n v7_32 v9_33 μ34) := by
  intro n
  induction n with
  | zero => intros; exact W_no
  | succ n ih =>
    intro v7_32 v9_33 μ34
    rw [L_X12_waits_139.eq_2]
    refine W_s (s_iload dX12_waits_139 rfl) ?_
    refine W_s (s_bipush dX12_waits_141 kcb_10) ?_
    refine W_ite (fun h36 => ?_) (fun h36 => ?_)
    · refine W_s (s_icmp_ge_t dX12_waits_143 rfl h36) ?_
      exact W_wk (hk v7_32 μ34) (le_o (le_o (le_s rfl (le_o (le_o (le_s rfl (le_o (le_s rfl le_n))))))))
    · refine W_s (s_icmp_ge_f dX12_waits_143 rfl h36) ?_
      refine W_s (s_lload dX12_waits_146 rfl) ?_
      refine W_s (s_iload dX12_waits_148 rfl) ?_
      refine W_s (s_i2l dX12_waits_150) ?_
      refine W_s (s_lload dX12_waits_151 rfl) ?_
      refine W_s (s_lmul dX12_waits_153) ?_
      refine W_s (s_lload_n dX12_waits_154 rfl rfl) ?_
      refine W_s (s_lcmp dX12_waits_155) ?_
      refine W_fun (fun J => ∀ (j0_39 : Int64) (μ40 : gx_M), GoW E l Y_X12_waits 2 gx_eL 169 [none, none, some (.int p2), some (.long x3_28), none, some (.long x5_29), none, none, none, some (.int v9_33)] [.long j0_39, .long v7_32] μ40 (J j0_39 μ40)) ?_ (fun J37 hJ37 => ?_)
      · intro j0_39 μ40
        refine W_s (s_ladd dX12_waits_169) ?_
        refine W_letL (fun x41 => ?_)
        refine W_s (s_lstore dX12_waits_170 (Nat.le_of_ble_eq_true rfl)) ?_
        refine W_s (s_iinc dX12_waits_172 rfl (kinc_1 v9_33) (Nat.le_of_ble_eq_true rfl)) ?_
        refine W_s (s_goto dX12_waits_175 rfl) ?_
        exact W_wk (ih x41 (v9_33 + 1) μ40) (le_o (le_o (le_s rfl (le_s rfl (le_o (le_s rfl (le_o (le_s rfl (le_o (le_s rfl le_n))))))))))
      · skip
        refine W_ite (fun h38 => ?_) (fun h38 => ?_)
        · refine W_s (s_if_le_t dX12_waits_156 rfl ((lgc_le (((v9_33 : Int32).toInt64) * x5_29) x3_28).mpr h38)) ?_
          refine W_s (s_lload_n dX12_waits_168 rfl rfl) ?_
          exact W_wk (hJ37 x3_28 μ34) (le_o (le_o (le_s rfl (le_s rfl (le_o (le_s rfl (le_o (le_o (le_o (le_s rfl le_n))))))))))
        · refine W_s (s_if_le_f dX12_waits_156 rfl (fun hc => h38 ((lgc_le (((v9_33 : Int32).toInt64) * x5_29) x3_28).mp hc))) ?_
          refine W_s (s_iload dX12_waits_159 rfl) ?_
          refine W_s (s_i2l dX12_waits_161) ?_
          refine W_s (s_lload dX12_waits_162 rfl) ?_
          refine W_s (s_lmul dX12_waits_164) ?_
          refine W_s (s_goto dX12_waits_165 rfl) ?_
          exact W_wk (hJ37 (((v9_33 : Int32).toInt64) * x5_29) μ34) (le_o (le_o (le_s rfl (le_s rfl (le_o (le_s rfl (le_o (le_o (le_o (le_s rfl le_n))))))))))
theorem okL_X12_waits_112 {E : gx_E} {l : Launch} {x3_28 : Int64} {x5_29 : Int64} {k53 : Int32 → gx_M → Option (Int64 × gx_M)} (hk : ∀ (w55 : Int32) (μ56 : gx_M), GoW E l Y_X12_waits 2 gx_eL 129 [none, none, none, none, none, none, none, some (.int w55)] [] μ56 (k53 w55 μ56)) : ∀ (n : Nat) (v7_51 : Int32) (μ52 : gx_M), GoW E l Y_X12_waits 2 gx_eL 112 [none, none, none, some (.long x3_28), none, some (.long x5_29), none, some (.int v7_51)] [] μ52 (L_X12_waits_112 x3_28 x5_29 k53 n v7_51 μ52) := by
  intro n
  induction n with
  | zero => intros; exact W_no
  | succ n ih =>
    intro v7_51 μ52
    rw [L_X12_waits_112.eq_2]
    refine W_s (s_iload dX12_waits_112 rfl) ?_
    refine W_s (s_i2l dX12_waits_114) ?_
    refine W_s (s_lload dX12_waits_115 rfl) ?_
    refine W_s (s_lmul dX12_waits_117) ?_
    refine W_s (s_lload_n dX12_waits_118 rfl rfl) ?_
    refine W_s (s_lcmp dX12_waits_119) ?_
    refine W_ite (fun h54 => ?_) (fun h54 => ?_)
    · refine W_s (s_if_ge_t dX12_waits_120 rfl ((lgc_ge (((v7_51 : Int32).toInt64) * x5_29) x3_28).mpr h54)) ?_
      exact W_wk (hk v7_51 μ52) (le_o (le_o (le_o (le_o (le_o (le_o (le_o (le_s rfl le_n))))))))
    · refine W_s (s_if_ge_f dX12_waits_120 rfl (fun hc => h54 ((lgc_ge (((v7_51 : Int32).toInt64) * x5_29) x3_28).mp hc))) ?_
      refine W_s (s_iinc dX12_waits_123 rfl (kinc_1 v7_51) (Nat.le_of_ble_eq_true rfl)) ?_
      refine W_s (s_goto dX12_waits_126 rfl) ?_
      exact W_wk (ih (v7_51 + 1) μ52) (le_o (le_o (le_o (le_s rfl (le_o (le_s rfl (le_o (le_s rfl le_n))))))))
theorem ev_X12_waits {E : gx_E} {l : Launch} (p1 : Int32) (p2 : Int32) (μ : gx_M) {r : Int64} {μ' : gx_M} (hr : f_X12_waits p1 p2 μ = some (r, μ')) : gEv E l 2 Y_X12_waits [.ref (E.2.2.1 + 206), .int p1, .int p2] gx_G1 μ (gx_eL r) gx_G1 μ' := by
  refine W_ev (by decide) (Nat.le_of_ble_eq_true rfl) (em := gx_eL) (T := f_X12_waits p1 p2 μ) ?_ hr
  show GoW E l Y_X12_waits 2 gx_eL 0 (gx_el [.ref (E.2.2.1 + 206), .int p1, .int p2]) [] μ (f_X12_waits p1 p2 μ)
  unfold f_X12_waits
  refine W_s (s_aload_n dX12_waits_0 rfl rfl) ?_
  refine W_s (s_iconst dX12_waits_1 kci_0) ?_
  refine W_s (pf_RX12_100 rfl dX12_waits_2) ?_
  refine W_letM (fun μ1 => ?_)
  refine W_s (s_iload_n dX12_waits_5 rfl rfl) ?_
  refine W_s (s_iconst dX12_waits_6 kci_1) ?_
  refine W_s (s_bipush dX12_waits_7 kcb_9) ?_
  refine W_s (s_callS (As := [.int _, .int _, .int _]) dX12_waits_9 Lk_RX12_112 rfl (Nat.le_of_ble_eq_true rfl) (Nat.le_of_ble_eq_true rfl) (ev_X12_in p1 1 9 μ1)) ?_
  refine W_ite (fun h2 => ?_) (fun h2 => ?_)
  · refine W_s (s_if_eq_f dX12_waits_12 rfl (gx_bt h2)) ?_
    refine W_s (s_iload_n dX12_waits_15 rfl rfl) ?_
    refine W_s (s_iconst dX12_waits_16 kci_0) ?_
    refine W_s (s_iconst dX12_waits_17 kci_2) ?_
    refine W_s (s_callS (As := [.int _, .int _, .int _]) dX12_waits_18 Lk_RX12_112 rfl (Nat.le_of_ble_eq_true rfl) (Nat.le_of_ble_eq_true rfl) (ev_X12_in p2 0 2 μ1)) ?_
    refine W_ite (fun h3 => ?_) (fun h3 => ?_)
    · refine W_s (s_if_ne_t dX12_waits_21 rfl (gx_bt h3)) ?_
      refine W_s (s_lconst dX12_waits_28 kcl_0) ?_
      refine W_s (s_lstore_n dX12_waits_29 rfl (Nat.le_of_ble_eq_true rfl)) ?_
      refine W_s (s_lconst dX12_waits_30 kcl_1) ?_
      refine W_s (s_lstore dX12_waits_31 (Nat.le_of_ble_eq_true rfl)) ?_
      refine W_s (s_iconst dX12_waits_33 kci_1) ?_
      refine W_s (s_istore dX12_waits_34 (Nat.le_of_ble_eq_true rfl)) ?_
      refine W_wk (okL_X12_waits_36 ?_ 4000 0 1 1 μ1) (le_o (le_s rfl (le_s rfl (le_s rfl (le_o (le_s rfl (le_o (le_s rfl le_n))))))))
      intro x3_28 x5_29 μ30
      refine W_s (s_iload_n dX12_waits_104 rfl rfl) ?_
      refine W_s (s_iconst dX12_waits_105 kci_2) ?_
      refine W_ite (fun h31 => ?_) (fun h31 => ?_)
      · refine W_s (s_icmp_ne_f dX12_waits_106 rfl h31) ?_
        refine W_s (s_iconst dX12_waits_109 kci_0) ?_
        refine W_s (s_istore dX12_waits_110 (Nat.le_of_ble_eq_true rfl)) ?_
        refine W_wk (okL_X12_waits_112 ?_ 4000 0 μ30) (le_o (le_o (le_o (le_s rfl (le_o (le_s rfl (le_o (le_s rfl le_n))))))))
        intro x7_57 μ58
        refine W_s (s_iload dX12_waits_129 rfl) ?_
        refine W_s (s_i2l dX12_waits_131) ?_
        exact W_r (r := (x7_57 : Int32).toInt64) (f_long dX12_waits_132 rfl)
      · refine W_s (s_icmp_ne_t dX12_waits_106 rfl h31) ?_
        refine W_s (s_lconst dX12_waits_133 kcl_0) ?_
        refine W_s (s_lstore dX12_waits_134 (Nat.le_of_ble_eq_true rfl)) ?_
        refine W_s (s_iconst dX12_waits_136 kci_0) ?_
        refine W_s (s_istore dX12_waits_137 (Nat.le_of_ble_eq_true rfl)) ?_
        refine W_wk (okL_X12_waits_139 ?_ 4000 0 0 μ30) (le_o (le_o (le_s rfl (le_s rfl (le_o (le_s rfl (le_o (le_s rfl (le_o (le_s rfl le_n))))))))))
        intro x7_44 μ45
        refine W_s (s_lload dX12_waits_178 rfl) ?_
        refine W_s (s_ldc2 dX12_waits_180 kw_RX12_450) ?_
        refine W_s (s_lload dX12_waits_183 rfl) ?_
        refine W_s (s_lmul dX12_waits_185) ?_
        refine W_s (s_iload_n dX12_waits_186 rfl rfl) ?_
        refine W_s (s_iconst dX12_waits_187 kci_1) ?_
        refine W_fun (fun J => ∀ (j0_48 : Bool) (μ49 : gx_M), GoW E l Y_X12_waits 2 gx_eL 196 [] [.int (gx_bi j0_48), .long ((10 : Int64) * x5_29), .long x7_44] μ49 (J j0_48 μ49)) ?_ (fun J46 hJ46 => ?_)
        · intro j0_48 μ49
          refine W_br (ec := gx_eL) (fun r_ hr_ => s_callS (As := [.long _, .long _, .int _]) dX12_waits_196 Lk_RX12_460 rfl (Nat.le_of_ble_eq_true rfl) (Nat.le_of_ble_eq_true rfl) (ev_X12_part x7_44 ((10 : Int64) * x5_29) j0_48 μ49 hr_)) (fun r50 => ?_)
          exact W_r (r := r50) (f_long dX12_waits_199 rfl)
        · skip
          refine W_ite (fun h47 => ?_) (fun h47 => ?_)
          · refine W_s (s_icmp_ne_f dX12_waits_188 rfl h47) ?_
            refine W_s (s_iconst dX12_waits_191 kci_1) ?_
            refine W_s (s_goto dX12_waits_192 rfl) ?_
            exact W_wk (hJ46 true μ45) le_n
          · refine W_s (s_icmp_ne_t dX12_waits_188 rfl h47) ?_
            refine W_s (s_iconst dX12_waits_195 kci_0) ?_
            exact W_wk (hJ46 false μ45) le_n
    · refine W_s (s_if_ne_f dX12_waits_21 rfl (gx_bf h3)) ?_
      refine W_s (s_ldc2 dX12_waits_24 kw_RX12_419) ?_
      exact W_r (r := (-1)) (f_long dX12_waits_27 rfl)
  · refine W_s (s_if_eq_t dX12_waits_12 rfl (gx_bf h2)) ?_
    refine W_s (s_ldc2 dX12_waits_24 kw_RX12_419) ?_
    exact W_r (r := (-1)) (f_long dX12_waits_27 rfl)

def L_X12_layLog_50 (v2_5 : Int32) (k16 : Bool → gx_M → Option (Bool × gx_M)) : Nat → Bool → Int32 → gx_M → Option (Bool × gx_M)
  | 0, _, _, _ => none
  | n + 1, v3_13, v4_14, μ15 => gx_br (f_X12_facts μ15) (fun (r17 : Int32) => if r17 ≤ v4_14 then k16 v3_13 μ15 else if v3_13 = true then gx_br (f_X12_factOf v4_14 1 μ15) (fun (r20 : Int32) => gx_br (f_X12_factOf v4_14 0 μ15) (fun (r21 : Int32) => gx_lt (fun (j0_24 : Bool) (μ25 : gx_M) => gx_lt (fun (j0_28 : Bool) (μ29 : gx_M) => L_X12_layLog_50 v2_5 k16 n j0_28 (v4_14 + 1) μ29) (fun J26 => if (gx_bi (f_X12_in r20 (v2_5 / 40) (v2_5 - v2_5 / 40 * 40))) = (gx_bi j0_24) then J26 true μ25 else J26 false μ25)) (fun J22 => if r21 = 1 then J22 true μ15 else J22 false μ15))) else k16 v3_13 μ15)
def L_X12_layLog_23 (k7 : gx_M → Option (Bool × gx_M)) : Nat → Int32 → gx_M → Option (Bool × gx_M)
  | 0, _, _ => none
  | n + 1, v2_5, μ6 => if 1600 ≤ v2_5 then k7 μ6 else gx_lt (fun (j0_11 : Bool) (μ12 : gx_M) => L_X12_layLog_50 v2_5 (fun (x3_32 : Bool) (μ33 : gx_M) => gx_lt (fun (μ39 : gx_M) => L_X12_layLog_23 k7 n (v2_5 + 1) μ39) (fun J34 => if x3_32 = true then gx_ck (gx_ix (μ33.1 206 48) 820 = true) (gx_lt (gx_uI μ33 231 (μ33.1 206 48).toNatClampNeg v2_5) (fun (μ37 : gx_M) => gx_lt (gx_uI μ37 206 48 ((μ37.1 206 48) + 1)) (fun (μ38 : gx_M) => J34 μ38))) else J34 μ33)) 4000 j0_11 0 μ12) (fun J9 => if (v2_5 - v2_5 / 40 * 40) < (v2_5 / 40) then J9 false μ6 else J9 true μ6)
def f_X12_layLog (p1 : Int32) (μ : gx_M) : Option (Bool × gx_M) := gx_lt (gx_uI μ 206 46 p1) (fun (μ1 : gx_M) => gx_br (f_X12_is 2 p1 μ1) (fun (r2 : Bool) => if r2 = true then gx_lt (gx_uI μ1 206 48 0) (fun (μ4 : gx_M) => L_X12_layLog_23 (fun (μ41 : gx_M) => some (true, μ41)) 4000 0 μ4) else some (false, μ1)))
theorem okL_X12_layLog_50 {E : gx_E} {l : Launch} {v2_5 : Int32} {k16 : Bool → gx_M → Option (Bool × gx_M)} (hk : ∀ (w30 : Bool) (μ31 : gx_M), GoW E l Y_X12_layLog 2 gx_eB 112 [some (.ref (E.2.2.1 + 206)), none, some (.int v2_5), some (.int (gx_bi w30))] [] μ31 (k16 w30 μ31)) : ∀ (n : Nat) (v3_13 : Bool) (v4_14 : Int32) (μ15 : gx_M), GoW E l Y_X12_layLog 2 gx_eB 50 [some (.ref (E.2.2.1 + 206)), none, some (.int v2_5), some (.int (gx_bi v3_13)), some (.int v4_14)] [] μ15 (L_X12_layLog_50 v2_5 k16 n v3_13 v4_14 μ15) := by
  intro n
  induction n with
  | zero => intros; exact W_no
  | succ n ih =>
    intro v3_13 v4_14 μ15
    rw [L_X12_layLog_50.eq_2]
    refine W_s (s_iload dX12_layLog_50 rfl) ?_
    refine W_s (s_aload_n dX12_layLog_52 rfl rfl) ?_
    refine W_br (ec := gx_eI) (fun r_ hr_ => s_callV (As := []) dX12_layLog_53 Lk_RX12_470 rfl g_206 (by decide) rfl (Nat.le_of_ble_eq_true rfl) (Nat.le_of_ble_eq_true rfl) (ev_X12_facts μ15 hr_)) (fun r17 => ?_)
    refine W_ite (fun h18 => ?_) (fun h18 => ?_)
    · refine W_s (s_icmp_ge_t dX12_layLog_56 rfl h18) ?_
      exact W_wk (hk v3_13 μ15) (le_s rfl (le_o (le_s rfl (le_s rfl le_n))))
    · refine W_s (s_icmp_ge_f dX12_layLog_56 rfl h18) ?_
      refine W_s (s_iload_n dX12_layLog_59 rfl rfl) ?_
      refine W_ite (fun h19 => ?_) (fun h19 => ?_)
      · refine W_s (s_if_eq_f dX12_layLog_60 rfl (gx_bt h19)) ?_
        refine W_s (s_aload_n dX12_layLog_63 rfl rfl) ?_
        refine W_s (s_iload dX12_layLog_64 rfl) ?_
        refine W_s (s_iconst dX12_layLog_66 kci_1) ?_
        refine W_br (ec := gx_eI) (fun r_ hr_ => s_callV (As := [.int _, .int _]) dX12_layLog_67 Lk_RX12_473 rfl g_206 (by decide) rfl (Nat.le_of_ble_eq_true rfl) (Nat.le_of_ble_eq_true rfl) (ev_X12_factOf v4_14 1 μ15 hr_)) (fun r20 => ?_)
        refine W_s (s_iload_n dX12_layLog_70 rfl rfl) ?_
        refine W_s (s_bipush dX12_layLog_71 kcb_40) ?_
        refine W_s (s_idiv dX12_layLog_73 (by decide)) ?_
        refine W_s (s_iload_n dX12_layLog_74 rfl rfl) ?_
        refine W_s (s_bipush dX12_layLog_75 kcb_40) ?_
        refine W_s (s_irem dX12_layLog_77 (by decide)) ?_
        refine W_s (s_callS (As := [.int _, .int _, .int _]) dX12_layLog_78 Lk_RX12_112 rfl (Nat.le_of_ble_eq_true rfl) (Nat.le_of_ble_eq_true rfl) (ev_X12_in r20 (v2_5 / 40) (v2_5 - v2_5 / 40 * 40) μ15)) ?_
        refine W_s (s_aload_n dX12_layLog_81 rfl rfl) ?_
        refine W_s (s_iload dX12_layLog_82 rfl) ?_
        refine W_s (s_iconst dX12_layLog_84 kci_0) ?_
        refine W_br (ec := gx_eI) (fun r_ hr_ => s_callV (As := [.int _, .int _]) dX12_layLog_85 Lk_RX12_473 rfl g_206 (by decide) rfl (Nat.le_of_ble_eq_true rfl) (Nat.le_of_ble_eq_true rfl) (ev_X12_factOf v4_14 0 μ15 hr_)) (fun r21 => ?_)
        refine W_s (s_iconst dX12_layLog_88 kci_1) ?_
        refine W_fun (fun J => ∀ (j0_24 : Bool) (μ25 : gx_M), GoW E l Y_X12_layLog 2 gx_eB 97 [some (.ref (E.2.2.1 + 206)), none, some (.int v2_5), none, some (.int v4_14)] [.int (gx_bi j0_24), .int (gx_bi (f_X12_in r20 (v2_5 / 40) (v2_5 - v2_5 / 40 * 40)))] μ25 (J j0_24 μ25)) ?_ (fun J22 hJ22 => ?_)
        · intro j0_24 μ25
          refine W_fun (fun J => ∀ (j0_28 : Bool) (μ29 : gx_M), GoW E l Y_X12_layLog 2 gx_eB 105 [some (.ref (E.2.2.1 + 206)), none, some (.int v2_5), none, some (.int v4_14)] [.int (gx_bi j0_28)] μ29 (J j0_28 μ29)) ?_ (fun J26 hJ26 => ?_)
          · intro j0_28 μ29
            refine W_s (s_istore_n dX12_layLog_105 rfl (Nat.le_of_ble_eq_true rfl)) ?_
            refine W_s (s_iinc dX12_layLog_106 rfl (kinc_1 v4_14) (Nat.le_of_ble_eq_true rfl)) ?_
            refine W_s (s_goto dX12_layLog_109 rfl) ?_
            exact W_wk (ih j0_28 (v4_14 + 1) μ29) (le_s rfl (le_o (le_s rfl (le_s rfl (le_s rfl le_n)))))
          · skip
            refine W_ite (fun h27 => ?_) (fun h27 => ?_)
            · refine W_s (s_icmp_ne_f dX12_layLog_97 rfl h27) ?_
              refine W_s (s_iconst dX12_layLog_100 kci_1) ?_
              refine W_s (s_goto dX12_layLog_101 rfl) ?_
              exact W_wk (hJ26 true μ25) (le_s rfl (le_o (le_s rfl (le_o (le_s rfl le_n)))))
            · refine W_s (s_icmp_ne_t dX12_layLog_97 rfl h27) ?_
              refine W_s (s_iconst dX12_layLog_104 kci_0) ?_
              exact W_wk (hJ26 false μ25) (le_s rfl (le_o (le_s rfl (le_o (le_s rfl le_n)))))
        · skip
          refine W_ite (fun h23 => ?_) (fun h23 => ?_)
          · refine W_s (s_icmp_ne_f dX12_layLog_89 rfl h23) ?_
            refine W_s (s_iconst dX12_layLog_92 kci_1) ?_
            refine W_s (s_goto dX12_layLog_93 rfl) ?_
            exact W_wk (hJ22 true μ15) (le_s rfl (le_o (le_s rfl (le_o (le_s rfl le_n)))))
          · refine W_s (s_icmp_ne_t dX12_layLog_89 rfl h23) ?_
            refine W_s (s_iconst dX12_layLog_96 kci_0) ?_
            exact W_wk (hJ22 false μ15) (le_s rfl (le_o (le_s rfl (le_o (le_s rfl le_n)))))
      · refine W_s (s_if_eq_t dX12_layLog_60 rfl (gx_bf h19)) ?_
        exact W_wk (hk v3_13 μ15) (le_s rfl (le_o (le_s rfl (le_s rfl le_n))))
theorem okL_X12_layLog_23 {E : gx_E} {l : Launch} {k7 : gx_M → Option (Bool × gx_M)} (hk : ∀ (μ40 : gx_M), GoW E l Y_X12_layLog 2 gx_eB 142 [] [] μ40 (k7 μ40)) : ∀ (n : Nat) (v2_5 : Int32) (μ6 : gx_M), GoW E l Y_X12_layLog 2 gx_eB 23 [some (.ref (E.2.2.1 + 206)), none, some (.int v2_5)] [] μ6 (L_X12_layLog_23 k7 n v2_5 μ6) := by
  intro n
  induction n with
  | zero => intros; exact W_no
  | succ n ih =>
    intro v2_5 μ6
    rw [L_X12_layLog_23.eq_2]
    refine W_s (s_iload_n dX12_layLog_23 rfl rfl) ?_
    refine W_s (s_sipush dX12_layLog_24 kcs_1600) ?_
    refine W_ite (fun h8 => ?_) (fun h8 => ?_)
    · refine W_s (s_icmp_ge_t dX12_layLog_27 rfl h8) ?_
      exact W_wk (hk μ6) le_n
    · refine W_s (s_icmp_ge_f dX12_layLog_27 rfl h8) ?_
      refine W_s (s_iload_n dX12_layLog_30 rfl rfl) ?_
      refine W_s (s_bipush dX12_layLog_31 kcb_40) ?_
      refine W_s (s_idiv dX12_layLog_33 (by decide)) ?_
      refine W_s (s_iload_n dX12_layLog_34 rfl rfl) ?_
      refine W_s (s_bipush dX12_layLog_35 kcb_40) ?_
      refine W_s (s_irem dX12_layLog_37 (by decide)) ?_
      refine W_fun (fun J => ∀ (j0_11 : Bool) (μ12 : gx_M), GoW E l Y_X12_layLog 2 gx_eB 46 [some (.ref (E.2.2.1 + 206)), none, some (.int v2_5)] [.int (gx_bi j0_11)] μ12 (J j0_11 μ12)) ?_ (fun J9 hJ9 => ?_)
      · intro j0_11 μ12
        refine W_s (s_istore_n dX12_layLog_46 rfl (Nat.le_of_ble_eq_true rfl)) ?_
        refine W_s (s_iconst dX12_layLog_47 kci_0) ?_
        refine W_s (s_istore dX12_layLog_48 (Nat.le_of_ble_eq_true rfl)) ?_
        refine W_wk (okL_X12_layLog_50 ?_ 4000 j0_11 0 μ12) (le_s rfl (le_o (le_s rfl (le_s rfl (le_s rfl le_n)))))
        intro x3_32 μ33
        refine W_s (s_iload_n dX12_layLog_112 rfl rfl) ?_
        refine W_fun (fun J => ∀ (μ39 : gx_M), GoW E l Y_X12_layLog 2 gx_eB 136 [some (.ref (E.2.2.1 + 206)), none, some (.int v2_5)] [] μ39 (J μ39)) ?_ (fun J34 hJ34 => ?_)
        · intro μ39
          refine W_s (s_iinc dX12_layLog_136 rfl (kinc_1 v2_5) (Nat.le_of_ble_eq_true rfl)) ?_
          refine W_s (s_goto dX12_layLog_139 rfl) ?_
          exact W_wk (ih (v2_5 + 1) μ39) (le_s rfl (le_o (le_s rfl le_n)))
        · skip
          refine W_ite (fun h35 => ?_) (fun h35 => ?_)
          · refine W_s (s_if_eq_f dX12_layLog_113 rfl (gx_bt h35)) ?_
            refine W_s (s_aload_n dX12_layLog_116 rfl rfl) ?_
            refine W_s (gf_RX12_85 rfl dX12_layLog_117) ?_
            refine W_s (s_aload_n dX12_layLog_120 rfl rfl) ?_
            refine W_s (gf_RX12_467 rfl dX12_layLog_121) ?_
            refine W_s (s_iload_n dX12_layLog_124 rfl rfl) ?_
            refine W_ck (fun h36 => ?_)
            refine W_s (s_iast dX12_layLog_125 g_231 (gx_ixv h36)) ?_
            refine W_letM (fun μ37 => ?_)
            refine W_s (s_aload_n dX12_layLog_126 rfl rfl) ?_
            refine W_s (s_dup dX12_layLog_127 rfl) ?_
            refine W_s (gf_RX12_467 rfl dX12_layLog_128) ?_
            refine W_s (s_iconst dX12_layLog_131 kci_1) ?_
            refine W_s (s_iadd dX12_layLog_132) ?_
            refine W_s (pf_RX12_467 rfl dX12_layLog_133) ?_
            refine W_letM (fun μ38 => ?_)
            exact W_wk (hJ34 μ38) (le_s rfl (le_o (le_s rfl le_n)))
          · refine W_s (s_if_eq_t dX12_layLog_113 rfl (gx_bf h35)) ?_
            exact W_wk (hJ34 μ33) (le_s rfl (le_o (le_s rfl le_n)))
      · skip
        refine W_ite (fun h10 => ?_) (fun h10 => ?_)
        · refine W_s (s_icmp_gt_t dX12_layLog_38 rfl h10) ?_
          refine W_s (s_iconst dX12_layLog_45 kci_0) ?_
          exact W_wk (hJ9 false μ6) (le_s rfl (le_o (le_s rfl le_n)))
        · refine W_s (s_icmp_gt_f dX12_layLog_38 rfl h10) ?_
          refine W_s (s_iconst dX12_layLog_41 kci_1) ?_
          refine W_s (s_goto dX12_layLog_42 rfl) ?_
          exact W_wk (hJ9 true μ6) (le_s rfl (le_o (le_s rfl le_n)))
theorem ev_X12_layLog {E : gx_E} {l : Launch} (p1 : Int32) (μ : gx_M) {r : Bool} {μ' : gx_M} (hr : f_X12_layLog p1 μ = some (r, μ')) : gEv E l 2 Y_X12_layLog [.ref (E.2.2.1 + 206), .int p1] gx_G1 μ (gx_eB r) gx_G1 μ' := by
  refine W_ev (by decide) (Nat.le_of_ble_eq_true rfl) (em := gx_eB) (T := f_X12_layLog p1 μ) ?_ hr
  show GoW E l Y_X12_layLog 2 gx_eB 0 (gx_el [.ref (E.2.2.1 + 206), .int p1]) [] μ (f_X12_layLog p1 μ)
  unfold f_X12_layLog
  refine W_s (s_aload_n dX12_layLog_0 rfl rfl) ?_
  refine W_s (s_iload_n dX12_layLog_1 rfl rfl) ?_
  refine W_s (pf_RX12_464 rfl dX12_layLog_2) ?_
  refine W_letM (fun μ1 => ?_)
  refine W_s (s_aload_n dX12_layLog_5 rfl rfl) ?_
  refine W_s (s_iconst dX12_layLog_6 kci_2) ?_
  refine W_s (s_iload_n dX12_layLog_7 rfl rfl) ?_
  refine W_br (ec := gx_eB) (fun r_ hr_ => s_callV (As := [.int _, .int _]) dX12_layLog_8 Lk_RX12_267 rfl g_206 (by decide) rfl (Nat.le_of_ble_eq_true rfl) (Nat.le_of_ble_eq_true rfl) (ev_X12_is 2 p1 μ1 hr_)) (fun r2 => ?_)
  refine W_ite (fun h3 => ?_) (fun h3 => ?_)
  · refine W_s (s_if_ne_t dX12_layLog_11 rfl (gx_bt h3)) ?_
    refine W_s (s_aload_n dX12_layLog_16 rfl rfl) ?_
    refine W_s (s_iconst dX12_layLog_17 kci_0) ?_
    refine W_s (pf_RX12_467 rfl dX12_layLog_18) ?_
    refine W_letM (fun μ4 => ?_)
    refine W_s (s_iconst dX12_layLog_21 kci_0) ?_
    refine W_s (s_istore_n dX12_layLog_22 rfl (Nat.le_of_ble_eq_true rfl)) ?_
    refine W_wk (okL_X12_layLog_23 ?_ 4000 0 μ4) (le_s rfl (le_o (le_s rfl le_n)))
    intro μ41
    refine W_s (s_iconst dX12_layLog_142 kci_1) ?_
    exact W_r (r := true) (f_int (ty := .boolean) (x := gx_bi true) dX12_layLog_143 rfl (gx_bn true))
  · refine W_s (s_if_ne_f dX12_layLog_11 rfl (gx_bf h3)) ?_
    refine W_s (s_iconst dX12_layLog_14 kci_0) ?_
    exact W_r (r := false) (f_int (ty := .boolean) (x := gx_bi false) dX12_layLog_15 rfl (gx_bn false))

def f_X12_fact (p1 : Int32) (p2 : Int32) (p3 : Int32) (μ : gx_M) : Option (Int32 × gx_M) := gx_lt (gx_uI μ 206 0 0) (fun (μ1 : gx_M) => gx_lt (gx_uI μ1 206 46 p1) (fun (μ2 : gx_M) => gx_br (f_X12_is 2 p1 μ2) (fun (r3 : Bool) => if r3 = true then if p2 = (-1) then if p3 = 0 then gx_br (f_X12_facts μ2) (fun (r11 : Int32) => some (r11, μ2)) else some ((-2), μ2) else gx_br (f_X12_facts μ2) (fun (r6 : Int32) => if (f_X12_in p2 0 (r6 - 1)) = true then if (f_X12_in p3 0 1) = true then gx_br (f_X12_factOf p2 p3 μ2) (fun (r9 : Int32) => some (r9, μ2)) else some ((-2), μ2) else some ((-2), μ2)) else some ((-2), μ2))))
theorem ev_X12_fact {E : gx_E} {l : Launch} (p1 : Int32) (p2 : Int32) (p3 : Int32) (μ : gx_M) {r : Int32} {μ' : gx_M} (hr : f_X12_fact p1 p2 p3 μ = some (r, μ')) : gEv E l 2 Y_X12_fact [.ref (E.2.2.1 + 206), .int p1, .int p2, .int p3] gx_G1 μ (gx_eI r) gx_G1 μ' := by
  refine W_ev (by decide) (Nat.le_of_ble_eq_true rfl) (em := gx_eI) (T := f_X12_fact p1 p2 p3 μ) ?_ hr
  show GoW E l Y_X12_fact 2 gx_eI 0 (gx_el [.ref (E.2.2.1 + 206), .int p1, .int p2, .int p3]) [] μ (f_X12_fact p1 p2 p3 μ)
  unfold f_X12_fact
  refine W_s (s_aload_n dX12_fact_0 rfl rfl) ?_
  refine W_s (s_iconst dX12_fact_1 kci_0) ?_
  refine W_s (pf_RX12_100 rfl dX12_fact_2) ?_
  refine W_letM (fun μ1 => ?_)
  refine W_s (s_aload_n dX12_fact_5 rfl rfl) ?_
  refine W_s (s_iload_n dX12_fact_6 rfl rfl) ?_
  refine W_s (pf_RX12_464 rfl dX12_fact_7) ?_
  refine W_letM (fun μ2 => ?_)
  refine W_s (s_aload_n dX12_fact_10 rfl rfl) ?_
  refine W_s (s_iconst dX12_fact_11 kci_2) ?_
  refine W_s (s_iload_n dX12_fact_12 rfl rfl) ?_
  refine W_br (ec := gx_eB) (fun r_ hr_ => s_callV (As := [.int _, .int _]) dX12_fact_13 Lk_RX12_267 rfl g_206 (by decide) rfl (Nat.le_of_ble_eq_true rfl) (Nat.le_of_ble_eq_true rfl) (ev_X12_is 2 p1 μ2 hr_)) (fun r3 => ?_)
  refine W_ite (fun h4 => ?_) (fun h4 => ?_)
  · refine W_s (s_if_ne_t dX12_fact_16 rfl (gx_bt h4)) ?_
    refine W_s (s_iload_n dX12_fact_22 rfl rfl) ?_
    refine W_s (s_iconst dX12_fact_23 kci_m1) ?_
    refine W_ite (fun h5 => ?_) (fun h5 => ?_)
    · refine W_s (s_icmp_ne_f dX12_fact_24 rfl h5) ?_
      refine W_s (s_iload_n dX12_fact_27 rfl rfl) ?_
      refine W_ite (fun h10 => ?_) (fun h10 => ?_)
      · refine W_s (s_if_ne_f dX12_fact_28 rfl h10) ?_
        refine W_s (s_aload_n dX12_fact_31 rfl rfl) ?_
        refine W_br (ec := gx_eI) (fun r_ hr_ => s_callV (As := []) dX12_fact_32 Lk_RX12_470 rfl g_206 (by decide) rfl (Nat.le_of_ble_eq_true rfl) (Nat.le_of_ble_eq_true rfl) (ev_X12_facts μ2 hr_)) (fun r11 => ?_)
        refine W_s (s_goto dX12_fact_35 rfl) ?_
        exact W_r (r := r11) (f_int (ty := .int) dX12_fact_40 rfl rfl)
      · refine W_s (s_if_ne_t dX12_fact_28 rfl h10) ?_
        refine W_s (s_bipush dX12_fact_38 kcb_m2) ?_
        exact W_r (r := (-2)) (f_int (ty := .int) dX12_fact_40 rfl rfl)
    · refine W_s (s_icmp_ne_t dX12_fact_24 rfl h5) ?_
      refine W_s (s_iload_n dX12_fact_41 rfl rfl) ?_
      refine W_s (s_iconst dX12_fact_42 kci_0) ?_
      refine W_s (s_aload_n dX12_fact_43 rfl rfl) ?_
      refine W_br (ec := gx_eI) (fun r_ hr_ => s_callV (As := []) dX12_fact_44 Lk_RX12_470 rfl g_206 (by decide) rfl (Nat.le_of_ble_eq_true rfl) (Nat.le_of_ble_eq_true rfl) (ev_X12_facts μ2 hr_)) (fun r6 => ?_)
      refine W_s (s_iconst dX12_fact_47 kci_1) ?_
      refine W_s (s_isub dX12_fact_48) ?_
      refine W_s (s_callS (As := [.int _, .int _, .int _]) dX12_fact_49 Lk_RX12_112 rfl (Nat.le_of_ble_eq_true rfl) (Nat.le_of_ble_eq_true rfl) (ev_X12_in p2 0 (r6 - 1) μ2)) ?_
      refine W_ite (fun h7 => ?_) (fun h7 => ?_)
      · refine W_s (s_if_eq_f dX12_fact_52 rfl (gx_bt h7)) ?_
        refine W_s (s_iload_n dX12_fact_55 rfl rfl) ?_
        refine W_s (s_iconst dX12_fact_56 kci_0) ?_
        refine W_s (s_iconst dX12_fact_57 kci_1) ?_
        refine W_s (s_callS (As := [.int _, .int _, .int _]) dX12_fact_58 Lk_RX12_112 rfl (Nat.le_of_ble_eq_true rfl) (Nat.le_of_ble_eq_true rfl) (ev_X12_in p3 0 1 μ2)) ?_
        refine W_ite (fun h8 => ?_) (fun h8 => ?_)
        · refine W_s (s_if_eq_f dX12_fact_61 rfl (gx_bt h8)) ?_
          refine W_s (s_aload_n dX12_fact_64 rfl rfl) ?_
          refine W_s (s_iload_n dX12_fact_65 rfl rfl) ?_
          refine W_s (s_iload_n dX12_fact_66 rfl rfl) ?_
          refine W_br (ec := gx_eI) (fun r_ hr_ => s_callV (As := [.int _, .int _]) dX12_fact_67 Lk_RX12_473 rfl g_206 (by decide) rfl (Nat.le_of_ble_eq_true rfl) (Nat.le_of_ble_eq_true rfl) (ev_X12_factOf p2 p3 μ2 hr_)) (fun r9 => ?_)
          refine W_s (s_goto dX12_fact_70 rfl) ?_
          exact W_r (r := r9) (f_int (ty := .int) dX12_fact_75 rfl rfl)
        · refine W_s (s_if_eq_t dX12_fact_61 rfl (gx_bf h8)) ?_
          refine W_s (s_bipush dX12_fact_73 kcb_m2) ?_
          exact W_r (r := (-2)) (f_int (ty := .int) dX12_fact_75 rfl rfl)
      · refine W_s (s_if_eq_t dX12_fact_52 rfl (gx_bf h7)) ?_
        refine W_s (s_bipush dX12_fact_73 kcb_m2) ?_
        exact W_r (r := (-2)) (f_int (ty := .int) dX12_fact_75 rfl rfl)
  · refine W_s (s_if_ne_f dX12_fact_16 rfl (gx_bf h4)) ?_
    refine W_s (s_bipush dX12_fact_19 kcb_m2) ?_
    exact W_r (r := (-2)) (f_int (ty := .int) dX12_fact_21 rfl rfl)

def L_X12_seek_8 (μ : gx_M) (k4 : Int32 → Option Int32) : Nat → Int32 → Int32 → Int32 → Option Int32
  | 0, _, _, _ => none
  | n + 1, v1_1, v2_2, v3_3 => if 40 ≤ v3_3 then k4 v1_1 else if (μ.1 206 48) ≤ 0 then k4 v1_1 else gx_br (f_X12_among v3_3 μ) (fun (r7 : Int32) => gx_lt (f_X12_greater r7 ((μ.1 206 48) - r7)) (fun (x8 : Int32) => gx_lt (fun (j0_11 : Int32) => gx_lt (f_X12_lesser v2_2 x8) (fun (x12 : Int32) => L_X12_seek_8 μ k4 n j0_11 x12 (v3_3 + 1))) (fun J9 => if v2_2 ≤ x8 then J9 v1_1 else J9 v3_3)))
def f_X12_seek (μ : gx_M) : Option Int32 := L_X12_seek_8 μ (fun (x1_14 : Int32) => some x1_14) 4000 (-1) 1000000 0
theorem okL_X12_seek_8 {E : gx_E} {l : Launch} {μ : gx_M} {k4 : Int32 → Option Int32} (hk : ∀ (w13 : Int32), GoR E l Y_X12_seek 2 gx_eI 67 [none, some (.int w13)] [] μ (k4 w13)) : ∀ (n : Nat) (v1_1 : Int32) (v2_2 : Int32) (v3_3 : Int32), GoR E l Y_X12_seek 2 gx_eI 8 [some (.ref (E.2.2.1 + 206)), some (.int v1_1), some (.int v2_2), some (.int v3_3)] [] μ (L_X12_seek_8 μ k4 n v1_1 v2_2 v3_3) := by
  intro n
  induction n with
  | zero => intros; exact R_no
  | succ n ih =>
    intro v1_1 v2_2 v3_3
    rw [L_X12_seek_8.eq_2]
    refine R_s (s_iload_n dX12_seek_8 rfl rfl) ?_
    refine R_s (s_bipush dX12_seek_9 kcb_40) ?_
    refine R_ite (fun h5 => ?_) (fun h5 => ?_)
    · refine R_s (s_icmp_ge_t dX12_seek_11 rfl h5) ?_
      exact R_wk (hk v1_1) (le_o (le_s rfl le_n))
    · refine R_s (s_icmp_ge_f dX12_seek_11 rfl h5) ?_
      refine R_s (s_aload_n dX12_seek_14 rfl rfl) ?_
      refine R_s (gf_RX12_467 rfl dX12_seek_15) ?_
      refine R_ite (fun h6 => ?_) (fun h6 => ?_)
      · refine R_s (s_if_le_t dX12_seek_18 rfl h6) ?_
        exact R_wk (hk v1_1) (le_o (le_s rfl le_n))
      · refine R_s (s_if_le_f dX12_seek_18 rfl h6) ?_
        refine R_s (s_aload_n dX12_seek_21 rfl rfl) ?_
        refine R_s (s_iload_n dX12_seek_22 rfl rfl) ?_
        refine R_br (ec := gx_eI) (fun r_ hr_ => s_callV (As := [.int _]) dX12_seek_23 Lk_RX12_476 rfl g_206 (by decide) rfl (Nat.le_of_ble_eq_true rfl) (Nat.le_of_ble_eq_true rfl) (ev_X12_among v3_3 μ hr_)) (fun r7 => ?_)
        refine R_s (s_istore dX12_seek_26 (Nat.le_of_ble_eq_true rfl)) ?_
        refine R_s (s_iload dX12_seek_28 rfl) ?_
        refine R_s (s_aload_n dX12_seek_30 rfl rfl) ?_
        refine R_s (gf_RX12_467 rfl dX12_seek_31) ?_
        refine R_s (s_iload dX12_seek_34 rfl) ?_
        refine R_s (s_isub dX12_seek_36) ?_
        refine R_s (s_callS (As := [.int _, .int _]) dX12_seek_37 Lk_RX12_173 rfl (Nat.le_of_ble_eq_true rfl) (Nat.le_of_ble_eq_true rfl) (ev_X12_greater r7 ((μ.1 206 48) - r7) μ)) ?_
        refine R_letI (fun x8 => ?_)
        refine R_s (s_istore dX12_seek_40 (Nat.le_of_ble_eq_true rfl)) ?_
        refine R_s (s_iload dX12_seek_42 rfl) ?_
        refine R_s (s_iload_n dX12_seek_44 rfl rfl) ?_
        refine R_fun (fun J => ∀ (j0_11 : Int32), GoR E l Y_X12_seek 2 gx_eI 53 [some (.ref (E.2.2.1 + 206)), none, some (.int v2_2), some (.int v3_3), none, some (.int x8)] [.int j0_11] μ (J j0_11)) ?_ (fun J9 hJ9 => ?_)
        · intro j0_11
          refine R_s (s_istore_n dX12_seek_53 rfl (Nat.le_of_ble_eq_true rfl)) ?_
          refine R_s (s_iload_n dX12_seek_54 rfl rfl) ?_
          refine R_s (s_iload dX12_seek_55 rfl) ?_
          refine R_s (s_callS (As := [.int _, .int _]) dX12_seek_57 Lk_RX12_375 rfl (Nat.le_of_ble_eq_true rfl) (Nat.le_of_ble_eq_true rfl) (ev_X12_lesser v2_2 x8 μ)) ?_
          refine R_letI (fun x12 => ?_)
          refine R_s (s_istore_n dX12_seek_60 rfl (Nat.le_of_ble_eq_true rfl)) ?_
          refine R_s (s_iinc dX12_seek_61 rfl (kinc_1 v3_3) (Nat.le_of_ble_eq_true rfl)) ?_
          refine R_s (s_goto dX12_seek_64 rfl) ?_
          exact R_wk (ih j0_11 x12 (v3_3 + 1)) (le_s rfl (le_s rfl (le_s rfl (le_s rfl le_n))))
        · skip
          refine R_ite (fun h10 => ?_) (fun h10 => ?_)
          · refine R_s (s_icmp_ge_t dX12_seek_45 rfl h10) ?_
            refine R_s (s_iload_n dX12_seek_52 rfl rfl) ?_
            exact R_wk (hJ9 v1_1) (le_s rfl (le_o (le_s rfl (le_s rfl (le_o (le_s rfl le_n))))))
          · refine R_s (s_icmp_ge_f dX12_seek_45 rfl h10) ?_
            refine R_s (s_iload_n dX12_seek_48 rfl rfl) ?_
            refine R_s (s_goto dX12_seek_49 rfl) ?_
            exact R_wk (hJ9 v3_3) (le_s rfl (le_o (le_s rfl (le_s rfl (le_o (le_s rfl le_n))))))
theorem ev_X12_seek {E : gx_E} {l : Launch} (μ : gx_M) {r : Int32} (hr : f_X12_seek μ = some r) : gEv E l 2 Y_X12_seek [.ref (E.2.2.1 + 206)] gx_G1 μ (gx_eI r) gx_G1 μ := by
  refine R_ev (by decide) (Nat.le_of_ble_eq_true rfl) (em := gx_eI) (T := f_X12_seek μ) ?_ hr
  show GoR E l Y_X12_seek 2 gx_eI 0 (gx_el [.ref (E.2.2.1 + 206)]) [] μ (f_X12_seek μ)
  unfold f_X12_seek
  refine R_s (s_iconst dX12_seek_0 kci_m1) ?_
  refine R_s (s_istore_n dX12_seek_1 rfl (Nat.le_of_ble_eq_true rfl)) ?_
  refine R_s (s_ldcw dX12_seek_2 kw_RX12_371) ?_
  refine R_s (s_istore_n dX12_seek_5 rfl (Nat.le_of_ble_eq_true rfl)) ?_
  refine R_s (s_iconst dX12_seek_6 kci_0) ?_
  refine R_s (s_istore_n dX12_seek_7 rfl (Nat.le_of_ble_eq_true rfl)) ?_
  refine R_wk (okL_X12_seek_8 ?_ 4000 (-1) 1000000 0) (le_s rfl (le_s rfl (le_s rfl (le_s rfl le_n))))
  intro x1_14
  refine R_s (s_iload_n dX12_seek_67 rfl rfl) ?_
  exact R_r (r := x1_14) (f_int (ty := .int) dX12_seek_68 rfl rfl)

def L_X12_goRound_2 (k3 : gx_M → Option (Int32 × gx_M)) : Nat → Int32 → gx_M → Option (Int32 × gx_M)
  | 0, _, _ => none
  | n + 1, v1_1, μ2 => if (μ2.1 206 50) ≤ v1_1 then k3 μ2 else gx_ck (gx_ix v1_1 6 = true) (gx_lt (fun (j0_9 : Int32) (μ10 : gx_M) => gx_lt (gx_uI μ10 234 v1_1.toNatClampNeg j0_9) (fun (μ11 : gx_M) => L_X12_goRound_2 k3 n (v1_1 + 1) μ11)) (fun J6 => if (μ2.1 233 v1_1.toNatClampNeg) = (-1) then gx_br (f_X12_pointOf v1_1 μ2) (fun (r8 : Int32) => J6 r8 μ2) else J6 (-1) μ2))
def L_X12_goRound_45 (k17 : Int32 → gx_M → Option (Int32 × gx_M)) : Nat → Int32 → Int32 → gx_M → Option (Int32 × gx_M)
  | 0, _, _, _ => none
  | n + 1, v1_14, v2_15, μ16 => if (μ16.1 206 50) ≤ v2_15 then k17 v1_14 μ16 else gx_ck (gx_ix v2_15 6 = true) (gx_lt (fun (j0_25 : Int32) (μ26 : gx_M) => L_X12_goRound_45 k17 n j0_25 (v2_15 + 1) μ26) (fun J20 => if (μ16.1 234 v2_15.toNatClampNeg) = (-1) then J20 v1_14 μ16 else gx_br (f_X12_isInRing v2_15 μ16) (fun (r22 : Bool) => if r22 = true then gx_lt (gx_uI μ16 232 v2_15.toNatClampNeg (μ16.1 234 v2_15.toNatClampNeg)) (fun (μ24 : gx_M) => J20 (v1_14 + 1) μ24) else J20 v1_14 μ16)))
def L_X12_goRound_94 (k33 : gx_M → Option (Int32 × gx_M)) : Nat → Int32 → gx_M → Option (Int32 × gx_M)
  | 0, _, _ => none
  | n + 1, v2_31, μ32 => if (μ32.1 206 50) ≤ v2_31 then k33 μ32 else gx_ck (gx_ix v2_31 6 = true) (gx_lt (fun (j0_42 : Int32) (μ43 : gx_M) => gx_lt (gx_uI μ43 233 v2_31.toNatClampNeg j0_42) (fun (μ44 : gx_M) => L_X12_goRound_94 k33 n (v2_31 + 1) μ44)) (fun J36 => gx_lt (fun (μ41 : gx_M) => J36 (μ41.1 233 v2_31.toNatClampNeg) μ41) (fun J37 => if (μ32.1 234 v2_31.toNatClampNeg) = (-1) then J37 μ32 else gx_br (f_X12_isInRing v2_31 μ32) (fun (r39 : Bool) => if r39 = true then J36 (μ32.1 206 51) μ32 else J37 μ32))))
def f_X12_goRound (μ : gx_M) : Option (Int32 × gx_M) := L_X12_goRound_2 (fun (μ13 : gx_M) => L_X12_goRound_45 (fun (x1_29 : Int32) (μ30 : gx_M) => L_X12_goRound_94 (fun (μ46 : gx_M) => some (x1_29, μ46)) 4000 0 μ30) 4000 0 0 μ13) 4000 0 μ
theorem okL_X12_goRound_2 {E : gx_E} {l : Launch} {k3 : gx_M → Option (Int32 × gx_M)} (hk : ∀ (μ12 : gx_M), GoW E l Y_X12_goRound 2 gx_eI 41 [some (.ref (E.2.2.1 + 206))] [] μ12 (k3 μ12)) : ∀ (n : Nat) (v1_1 : Int32) (μ2 : gx_M), GoW E l Y_X12_goRound 2 gx_eI 2 [some (.ref (E.2.2.1 + 206)), some (.int v1_1)] [] μ2 (L_X12_goRound_2 k3 n v1_1 μ2) := by
  intro n
  induction n with
  | zero => intros; exact W_no
  | succ n ih =>
    intro v1_1 μ2
    rw [L_X12_goRound_2.eq_2]
    refine W_s (s_iload_n dX12_goRound_2 rfl rfl) ?_
    refine W_s (s_aload_n dX12_goRound_3 rfl rfl) ?_
    refine W_s (gf_RX12_492 rfl dX12_goRound_4) ?_
    refine W_ite (fun h4 => ?_) (fun h4 => ?_)
    · refine W_s (s_icmp_ge_t dX12_goRound_7 rfl h4) ?_
      exact W_wk (hk μ2) (le_s rfl le_n)
    · refine W_s (s_icmp_ge_f dX12_goRound_7 rfl h4) ?_
      refine W_s (s_aload_n dX12_goRound_10 rfl rfl) ?_
      refine W_s (gf_RX12_94 rfl dX12_goRound_11) ?_
      refine W_s (s_iload_n dX12_goRound_14 rfl rfl) ?_
      refine W_s (s_aload_n dX12_goRound_15 rfl rfl) ?_
      refine W_s (gf_RX12_91 rfl dX12_goRound_16) ?_
      refine W_s (s_iload_n dX12_goRound_19 rfl rfl) ?_
      refine W_ck (fun h5 => ?_)
      refine W_s (s_iald dX12_goRound_20 g_233 (gx_ixv h5)) ?_
      refine W_s (s_iconst dX12_goRound_21 kci_m1) ?_
      refine W_fun (fun J => ∀ (j0_9 : Int32) (μ10 : gx_M), GoW E l Y_X12_goRound 2 gx_eI 34 [some (.ref (E.2.2.1 + 206)), some (.int v1_1)] [.int j0_9, .int v1_1, .ref (E.2.2.1 + 234)] μ10 (J j0_9 μ10)) ?_ (fun J6 hJ6 => ?_)
      · intro j0_9 μ10
        refine W_s (s_iast dX12_goRound_34 g_234 (gx_ixv h5)) ?_
        refine W_letM (fun μ11 => ?_)
        refine W_s (s_iinc dX12_goRound_35 rfl (kinc_1 v1_1) (Nat.le_of_ble_eq_true rfl)) ?_
        refine W_s (s_goto dX12_goRound_38 rfl) ?_
        exact W_wk (ih (v1_1 + 1) μ11) (le_s rfl (le_s rfl le_n))
      · skip
        refine W_ite (fun h7 => ?_) (fun h7 => ?_)
        · refine W_s (s_icmp_ne_f dX12_goRound_22 rfl h7) ?_
          refine W_s (s_aload_n dX12_goRound_25 rfl rfl) ?_
          refine W_s (s_iload_n dX12_goRound_26 rfl rfl) ?_
          refine W_br (ec := gx_eI) (fun r_ hr_ => s_callV (As := [.int _]) dX12_goRound_27 Lk_RX12_504 rfl g_206 (by decide) rfl (Nat.le_of_ble_eq_true rfl) (Nat.le_of_ble_eq_true rfl) (ev_X12_pointOf v1_1 μ2 hr_)) (fun r8 => ?_)
          refine W_s (s_goto dX12_goRound_30 rfl) ?_
          exact W_wk (hJ6 r8 μ2) (le_s rfl (le_s rfl le_n))
        · refine W_s (s_icmp_ne_t dX12_goRound_22 rfl h7) ?_
          refine W_s (s_iconst dX12_goRound_33 kci_m1) ?_
          exact W_wk (hJ6 (-1) μ2) (le_s rfl (le_s rfl le_n))
theorem okL_X12_goRound_45 {E : gx_E} {l : Launch} {k17 : Int32 → gx_M → Option (Int32 × gx_M)} (hk : ∀ (w27 : Int32) (μ28 : gx_M), GoW E l Y_X12_goRound 2 gx_eI 92 [some (.ref (E.2.2.1 + 206)), some (.int w27)] [] μ28 (k17 w27 μ28)) : ∀ (n : Nat) (v1_14 : Int32) (v2_15 : Int32) (μ16 : gx_M), GoW E l Y_X12_goRound 2 gx_eI 45 [some (.ref (E.2.2.1 + 206)), some (.int v1_14), some (.int v2_15)] [] μ16 (L_X12_goRound_45 k17 n v1_14 v2_15 μ16) := by
  intro n
  induction n with
  | zero => intros; exact W_no
  | succ n ih =>
    intro v1_14 v2_15 μ16
    rw [L_X12_goRound_45.eq_2]
    refine W_s (s_iload_n dX12_goRound_45 rfl rfl) ?_
    refine W_s (s_aload_n dX12_goRound_46 rfl rfl) ?_
    refine W_s (gf_RX12_492 rfl dX12_goRound_47) ?_
    refine W_ite (fun h18 => ?_) (fun h18 => ?_)
    · refine W_s (s_icmp_ge_t dX12_goRound_50 rfl h18) ?_
      exact W_wk (hk v1_14 μ16) (le_s rfl (le_s rfl le_n))
    · refine W_s (s_icmp_ge_f dX12_goRound_50 rfl h18) ?_
      refine W_s (s_aload_n dX12_goRound_53 rfl rfl) ?_
      refine W_s (gf_RX12_94 rfl dX12_goRound_54) ?_
      refine W_s (s_iload_n dX12_goRound_57 rfl rfl) ?_
      refine W_ck (fun h19 => ?_)
      refine W_s (s_iald dX12_goRound_58 g_234 (gx_ixv h19)) ?_
      refine W_s (s_iconst dX12_goRound_59 kci_m1) ?_
      refine W_fun (fun J => ∀ (j0_25 : Int32) (μ26 : gx_M), GoW E l Y_X12_goRound 2 gx_eI 86 [some (.ref (E.2.2.1 + 206)), some (.int j0_25), some (.int v2_15)] [] μ26 (J j0_25 μ26)) ?_ (fun J20 hJ20 => ?_)
      · intro j0_25 μ26
        refine W_s (s_iinc dX12_goRound_86 rfl (kinc_1 v2_15) (Nat.le_of_ble_eq_true rfl)) ?_
        refine W_s (s_goto dX12_goRound_89 rfl) ?_
        exact W_wk (ih j0_25 (v2_15 + 1) μ26) (le_s rfl (le_s rfl (le_s rfl le_n)))
      · skip
        refine W_ite (fun h21 => ?_) (fun h21 => ?_)
        · refine W_s (s_icmp_eq_t dX12_goRound_60 rfl h21) ?_
          exact W_wk (hJ20 v1_14 μ16) (le_s rfl (le_s rfl (le_s rfl le_n)))
        · refine W_s (s_icmp_eq_f dX12_goRound_60 rfl h21) ?_
          refine W_s (s_aload_n dX12_goRound_63 rfl rfl) ?_
          refine W_s (s_iload_n dX12_goRound_64 rfl rfl) ?_
          refine W_br (ec := gx_eB) (fun r_ hr_ => s_callV (As := [.int _]) dX12_goRound_65 Lk_RX12_507 rfl g_206 (by decide) rfl (Nat.le_of_ble_eq_true rfl) (Nat.le_of_ble_eq_true rfl) (ev_X12_isInRing v2_15 μ16 hr_)) (fun r22 => ?_)
          refine W_ite (fun h23 => ?_) (fun h23 => ?_)
          · refine W_s (s_if_eq_f dX12_goRound_68 rfl (gx_bt h23)) ?_
            refine W_s (s_aload_n dX12_goRound_71 rfl rfl) ?_
            refine W_s (gf_RX12_88 rfl dX12_goRound_72) ?_
            refine W_s (s_iload_n dX12_goRound_75 rfl rfl) ?_
            refine W_s (s_aload_n dX12_goRound_76 rfl rfl) ?_
            refine W_s (gf_RX12_94 rfl dX12_goRound_77) ?_
            refine W_s (s_iload_n dX12_goRound_80 rfl rfl) ?_
            refine W_s (s_iald dX12_goRound_81 g_234 (gx_ixv h19)) ?_
            refine W_s (s_iast dX12_goRound_82 g_232 (gx_ixv h19)) ?_
            refine W_letM (fun μ24 => ?_)
            refine W_s (s_iinc dX12_goRound_83 rfl (kinc_1 v1_14) (Nat.le_of_ble_eq_true rfl)) ?_
            exact W_wk (hJ20 (v1_14 + 1) μ24) (le_s rfl (le_s rfl (le_s rfl le_n)))
          · refine W_s (s_if_eq_t dX12_goRound_68 rfl (gx_bf h23)) ?_
            exact W_wk (hJ20 v1_14 μ16) (le_s rfl (le_s rfl (le_s rfl le_n)))
theorem okL_X12_goRound_94 {E : gx_E} {l : Launch} {x1_29 : Int32} {k33 : gx_M → Option (Int32 × gx_M)} (hk : ∀ (μ45 : gx_M), GoW E l Y_X12_goRound 2 gx_eI 145 [none, some (.int x1_29)] [] μ45 (k33 μ45)) : ∀ (n : Nat) (v2_31 : Int32) (μ32 : gx_M), GoW E l Y_X12_goRound 2 gx_eI 94 [some (.ref (E.2.2.1 + 206)), some (.int x1_29), some (.int v2_31)] [] μ32 (L_X12_goRound_94 k33 n v2_31 μ32) := by
  intro n
  induction n with
  | zero => intros; exact W_no
  | succ n ih =>
    intro v2_31 μ32
    rw [L_X12_goRound_94.eq_2]
    refine W_s (s_iload_n dX12_goRound_94 rfl rfl) ?_
    refine W_s (s_aload_n dX12_goRound_95 rfl rfl) ?_
    refine W_s (gf_RX12_492 rfl dX12_goRound_96) ?_
    refine W_ite (fun h34 => ?_) (fun h34 => ?_)
    · refine W_s (s_icmp_ge_t dX12_goRound_99 rfl h34) ?_
      exact W_wk (hk μ32) (le_o (le_s rfl le_n))
    · refine W_s (s_icmp_ge_f dX12_goRound_99 rfl h34) ?_
      refine W_s (s_aload_n dX12_goRound_102 rfl rfl) ?_
      refine W_s (gf_RX12_91 rfl dX12_goRound_103) ?_
      refine W_s (s_iload_n dX12_goRound_106 rfl rfl) ?_
      refine W_s (s_aload_n dX12_goRound_107 rfl rfl) ?_
      refine W_s (gf_RX12_94 rfl dX12_goRound_108) ?_
      refine W_s (s_iload_n dX12_goRound_111 rfl rfl) ?_
      refine W_ck (fun h35 => ?_)
      refine W_s (s_iald dX12_goRound_112 g_234 (gx_ixv h35)) ?_
      refine W_s (s_iconst dX12_goRound_113 kci_m1) ?_
      refine W_fun (fun J => ∀ (j0_42 : Int32) (μ43 : gx_M), GoW E l Y_X12_goRound 2 gx_eI 138 [some (.ref (E.2.2.1 + 206)), some (.int x1_29), some (.int v2_31)] [.int j0_42, .int v2_31, .ref (E.2.2.1 + 233)] μ43 (J j0_42 μ43)) ?_ (fun J36 hJ36 => ?_)
      · intro j0_42 μ43
        refine W_s (s_iast dX12_goRound_138 g_233 (gx_ixv h35)) ?_
        refine W_letM (fun μ44 => ?_)
        refine W_s (s_iinc dX12_goRound_139 rfl (kinc_1 v2_31) (Nat.le_of_ble_eq_true rfl)) ?_
        refine W_s (s_goto dX12_goRound_142 rfl) ?_
        exact W_wk (ih (v2_31 + 1) μ44) (le_s rfl (le_s rfl (le_s rfl le_n)))
      · skip
        refine W_fun (fun J => ∀ (μ41 : gx_M), GoW E l Y_X12_goRound 2 gx_eI 132 [some (.ref (E.2.2.1 + 206)), some (.int x1_29), some (.int v2_31)] [.int v2_31, .ref (E.2.2.1 + 233)] μ41 (J μ41)) ?_ (fun J37 hJ37 => ?_)
        · intro μ41
          refine W_s (s_aload_n dX12_goRound_132 rfl rfl) ?_
          refine W_s (gf_RX12_91 rfl dX12_goRound_133) ?_
          refine W_s (s_iload_n dX12_goRound_136 rfl rfl) ?_
          refine W_s (s_iald dX12_goRound_137 g_233 (gx_ixv h35)) ?_
          exact W_wk (hJ36 (μ41.1 233 v2_31.toNatClampNeg) μ41) (le_s rfl (le_s rfl (le_s rfl le_n)))
        · skip
          refine W_ite (fun h38 => ?_) (fun h38 => ?_)
          · refine W_s (s_icmp_eq_t dX12_goRound_114 rfl h38) ?_
            exact W_wk (hJ37 μ32) (le_s rfl (le_s rfl (le_s rfl le_n)))
          · refine W_s (s_icmp_eq_f dX12_goRound_114 rfl h38) ?_
            refine W_s (s_aload_n dX12_goRound_117 rfl rfl) ?_
            refine W_s (s_iload_n dX12_goRound_118 rfl rfl) ?_
            refine W_br (ec := gx_eB) (fun r_ hr_ => s_callV (As := [.int _]) dX12_goRound_119 Lk_RX12_507 rfl g_206 (by decide) rfl (Nat.le_of_ble_eq_true rfl) (Nat.le_of_ble_eq_true rfl) (ev_X12_isInRing v2_31 μ32 hr_)) (fun r39 => ?_)
            refine W_ite (fun h40 => ?_) (fun h40 => ?_)
            · refine W_s (s_if_eq_f dX12_goRound_122 rfl (gx_bt h40)) ?_
              refine W_s (s_aload_n dX12_goRound_125 rfl rfl) ?_
              refine W_s (gf_RX12_495 rfl dX12_goRound_126) ?_
              refine W_s (s_goto dX12_goRound_129 rfl) ?_
              exact W_wk (hJ36 (μ32.1 206 51) μ32) (le_s rfl (le_s rfl (le_s rfl le_n)))
            · refine W_s (s_if_eq_t dX12_goRound_122 rfl (gx_bf h40)) ?_
              exact W_wk (hJ37 μ32) (le_s rfl (le_s rfl (le_s rfl le_n)))
theorem ev_X12_goRound {E : gx_E} {l : Launch} (μ : gx_M) {r : Int32} {μ' : gx_M} (hr : f_X12_goRound μ = some (r, μ')) : gEv E l 2 Y_X12_goRound [.ref (E.2.2.1 + 206)] gx_G1 μ (gx_eI r) gx_G1 μ' := by
  refine W_ev (by decide) (Nat.le_of_ble_eq_true rfl) (em := gx_eI) (T := f_X12_goRound μ) ?_ hr
  show GoW E l Y_X12_goRound 2 gx_eI 0 (gx_el [.ref (E.2.2.1 + 206)]) [] μ (f_X12_goRound μ)
  unfold f_X12_goRound
  refine W_s (s_iconst dX12_goRound_0 kci_0) ?_
  refine W_s (s_istore_n dX12_goRound_1 rfl (Nat.le_of_ble_eq_true rfl)) ?_
  refine W_wk (okL_X12_goRound_2 ?_ 4000 0 μ) (le_s rfl (le_s rfl le_n))
  intro μ13
  refine W_s (s_iconst dX12_goRound_41 kci_0) ?_
  refine W_s (s_istore_n dX12_goRound_42 rfl (Nat.le_of_ble_eq_true rfl)) ?_
  refine W_s (s_iconst dX12_goRound_43 kci_0) ?_
  refine W_s (s_istore_n dX12_goRound_44 rfl (Nat.le_of_ble_eq_true rfl)) ?_
  refine W_wk (okL_X12_goRound_45 ?_ 4000 0 0 μ13) (le_s rfl (le_s rfl (le_s rfl le_n)))
  intro x1_29 μ30
  refine W_s (s_iconst dX12_goRound_92 kci_0) ?_
  refine W_s (s_istore_n dX12_goRound_93 rfl (Nat.le_of_ble_eq_true rfl)) ?_
  refine W_wk (okL_X12_goRound_94 ?_ 4000 0 μ30) (le_s rfl (le_s rfl (le_s rfl le_n)))
  intro μ46
  refine W_s (s_iload_n dX12_goRound_145 rfl rfl) ?_
  exact W_r (r := x1_29) (f_int (ty := .int) dX12_goRound_146 rfl rfl)

def L_X12_enough_29 (p1 : Int32) (p2 : Int32) (k6 : gx_M → Option (Int32 × gx_M)) : Nat → Int32 → gx_M → Option (Int32 × gx_M)
  | 0, _, _ => none
  | n + 1, v3_4, μ5 => if 9 < v3_4 then k6 μ5 else gx_br (f_X12_leftBy v3_4 p1 p2 μ5) (fun (r8 : Int64) => gx_br (f_X12_power 10 v3_4 μ5) (fun (r9 : Int64) => if ((10 : Int64) * r8) < ((9 : Int64) * r9) then L_X12_enough_29 p1 p2 k6 n (v3_4 + 1) μ5 else some (v3_4, μ5)))
def f_X12_enough (p1 : Int32) (p2 : Int32) (μ : gx_M) : Option (Int32 × gx_M) := gx_lt (gx_uI μ 206 0 0) (fun (μ1 : gx_M) => if (f_X12_in p1 1 9) = true then if (f_X12_in p2 0 10) = true then L_X12_enough_29 p1 p2 (fun (μ12 : gx_M) => some ((-1), μ12)) 4000 0 μ1 else some ((-1), μ1) else some ((-1), μ1))
theorem okL_X12_enough_29 {E : gx_E} {l : Launch} {p1 : Int32} {p2 : Int32} {k6 : gx_M → Option (Int32 × gx_M)} (hk : ∀ (μ11 : gx_M), GoW E l Y_X12_enough 2 gx_eI 68 [] [] μ11 (k6 μ11)) : ∀ (n : Nat) (v3_4 : Int32) (μ5 : gx_M), GoW E l Y_X12_enough 2 gx_eI 29 [none, some (.int p1), some (.int p2), some (.int v3_4)] [] μ5 (L_X12_enough_29 p1 p2 k6 n v3_4 μ5) := by
  intro n
  induction n with
  | zero => intros; exact W_no
  | succ n ih =>
    intro v3_4 μ5
    rw [L_X12_enough_29.eq_2]
    refine W_s (s_iload_n dX12_enough_29 rfl rfl) ?_
    refine W_s (s_bipush dX12_enough_30 kcb_9) ?_
    refine W_ite (fun h7 => ?_) (fun h7 => ?_)
    · refine W_s (s_icmp_gt_t dX12_enough_32 rfl h7) ?_
      exact W_wk (hk μ5) le_n
    · refine W_s (s_icmp_gt_f dX12_enough_32 rfl h7) ?_
      refine W_s (s_ldc2 dX12_enough_35 kw_RX12_450) ?_
      refine W_s (s_iload_n dX12_enough_38 rfl rfl) ?_
      refine W_s (s_iload_n dX12_enough_39 rfl rfl) ?_
      refine W_s (s_iload_n dX12_enough_40 rfl rfl) ?_
      refine W_br (ec := gx_eL) (fun r_ hr_ => s_callS (As := [.int _, .int _, .int _]) dX12_enough_41 Lk_RX12_456 rfl (Nat.le_of_ble_eq_true rfl) (Nat.le_of_ble_eq_true rfl) (ev_X12_leftBy v3_4 p1 p2 μ5 hr_)) (fun r8 => ?_)
      refine W_s (s_lmul dX12_enough_44) ?_
      refine W_s (s_ldc2 dX12_enough_45 kw_RX12_533) ?_
      refine W_s (s_ldc2 dX12_enough_48 kw_RX12_450) ?_
      refine W_s (s_iload_n dX12_enough_51 rfl rfl) ?_
      refine W_br (ec := gx_eL) (fun r_ hr_ => s_callS (As := [.long _, .int _]) dX12_enough_52 Lk_RX12_452 rfl (Nat.le_of_ble_eq_true rfl) (Nat.le_of_ble_eq_true rfl) (ev_X12_power 10 v3_4 μ5 hr_)) (fun r9 => ?_)
      refine W_s (s_lmul dX12_enough_55) ?_
      refine W_s (s_lcmp dX12_enough_56) ?_
      refine W_ite (fun h10 => ?_) (fun h10 => ?_)
      · refine W_s (s_if_lt_t dX12_enough_57 rfl ((lgc_lt ((10 : Int64) * r8) ((9 : Int64) * r9)).mpr h10)) ?_
        refine W_s (s_iinc dX12_enough_62 rfl (kinc_1 v3_4) (Nat.le_of_ble_eq_true rfl)) ?_
        refine W_s (s_goto dX12_enough_65 rfl) ?_
        exact W_wk (ih (v3_4 + 1) μ5) (le_o (le_s rfl (le_s rfl (le_s rfl le_n))))
      · refine W_s (s_if_lt_f dX12_enough_57 rfl (fun hc => h10 ((lgc_lt ((10 : Int64) * r8) ((9 : Int64) * r9)).mp hc))) ?_
        refine W_s (s_iload_n dX12_enough_60 rfl rfl) ?_
        exact W_r (r := v3_4) (f_int (ty := .int) dX12_enough_61 rfl rfl)
theorem ev_X12_enough {E : gx_E} {l : Launch} (p1 : Int32) (p2 : Int32) (μ : gx_M) {r : Int32} {μ' : gx_M} (hr : f_X12_enough p1 p2 μ = some (r, μ')) : gEv E l 2 Y_X12_enough [.ref (E.2.2.1 + 206), .int p1, .int p2] gx_G1 μ (gx_eI r) gx_G1 μ' := by
  refine W_ev (by decide) (Nat.le_of_ble_eq_true rfl) (em := gx_eI) (T := f_X12_enough p1 p2 μ) ?_ hr
  show GoW E l Y_X12_enough 2 gx_eI 0 (gx_el [.ref (E.2.2.1 + 206), .int p1, .int p2]) [] μ (f_X12_enough p1 p2 μ)
  unfold f_X12_enough
  refine W_s (s_aload_n dX12_enough_0 rfl rfl) ?_
  refine W_s (s_iconst dX12_enough_1 kci_0) ?_
  refine W_s (pf_RX12_100 rfl dX12_enough_2) ?_
  refine W_letM (fun μ1 => ?_)
  refine W_s (s_iload_n dX12_enough_5 rfl rfl) ?_
  refine W_s (s_iconst dX12_enough_6 kci_1) ?_
  refine W_s (s_bipush dX12_enough_7 kcb_9) ?_
  refine W_s (s_callS (As := [.int _, .int _, .int _]) dX12_enough_9 Lk_RX12_112 rfl (Nat.le_of_ble_eq_true rfl) (Nat.le_of_ble_eq_true rfl) (ev_X12_in p1 1 9 μ1)) ?_
  refine W_ite (fun h2 => ?_) (fun h2 => ?_)
  · refine W_s (s_if_eq_f dX12_enough_12 rfl (gx_bt h2)) ?_
    refine W_s (s_iload_n dX12_enough_15 rfl rfl) ?_
    refine W_s (s_iconst dX12_enough_16 kci_0) ?_
    refine W_s (s_bipush dX12_enough_17 kcb_10) ?_
    refine W_s (s_callS (As := [.int _, .int _, .int _]) dX12_enough_19 Lk_RX12_112 rfl (Nat.le_of_ble_eq_true rfl) (Nat.le_of_ble_eq_true rfl) (ev_X12_in p2 0 10 μ1)) ?_
    refine W_ite (fun h3 => ?_) (fun h3 => ?_)
    · refine W_s (s_if_ne_t dX12_enough_22 rfl (gx_bt h3)) ?_
      refine W_s (s_iconst dX12_enough_27 kci_0) ?_
      refine W_s (s_istore_n dX12_enough_28 rfl (Nat.le_of_ble_eq_true rfl)) ?_
      refine W_wk (okL_X12_enough_29 ?_ 4000 0 μ1) (le_o (le_s rfl (le_s rfl (le_s rfl le_n))))
      intro μ12
      refine W_s (s_iconst dX12_enough_68 kci_m1) ?_
      exact W_r (r := (-1)) (f_int (ty := .int) dX12_enough_69 rfl rfl)
    · refine W_s (s_if_ne_f dX12_enough_22 rfl (gx_bf h3)) ?_
      refine W_s (s_iconst dX12_enough_25 kci_m1) ?_
      exact W_r (r := (-1)) (f_int (ty := .int) dX12_enough_26 rfl rfl)
  · refine W_s (s_if_eq_t dX12_enough_12 rfl (gx_bf h2)) ?_
    refine W_s (s_iconst dX12_enough_25 kci_m1) ?_
    exact W_r (r := (-1)) (f_int (ty := .int) dX12_enough_26 rfl rfl)

def f_X12_image (p1 : Int32) (μ : gx_M) : Option (Bool × gx_M) := gx_lt (gx_uI μ 206 0 0) (fun (μ1 : gx_M) => if (f_X12_in p1 0 2) = true then gx_bd (f_X12_copyAll 0 (p1 + 1) μ1) (fun (r3 : Unit) (μ4 : gx_M) => gx_ck (gx_ix p1 3 = true) (gx_lt (gx_uI μ4 235 p1.toNatClampNeg (gx_bi true)) (fun (μ6 : gx_M) => some (true, μ6)))) else some (false, μ1))
theorem ev_X12_image {E : gx_E} {l : Launch} (p1 : Int32) (μ : gx_M) {r : Bool} {μ' : gx_M} (hr : f_X12_image p1 μ = some (r, μ')) : gEv E l 2 Y_X12_image [.ref (E.2.2.1 + 206), .int p1] gx_G1 μ (gx_eB r) gx_G1 μ' := by
  refine W_ev (by decide) (Nat.le_of_ble_eq_true rfl) (em := gx_eB) (T := f_X12_image p1 μ) ?_ hr
  show GoW E l Y_X12_image 2 gx_eB 0 (gx_el [.ref (E.2.2.1 + 206), .int p1]) [] μ (f_X12_image p1 μ)
  unfold f_X12_image
  refine W_s (s_aload_n dX12_image_0 rfl rfl) ?_
  refine W_s (s_iconst dX12_image_1 kci_0) ?_
  refine W_s (pf_RX12_100 rfl dX12_image_2) ?_
  refine W_letM (fun μ1 => ?_)
  refine W_s (s_iload_n dX12_image_5 rfl rfl) ?_
  refine W_s (s_iconst dX12_image_6 kci_0) ?_
  refine W_s (s_iconst dX12_image_7 kci_2) ?_
  refine W_s (s_callS (As := [.int _, .int _, .int _]) dX12_image_8 Lk_RX12_112 rfl (Nat.le_of_ble_eq_true rfl) (Nat.le_of_ble_eq_true rfl) (ev_X12_in p1 0 2 μ1)) ?_
  refine W_ite (fun h2 => ?_) (fun h2 => ?_)
  · refine W_s (s_if_ne_t dX12_image_11 rfl (gx_bt h2)) ?_
    refine W_s (s_aload_n dX12_image_16 rfl rfl) ?_
    refine W_s (s_iconst dX12_image_17 kci_0) ?_
    refine W_s (s_iload_n dX12_image_18 rfl rfl) ?_
    refine W_s (s_iconst dX12_image_19 kci_1) ?_
    refine W_s (s_iadd dX12_image_20) ?_
    refine W_bd (ec := gx_eV) (fun r_ μ_ hr_ => s_callV (As := [.int _, .int _]) dX12_image_21 Lk_RX12_547 rfl g_206 (by decide) rfl (Nat.le_of_ble_eq_true rfl) (Nat.le_of_ble_eq_true rfl) (ev_X12_copyAll 0 (p1 + 1) μ1 hr_)) (fun r3 μ4 => ?_)
    refine W_s (s_aload_n dX12_image_24 rfl rfl) ?_
    refine W_s (gf_RX12_97 rfl dX12_image_25) ?_
    refine W_s (s_iload_n dX12_image_28 rfl rfl) ?_
    refine W_s (s_iconst dX12_image_29 kci_1) ?_
    refine W_ck (fun h5 => ?_)
    refine W_s (s_zastB (b := true) dX12_image_30 g_235 (gx_ixv h5)) ?_
    refine W_letM (fun μ6 => ?_)
    refine W_s (s_iconst dX12_image_31 kci_1) ?_
    exact W_r (r := true) (f_int (ty := .boolean) (x := gx_bi true) dX12_image_32 rfl (gx_bn true))
  · refine W_s (s_if_ne_f dX12_image_11 rfl (gx_bf h2)) ?_
    refine W_s (s_iconst dX12_image_14 kci_0) ?_
    exact W_r (r := false) (f_int (ty := .boolean) (x := gx_bi false) dX12_image_15 rfl (gx_bn false))

def f_X12_again (p1 : Int32) (μ : gx_M) : Option (Bool × gx_M) := gx_lt (gx_uI μ 206 0 0) (fun (μ1 : gx_M) => if (f_X12_in p1 0 2) = true then gx_ck (gx_ix p1 3 = true) (if (μ1.1 235 p1.toNatClampNeg) = 0 then some (false, μ1) else gx_bd (f_X12_copyAll (p1 + 1) 0 μ1) (fun (r5 : Unit) (μ6 : gx_M) => some (true, μ6))) else some (false, μ1))
theorem ev_X12_again {E : gx_E} {l : Launch} (p1 : Int32) (μ : gx_M) {r : Bool} {μ' : gx_M} (hr : f_X12_again p1 μ = some (r, μ')) : gEv E l 2 Y_X12_again [.ref (E.2.2.1 + 206), .int p1] gx_G1 μ (gx_eB r) gx_G1 μ' := by
  refine W_ev (by decide) (Nat.le_of_ble_eq_true rfl) (em := gx_eB) (T := f_X12_again p1 μ) ?_ hr
  show GoW E l Y_X12_again 2 gx_eB 0 (gx_el [.ref (E.2.2.1 + 206), .int p1]) [] μ (f_X12_again p1 μ)
  unfold f_X12_again
  refine W_s (s_aload_n dX12_again_0 rfl rfl) ?_
  refine W_s (s_iconst dX12_again_1 kci_0) ?_
  refine W_s (pf_RX12_100 rfl dX12_again_2) ?_
  refine W_letM (fun μ1 => ?_)
  refine W_s (s_iload_n dX12_again_5 rfl rfl) ?_
  refine W_s (s_iconst dX12_again_6 kci_0) ?_
  refine W_s (s_iconst dX12_again_7 kci_2) ?_
  refine W_s (s_callS (As := [.int _, .int _, .int _]) dX12_again_8 Lk_RX12_112 rfl (Nat.le_of_ble_eq_true rfl) (Nat.le_of_ble_eq_true rfl) (ev_X12_in p1 0 2 μ1)) ?_
  refine W_ite (fun h2 => ?_) (fun h2 => ?_)
  · refine W_s (s_if_eq_f dX12_again_11 rfl (gx_bt h2)) ?_
    refine W_s (s_aload_n dX12_again_14 rfl rfl) ?_
    refine W_s (gf_RX12_97 rfl dX12_again_15) ?_
    refine W_s (s_iload_n dX12_again_18 rfl rfl) ?_
    refine W_ck (fun h3 => ?_)
    refine W_s (s_zald dX12_again_19 g_235 (gx_ixv h3)) ?_
    refine W_ite (fun h4 => ?_) (fun h4 => ?_)
    · refine W_s (s_if_ne_f dX12_again_20 rfl h4) ?_
      refine W_s (s_iconst dX12_again_23 kci_0) ?_
      exact W_r (r := false) (f_int (ty := .boolean) (x := gx_bi false) dX12_again_24 rfl (gx_bn false))
    · refine W_s (s_if_ne_t dX12_again_20 rfl h4) ?_
      refine W_s (s_aload_n dX12_again_25 rfl rfl) ?_
      refine W_s (s_iload_n dX12_again_26 rfl rfl) ?_
      refine W_s (s_iconst dX12_again_27 kci_1) ?_
      refine W_s (s_iadd dX12_again_28) ?_
      refine W_s (s_iconst dX12_again_29 kci_0) ?_
      refine W_bd (ec := gx_eV) (fun r_ μ_ hr_ => s_callV (As := [.int _, .int _]) dX12_again_30 Lk_RX12_547 rfl g_206 (by decide) rfl (Nat.le_of_ble_eq_true rfl) (Nat.le_of_ble_eq_true rfl) (ev_X12_copyAll (p1 + 1) 0 μ1 hr_)) (fun r5 μ6 => ?_)
      refine W_s (s_iconst dX12_again_33 kci_1) ?_
      exact W_r (r := true) (f_int (ty := .boolean) (x := gx_bi true) dX12_again_34 rfl (gx_bn true))
  · refine W_s (s_if_eq_t dX12_again_11 rfl (gx_bf h2)) ?_
    refine W_s (s_iconst dX12_again_23 kci_0) ?_
    exact W_r (r := false) (f_int (ty := .boolean) (x := gx_bi false) dX12_again_24 rfl (gx_bn false))

def f_X12_takeMinute (p1 : Int32) (p2 : Int32) (μ : gx_M) : Option (Bool × gx_M) := gx_bd (f_X12_take p1 p2 39 μ) (fun (r1 : Bool) (μ2 : gx_M) => if r1 = true then gx_ck (gx_ix p1 5 = true) (gx_lt (gx_uI μ2 206 21 (f_X12_greater (μ2.1 206 21) (μ2.1 217 p1.toNatClampNeg))) (fun (μ5 : gx_M) => some (true, μ5))) else some (false, μ2))
theorem ev_X12_takeMinute {E : gx_E} {l : Launch} (p1 : Int32) (p2 : Int32) (μ : gx_M) {r : Bool} {μ' : gx_M} (hr : f_X12_takeMinute p1 p2 μ = some (r, μ')) : gEv E l 3 Y_X12_takeMinute [.ref (E.2.2.1 + 206), .int p1, .int p2] gx_G1 μ (gx_eB r) gx_G1 μ' := by
  refine W_ev (by decide) (Nat.le_of_ble_eq_true rfl) (em := gx_eB) (T := f_X12_takeMinute p1 p2 μ) ?_ hr
  show GoW E l Y_X12_takeMinute 3 gx_eB 0 (gx_el [.ref (E.2.2.1 + 206), .int p1, .int p2]) [] μ (f_X12_takeMinute p1 p2 μ)
  unfold f_X12_takeMinute
  refine W_s (s_aload_n dX12_takeMinute_0 rfl rfl) ?_
  refine W_s (s_iload_n dX12_takeMinute_1 rfl rfl) ?_
  refine W_s (s_iload_n dX12_takeMinute_2 rfl rfl) ?_
  refine W_s (s_bipush dX12_takeMinute_3 kcb_39) ?_
  refine W_bd (ec := gx_eB) (fun r_ μ_ hr_ => s_callV (As := [.int _, .int _, .int _]) dX12_takeMinute_5 Lk_RX12_167 rfl g_206 (by decide) rfl (Nat.le_of_ble_eq_true rfl) (Nat.le_of_ble_eq_true rfl) (ev_X12_take p1 p2 39 μ hr_)) (fun r1 μ2 => ?_)
  refine W_ite (fun h3 => ?_) (fun h3 => ?_)
  · refine W_s (s_if_ne_t dX12_takeMinute_8 rfl (gx_bt h3)) ?_
    refine W_s (s_aload_n dX12_takeMinute_13 rfl rfl) ?_
    refine W_s (s_aload_n dX12_takeMinute_14 rfl rfl) ?_
    refine W_s (gf_RX12_170 rfl dX12_takeMinute_15) ?_
    refine W_s (s_aload_n dX12_takeMinute_18 rfl rfl) ?_
    refine W_s (gf_RX12_41 rfl dX12_takeMinute_19) ?_
    refine W_s (s_iload_n dX12_takeMinute_22 rfl rfl) ?_
    refine W_ck (fun h4 => ?_)
    refine W_s (s_iald dX12_takeMinute_23 g_217 (gx_ixv h4)) ?_
    refine W_s (s_callS (As := [.int _, .int _]) dX12_takeMinute_24 Lk_RX12_173 rfl (Nat.le_of_ble_eq_true rfl) (Nat.le_of_ble_eq_true rfl) (ev_X12_greater (μ2.1 206 21) (μ2.1 217 p1.toNatClampNeg) μ2)) ?_
    refine W_s (pf_RX12_170 rfl dX12_takeMinute_27) ?_
    refine W_letM (fun μ5 => ?_)
    refine W_s (s_iconst dX12_takeMinute_30 kci_1) ?_
    exact W_r (r := true) (f_int (ty := .boolean) (x := gx_bi true) dX12_takeMinute_31 rfl (gx_bn true))
  · refine W_s (s_if_ne_f dX12_takeMinute_8 rfl (gx_bf h3)) ?_
    refine W_s (s_iconst dX12_takeMinute_11 kci_0) ?_
    exact W_r (r := false) (f_int (ty := .boolean) (x := gx_bi false) dX12_takeMinute_12 rfl (gx_bn false))

def f_X12_takeOne (p1 : Int32) (p2 : Int32) (μ : gx_M) : Option (Bool × gx_M) := gx_bd (f_X12_take p1 0 p2 μ) (fun (r1 : Bool) (μ2 : gx_M) => if r1 = true then gx_ck (gx_ix p1 5 = true) (gx_lt (gx_uI μ2 206 22 (f_X12_greater (μ2.1 206 22) (μ2.1 217 p1.toNatClampNeg))) (fun (μ5 : gx_M) => some (true, μ5))) else some (false, μ2))
theorem ev_X12_takeOne {E : gx_E} {l : Launch} (p1 : Int32) (p2 : Int32) (μ : gx_M) {r : Bool} {μ' : gx_M} (hr : f_X12_takeOne p1 p2 μ = some (r, μ')) : gEv E l 3 Y_X12_takeOne [.ref (E.2.2.1 + 206), .int p1, .int p2] gx_G1 μ (gx_eB r) gx_G1 μ' := by
  refine W_ev (by decide) (Nat.le_of_ble_eq_true rfl) (em := gx_eB) (T := f_X12_takeOne p1 p2 μ) ?_ hr
  show GoW E l Y_X12_takeOne 3 gx_eB 0 (gx_el [.ref (E.2.2.1 + 206), .int p1, .int p2]) [] μ (f_X12_takeOne p1 p2 μ)
  unfold f_X12_takeOne
  refine W_s (s_aload_n dX12_takeOne_0 rfl rfl) ?_
  refine W_s (s_iload_n dX12_takeOne_1 rfl rfl) ?_
  refine W_s (s_iconst dX12_takeOne_2 kci_0) ?_
  refine W_s (s_iload_n dX12_takeOne_3 rfl rfl) ?_
  refine W_bd (ec := gx_eB) (fun r_ μ_ hr_ => s_callV (As := [.int _, .int _, .int _]) dX12_takeOne_4 Lk_RX12_167 rfl g_206 (by decide) rfl (Nat.le_of_ble_eq_true rfl) (Nat.le_of_ble_eq_true rfl) (ev_X12_take p1 0 p2 μ hr_)) (fun r1 μ2 => ?_)
  refine W_ite (fun h3 => ?_) (fun h3 => ?_)
  · refine W_s (s_if_ne_t dX12_takeOne_7 rfl (gx_bt h3)) ?_
    refine W_s (s_aload_n dX12_takeOne_12 rfl rfl) ?_
    refine W_s (s_aload_n dX12_takeOne_13 rfl rfl) ?_
    refine W_s (gf_RX12_177 rfl dX12_takeOne_14) ?_
    refine W_s (s_aload_n dX12_takeOne_17 rfl rfl) ?_
    refine W_s (gf_RX12_41 rfl dX12_takeOne_18) ?_
    refine W_s (s_iload_n dX12_takeOne_21 rfl rfl) ?_
    refine W_ck (fun h4 => ?_)
    refine W_s (s_iald dX12_takeOne_22 g_217 (gx_ixv h4)) ?_
    refine W_s (s_callS (As := [.int _, .int _]) dX12_takeOne_23 Lk_RX12_173 rfl (Nat.le_of_ble_eq_true rfl) (Nat.le_of_ble_eq_true rfl) (ev_X12_greater (μ2.1 206 22) (μ2.1 217 p1.toNatClampNeg) μ2)) ?_
    refine W_s (pf_RX12_177 rfl dX12_takeOne_26) ?_
    refine W_letM (fun μ5 => ?_)
    refine W_s (s_iconst dX12_takeOne_29 kci_1) ?_
    exact W_r (r := true) (f_int (ty := .boolean) (x := gx_bi true) dX12_takeOne_30 rfl (gx_bn true))
  · refine W_s (s_if_ne_f dX12_takeOne_7 rfl (gx_bf h3)) ?_
    refine W_s (s_iconst dX12_takeOne_10 kci_0) ?_
    exact W_r (r := false) (f_int (ty := .boolean) (x := gx_bi false) dX12_takeOne_11 rfl (gx_bn false))

def f_X12_street (p1 : Int32) (p2 : Int32) (μ : gx_M) : Option (Int32 × gx_M) := gx_lt (gx_uI μ 206 0 0) (fun (μ1 : gx_M) => gx_bd (f_X12_hand p1 μ1) (fun (r2 : Bool) (μ3 : gx_M) => if r2 = true then gx_lt (p2 - p2 / 10 * 10) (fun (x5 : Int32) => if p2 < 100 then gx_lt (p2 / 10) (fun (t7 : Int32) => if t7 = 0 then if (f_X12_in p2 0 2) = true then gx_br (f_X12_of p2 μ3) (fun (r10 : Int32) => some (r10, μ3)) else some ((-2), μ3) else if t7 = 1 then if (μ3.1 206 26) ≤ x5 then some ((-2), μ3) else gx_ck (gx_ix x5 4 = true) (some ((μ3.1 218 x5.toNatClampNeg), μ3)) else if t7 = 2 then if (μ3.1 206 27) ≤ x5 then some ((-2), μ3) else gx_br (f_X12_of (((7 : Int32) + ((6 : Int32) * ((p2 / 10) - 2))) + x5) μ3) (fun (r16 : Int32) => some (r16, μ3)) else if t7 = 3 then if (μ3.1 206 27) ≤ x5 then some ((-2), μ3) else gx_br (f_X12_of (((7 : Int32) + ((6 : Int32) * ((p2 / 10) - 2))) + x5) μ3) (fun (r19 : Int32) => some (r19, μ3)) else if t7 = 4 then if (μ3.1 206 27) ≤ x5 then some ((-2), μ3) else gx_br (f_X12_of (((7 : Int32) + ((6 : Int32) * ((p2 / 10) - 2))) + x5) μ3) (fun (r22 : Int32) => some (r22, μ3)) else if t7 = 5 then if (μ3.1 206 27) ≤ x5 then some ((-2), μ3) else gx_br (f_X12_of (((7 : Int32) + ((6 : Int32) * ((p2 / 10) - 2))) + x5) μ3) (fun (r25 : Int32) => some (r25, μ3)) else some ((-2), μ3)) else gx_lt (p2 - p2 / 100 * 100) (fun (x26 : Int32) => if (μ3.1 206 25) ≤ x26 then some ((-2), μ3) else if p2 < 300 then if 200 ≤ p2 then gx_ck (gx_ix x26 40 = true) (some ((μ3.1 220 x26.toNatClampNeg), μ3)) else gx_ck (gx_ix x26 40 = true) (some ((μ3.1 219 x26.toNatClampNeg), μ3)) else some ((-2), μ3))) else some ((-2), μ3)))
theorem ev_X12_street {E : gx_E} {l : Launch} (p1 : Int32) (p2 : Int32) (μ : gx_M) {r : Int32} {μ' : gx_M} (hr : f_X12_street p1 p2 μ = some (r, μ')) : gEv E l 3 Y_X12_street [.ref (E.2.2.1 + 206), .int p1, .int p2] gx_G1 μ (gx_eI r) gx_G1 μ' := by
  refine W_ev (by decide) (Nat.le_of_ble_eq_true rfl) (em := gx_eI) (T := f_X12_street p1 p2 μ) ?_ hr
  show GoW E l Y_X12_street 3 gx_eI 0 (gx_el [.ref (E.2.2.1 + 206), .int p1, .int p2]) [] μ (f_X12_street p1 p2 μ)
  unfold f_X12_street
  refine W_s (s_aload_n dX12_street_0 rfl rfl) ?_
  refine W_s (s_iconst dX12_street_1 kci_0) ?_
  refine W_s (pf_RX12_100 rfl dX12_street_2) ?_
  refine W_letM (fun μ1 => ?_)
  refine W_s (s_aload_n dX12_street_5 rfl rfl) ?_
  refine W_s (s_iload_n dX12_street_6 rfl rfl) ?_
  refine W_bd (ec := gx_eB) (fun r_ μ_ hr_ => s_callV (As := [.int _]) dX12_street_7 Lk_RX12_298 rfl g_206 (by decide) rfl (Nat.le_of_ble_eq_true rfl) (Nat.le_of_ble_eq_true rfl) (ev_X12_hand p1 μ1 hr_)) (fun r2 μ3 => ?_)
  refine W_ite (fun h4 => ?_) (fun h4 => ?_)
  · refine W_s (s_if_ne_t dX12_street_10 rfl (gx_bt h4)) ?_
    refine W_s (s_iload_n dX12_street_16 rfl rfl) ?_
    refine W_s (s_bipush dX12_street_17 kcb_10) ?_
    refine W_s (s_irem dX12_street_19 (by decide)) ?_
    refine W_letI (fun x5 => ?_)
    refine W_s (s_istore_n dX12_street_20 rfl (Nat.le_of_ble_eq_true rfl)) ?_
    refine W_s (s_iload_n dX12_street_21 rfl rfl) ?_
    refine W_s (s_bipush dX12_street_22 kcb_100) ?_
    refine W_ite (fun h6 => ?_) (fun h6 => ?_)
    · refine W_s (s_icmp_lt_t dX12_street_24 rfl h6) ?_
      refine W_s (s_iload_n dX12_street_79 rfl rfl) ?_
      refine W_s (s_bipush dX12_street_80 kcb_10) ?_
      refine W_s (s_idiv dX12_street_82 (by decide)) ?_
      refine W_letI (fun t7 => ?_)
      refine W_ite (fun h8 => ?_) (fun h8 => ?_)
      · refine W_s (s_tsw_eq (c := 0) dX12_street_83 h8 (by decide) (by decide) rfl rfl) ?_
        refine W_s (s_iload_n dX12_street_120 rfl rfl) ?_
        refine W_s (s_iconst dX12_street_121 kci_0) ?_
        refine W_s (s_iconst dX12_street_122 kci_2) ?_
        refine W_s (s_callS (As := [.int _, .int _, .int _]) dX12_street_123 Lk_RX12_112 rfl (Nat.le_of_ble_eq_true rfl) (Nat.le_of_ble_eq_true rfl) (ev_X12_in p2 0 2 μ3)) ?_
        refine W_ite (fun h9 => ?_) (fun h9 => ?_)
        · refine W_s (s_if_eq_f dX12_street_126 rfl (gx_bt h9)) ?_
          refine W_s (s_aload_n dX12_street_129 rfl rfl) ?_
          refine W_s (s_iload_n dX12_street_130 rfl rfl) ?_
          refine W_br (ec := gx_eI) (fun r_ hr_ => s_callV (As := [.int _]) dX12_street_131 Lk_RX12_279 rfl g_206 (by decide) rfl (Nat.le_of_ble_eq_true rfl) (Nat.le_of_ble_eq_true rfl) (ev_X12_of p2 μ3 hr_)) (fun r10 => ?_)
          refine W_s (s_goto dX12_street_134 rfl) ?_
          exact W_r (r := r10) (f_int (ty := .int) dX12_street_139 rfl rfl)
        · refine W_s (s_if_eq_t dX12_street_126 rfl (gx_bf h9)) ?_
          refine W_s (s_bipush dX12_street_137 kcb_m2) ?_
          exact W_r (r := (-2)) (f_int (ty := .int) dX12_street_139 rfl rfl)
      · skip
        refine W_ite (fun h11 => ?_) (fun h11 => ?_)
        · refine W_s (s_tsw_eq (c := 1) dX12_street_83 h11 (by decide) (by decide) rfl rfl) ?_
          refine W_s (s_iload_n dX12_street_140 rfl rfl) ?_
          refine W_s (s_aload_n dX12_street_141 rfl rfl) ?_
          refine W_s (gf_RX12_286 rfl dX12_street_142) ?_
          refine W_ite (fun h12 => ?_) (fun h12 => ?_)
          · refine W_s (s_icmp_ge_t dX12_street_145 rfl h12) ?_
            refine W_s (s_bipush dX12_street_157 kcb_m2) ?_
            exact W_r (r := (-2)) (f_int (ty := .int) dX12_street_159 rfl rfl)
          · refine W_s (s_icmp_ge_f dX12_street_145 rfl h12) ?_
            refine W_s (s_aload_n dX12_street_148 rfl rfl) ?_
            refine W_s (gf_RX12_44 rfl dX12_street_149) ?_
            refine W_s (s_iload_n dX12_street_152 rfl rfl) ?_
            refine W_ck (fun h13 => ?_)
            refine W_s (s_iald dX12_street_153 g_218 (gx_ixv h13)) ?_
            refine W_s (s_goto dX12_street_154 rfl) ?_
            exact W_r (r := (μ3.1 218 x5.toNatClampNeg)) (f_int (ty := .int) dX12_street_159 rfl rfl)
        · skip
          refine W_ite (fun h14 => ?_) (fun h14 => ?_)
          · refine W_s (s_tsw_eq (c := 2) dX12_street_83 h14 (by decide) (by decide) rfl rfl) ?_
            refine W_s (s_iload_n dX12_street_160 rfl rfl) ?_
            refine W_s (s_aload_n dX12_street_161 rfl rfl) ?_
            refine W_s (gf_RX12_289 rfl dX12_street_162) ?_
            refine W_ite (fun h15 => ?_) (fun h15 => ?_)
            · refine W_s (s_icmp_ge_t dX12_street_165 rfl h15) ?_
              refine W_s (s_bipush dX12_street_189 kcb_m2) ?_
              exact W_r (r := (-2)) (f_int (ty := .int) dX12_street_191 rfl rfl)
            · refine W_s (s_icmp_ge_f dX12_street_165 rfl h15) ?_
              refine W_s (s_aload_n dX12_street_168 rfl rfl) ?_
              refine W_s (s_bipush dX12_street_169 kcb_7) ?_
              refine W_s (s_bipush dX12_street_171 kcb_6) ?_
              refine W_s (s_iload_n dX12_street_173 rfl rfl) ?_
              refine W_s (s_bipush dX12_street_174 kcb_10) ?_
              refine W_s (s_idiv dX12_street_176 (by decide)) ?_
              refine W_s (s_iconst dX12_street_177 kci_2) ?_
              refine W_s (s_isub dX12_street_178) ?_
              refine W_s (s_imul dX12_street_179) ?_
              refine W_s (s_iadd dX12_street_180) ?_
              refine W_s (s_iload_n dX12_street_181 rfl rfl) ?_
              refine W_s (s_iadd dX12_street_182) ?_
              refine W_br (ec := gx_eI) (fun r_ hr_ => s_callV (As := [.int _]) dX12_street_183 Lk_RX12_279 rfl g_206 (by decide) rfl (Nat.le_of_ble_eq_true rfl) (Nat.le_of_ble_eq_true rfl) (ev_X12_of (((7 : Int32) + ((6 : Int32) * ((p2 / 10) - 2))) + x5) μ3 hr_)) (fun r16 => ?_)
              refine W_s (s_goto dX12_street_186 rfl) ?_
              exact W_r (r := r16) (f_int (ty := .int) dX12_street_191 rfl rfl)
          · skip
            refine W_ite (fun h17 => ?_) (fun h17 => ?_)
            · refine W_s (s_tsw_eq (c := 3) dX12_street_83 h17 (by decide) (by decide) rfl rfl) ?_
              refine W_s (s_iload_n dX12_street_160 rfl rfl) ?_
              refine W_s (s_aload_n dX12_street_161 rfl rfl) ?_
              refine W_s (gf_RX12_289 rfl dX12_street_162) ?_
              refine W_ite (fun h18 => ?_) (fun h18 => ?_)
              · refine W_s (s_icmp_ge_t dX12_street_165 rfl h18) ?_
                refine W_s (s_bipush dX12_street_189 kcb_m2) ?_
                exact W_r (r := (-2)) (f_int (ty := .int) dX12_street_191 rfl rfl)
              · refine W_s (s_icmp_ge_f dX12_street_165 rfl h18) ?_
                refine W_s (s_aload_n dX12_street_168 rfl rfl) ?_
                refine W_s (s_bipush dX12_street_169 kcb_7) ?_
                refine W_s (s_bipush dX12_street_171 kcb_6) ?_
                refine W_s (s_iload_n dX12_street_173 rfl rfl) ?_
                refine W_s (s_bipush dX12_street_174 kcb_10) ?_
                refine W_s (s_idiv dX12_street_176 (by decide)) ?_
                refine W_s (s_iconst dX12_street_177 kci_2) ?_
                refine W_s (s_isub dX12_street_178) ?_
                refine W_s (s_imul dX12_street_179) ?_
                refine W_s (s_iadd dX12_street_180) ?_
                refine W_s (s_iload_n dX12_street_181 rfl rfl) ?_
                refine W_s (s_iadd dX12_street_182) ?_
                refine W_br (ec := gx_eI) (fun r_ hr_ => s_callV (As := [.int _]) dX12_street_183 Lk_RX12_279 rfl g_206 (by decide) rfl (Nat.le_of_ble_eq_true rfl) (Nat.le_of_ble_eq_true rfl) (ev_X12_of (((7 : Int32) + ((6 : Int32) * ((p2 / 10) - 2))) + x5) μ3 hr_)) (fun r19 => ?_)
                refine W_s (s_goto dX12_street_186 rfl) ?_
                exact W_r (r := r19) (f_int (ty := .int) dX12_street_191 rfl rfl)
            · skip
              refine W_ite (fun h20 => ?_) (fun h20 => ?_)
              · refine W_s (s_tsw_eq (c := 4) dX12_street_83 h20 (by decide) (by decide) rfl rfl) ?_
                refine W_s (s_iload_n dX12_street_160 rfl rfl) ?_
                refine W_s (s_aload_n dX12_street_161 rfl rfl) ?_
                refine W_s (gf_RX12_289 rfl dX12_street_162) ?_
                refine W_ite (fun h21 => ?_) (fun h21 => ?_)
                · refine W_s (s_icmp_ge_t dX12_street_165 rfl h21) ?_
                  refine W_s (s_bipush dX12_street_189 kcb_m2) ?_
                  exact W_r (r := (-2)) (f_int (ty := .int) dX12_street_191 rfl rfl)
                · refine W_s (s_icmp_ge_f dX12_street_165 rfl h21) ?_
                  refine W_s (s_aload_n dX12_street_168 rfl rfl) ?_
                  refine W_s (s_bipush dX12_street_169 kcb_7) ?_
                  refine W_s (s_bipush dX12_street_171 kcb_6) ?_
                  refine W_s (s_iload_n dX12_street_173 rfl rfl) ?_
                  refine W_s (s_bipush dX12_street_174 kcb_10) ?_
                  refine W_s (s_idiv dX12_street_176 (by decide)) ?_
                  refine W_s (s_iconst dX12_street_177 kci_2) ?_
                  refine W_s (s_isub dX12_street_178) ?_
                  refine W_s (s_imul dX12_street_179) ?_
                  refine W_s (s_iadd dX12_street_180) ?_
                  refine W_s (s_iload_n dX12_street_181 rfl rfl) ?_
                  refine W_s (s_iadd dX12_street_182) ?_
                  refine W_br (ec := gx_eI) (fun r_ hr_ => s_callV (As := [.int _]) dX12_street_183 Lk_RX12_279 rfl g_206 (by decide) rfl (Nat.le_of_ble_eq_true rfl) (Nat.le_of_ble_eq_true rfl) (ev_X12_of (((7 : Int32) + ((6 : Int32) * ((p2 / 10) - 2))) + x5) μ3 hr_)) (fun r22 => ?_)
                  refine W_s (s_goto dX12_street_186 rfl) ?_
                  exact W_r (r := r22) (f_int (ty := .int) dX12_street_191 rfl rfl)
              · skip
                refine W_ite (fun h23 => ?_) (fun h23 => ?_)
                · refine W_s (s_tsw_eq (c := 5) dX12_street_83 h23 (by decide) (by decide) rfl rfl) ?_
                  refine W_s (s_iload_n dX12_street_160 rfl rfl) ?_
                  refine W_s (s_aload_n dX12_street_161 rfl rfl) ?_
                  refine W_s (gf_RX12_289 rfl dX12_street_162) ?_
                  refine W_ite (fun h24 => ?_) (fun h24 => ?_)
                  · refine W_s (s_icmp_ge_t dX12_street_165 rfl h24) ?_
                    refine W_s (s_bipush dX12_street_189 kcb_m2) ?_
                    exact W_r (r := (-2)) (f_int (ty := .int) dX12_street_191 rfl rfl)
                  · refine W_s (s_icmp_ge_f dX12_street_165 rfl h24) ?_
                    refine W_s (s_aload_n dX12_street_168 rfl rfl) ?_
                    refine W_s (s_bipush dX12_street_169 kcb_7) ?_
                    refine W_s (s_bipush dX12_street_171 kcb_6) ?_
                    refine W_s (s_iload_n dX12_street_173 rfl rfl) ?_
                    refine W_s (s_bipush dX12_street_174 kcb_10) ?_
                    refine W_s (s_idiv dX12_street_176 (by decide)) ?_
                    refine W_s (s_iconst dX12_street_177 kci_2) ?_
                    refine W_s (s_isub dX12_street_178) ?_
                    refine W_s (s_imul dX12_street_179) ?_
                    refine W_s (s_iadd dX12_street_180) ?_
                    refine W_s (s_iload_n dX12_street_181 rfl rfl) ?_
                    refine W_s (s_iadd dX12_street_182) ?_
                    refine W_br (ec := gx_eI) (fun r_ hr_ => s_callV (As := [.int _]) dX12_street_183 Lk_RX12_279 rfl g_206 (by decide) rfl (Nat.le_of_ble_eq_true rfl) (Nat.le_of_ble_eq_true rfl) (ev_X12_of (((7 : Int32) + ((6 : Int32) * ((p2 / 10) - 2))) + x5) μ3 hr_)) (fun r25 => ?_)
                    refine W_s (s_goto dX12_street_186 rfl) ?_
                    exact W_r (r := r25) (f_int (ty := .int) dX12_street_191 rfl rfl)
                · skip
                  refine W_s (s_tsw_out dX12_street_83 (gx_out_0_6 h8 h11 h14 h17 h20 h23) rfl) ?_
                  refine W_s (s_bipush dX12_street_192 kcb_m2) ?_
                  exact W_r (r := (-2)) (f_int (ty := .int) dX12_street_194 rfl rfl)
    · refine W_s (s_icmp_lt_f dX12_street_24 rfl h6) ?_
      refine W_s (s_iload_n dX12_street_27 rfl rfl) ?_
      refine W_s (s_bipush dX12_street_28 kcb_100) ?_
      refine W_s (s_irem dX12_street_30 (by decide)) ?_
      refine W_letI (fun x26 => ?_)
      refine W_s (s_istore dX12_street_31 (Nat.le_of_ble_eq_true rfl)) ?_
      refine W_s (s_iload dX12_street_33 rfl) ?_
      refine W_s (s_aload_n dX12_street_35 rfl rfl) ?_
      refine W_s (gf_RX12_283 rfl dX12_street_36) ?_
      refine W_ite (fun h27 => ?_) (fun h27 => ?_)
      · refine W_s (s_icmp_ge_t dX12_street_39 rfl h27) ?_
        refine W_s (s_bipush dX12_street_49 kcb_m2) ?_
        refine W_s (s_goto dX12_street_51 rfl) ?_
        exact W_r (r := (-2)) (f_int (ty := .int) dX12_street_78 rfl rfl)
      · refine W_s (s_icmp_ge_f dX12_street_39 rfl h27) ?_
        refine W_s (s_iload_n dX12_street_42 rfl rfl) ?_
        refine W_s (s_sipush dX12_street_43 kcs_300) ?_
        refine W_ite (fun h28 => ?_) (fun h28 => ?_)
        · refine W_s (s_icmp_lt_t dX12_street_46 rfl h28) ?_
          refine W_s (s_iload_n dX12_street_54 rfl rfl) ?_
          refine W_s (s_sipush dX12_street_55 kcs_200) ?_
          refine W_ite (fun h29 => ?_) (fun h29 => ?_)
          · refine W_s (s_icmp_ge_t dX12_street_58 rfl h29) ?_
            refine W_s (s_aload_n dX12_street_71 rfl rfl) ?_
            refine W_s (gf_RX12_50 rfl dX12_street_72) ?_
            refine W_s (s_iload dX12_street_75 rfl) ?_
            refine W_ck (fun h30 => ?_)
            refine W_s (s_iald dX12_street_77 g_220 (gx_ixv h30)) ?_
            exact W_r (r := (μ3.1 220 x26.toNatClampNeg)) (f_int (ty := .int) dX12_street_78 rfl rfl)
          · refine W_s (s_icmp_ge_f dX12_street_58 rfl h29) ?_
            refine W_s (s_aload_n dX12_street_61 rfl rfl) ?_
            refine W_s (gf_RX12_47 rfl dX12_street_62) ?_
            refine W_s (s_iload dX12_street_65 rfl) ?_
            refine W_ck (fun h31 => ?_)
            refine W_s (s_iald dX12_street_67 g_219 (gx_ixv h31)) ?_
            refine W_s (s_goto dX12_street_68 rfl) ?_
            exact W_r (r := (μ3.1 219 x26.toNatClampNeg)) (f_int (ty := .int) dX12_street_78 rfl rfl)
        · refine W_s (s_icmp_lt_f dX12_street_46 rfl h28) ?_
          refine W_s (s_bipush dX12_street_49 kcb_m2) ?_
          refine W_s (s_goto dX12_street_51 rfl) ?_
          exact W_r (r := (-2)) (f_int (ty := .int) dX12_street_78 rfl rfl)
  · refine W_s (s_if_ne_f dX12_street_10 rfl (gx_bf h4)) ?_
    refine W_s (s_bipush dX12_street_13 kcb_m2) ?_
    exact W_r (r := (-2)) (f_int (ty := .int) dX12_street_15 rfl rfl)

def f_X12_deed (p1 : Int32) (p2 : Int32) (p3 : Int32) (μ : gx_M) : Option (Int32 × gx_M) := gx_lt (gx_uI μ 206 0 0) (fun (μ1 : gx_M) => gx_bd (f_X12_hasYear p1 μ1) (fun (r2 : Bool) (μ3 : gx_M) => if r2 = true then if p2 = (-1) then if p3 = 0 then gx_br (f_X12_deeds μ3) (fun (r11 : Int32) => some (r11, μ3)) else some ((-2), μ3) else gx_br (f_X12_deeds μ3) (fun (r6 : Int32) => if (f_X12_in p2 0 (r6 - 1)) = true then if (f_X12_in p3 0 3) = true then gx_br (f_X12_deedOf p2 p3 μ3) (fun (r9 : Int32) => some (r9, μ3)) else some ((-2), μ3) else some ((-2), μ3)) else some ((-2), μ3)))
theorem ev_X12_deed {E : gx_E} {l : Launch} (p1 : Int32) (p2 : Int32) (p3 : Int32) (μ : gx_M) {r : Int32} {μ' : gx_M} (hr : f_X12_deed p1 p2 p3 μ = some (r, μ')) : gEv E l 3 Y_X12_deed [.ref (E.2.2.1 + 206), .int p1, .int p2, .int p3] gx_G1 μ (gx_eI r) gx_G1 μ' := by
  refine W_ev (by decide) (Nat.le_of_ble_eq_true rfl) (em := gx_eI) (T := f_X12_deed p1 p2 p3 μ) ?_ hr
  show GoW E l Y_X12_deed 3 gx_eI 0 (gx_el [.ref (E.2.2.1 + 206), .int p1, .int p2, .int p3]) [] μ (f_X12_deed p1 p2 p3 μ)
  unfold f_X12_deed
  refine W_s (s_aload_n dX12_deed_0 rfl rfl) ?_
  refine W_s (s_iconst dX12_deed_1 kci_0) ?_
  refine W_s (pf_RX12_100 rfl dX12_deed_2) ?_
  refine W_letM (fun μ1 => ?_)
  refine W_s (s_aload_n dX12_deed_5 rfl rfl) ?_
  refine W_s (s_iload_n dX12_deed_6 rfl rfl) ?_
  refine W_bd (ec := gx_eB) (fun r_ μ_ hr_ => s_callV (As := [.int _]) dX12_deed_7 Lk_RX12_304 rfl g_206 (by decide) rfl (Nat.le_of_ble_eq_true rfl) (Nat.le_of_ble_eq_true rfl) (ev_X12_hasYear p1 μ1 hr_)) (fun r2 μ3 => ?_)
  refine W_ite (fun h4 => ?_) (fun h4 => ?_)
  · refine W_s (s_if_ne_t dX12_deed_10 rfl (gx_bt h4)) ?_
    refine W_s (s_iload_n dX12_deed_16 rfl rfl) ?_
    refine W_s (s_iconst dX12_deed_17 kci_m1) ?_
    refine W_ite (fun h5 => ?_) (fun h5 => ?_)
    · refine W_s (s_icmp_ne_f dX12_deed_18 rfl h5) ?_
      refine W_s (s_iload_n dX12_deed_21 rfl rfl) ?_
      refine W_ite (fun h10 => ?_) (fun h10 => ?_)
      · refine W_s (s_if_ne_f dX12_deed_22 rfl h10) ?_
        refine W_s (s_aload_n dX12_deed_25 rfl rfl) ?_
        refine W_br (ec := gx_eI) (fun r_ hr_ => s_callV (As := []) dX12_deed_26 Lk_RX12_307 rfl g_206 (by decide) rfl (Nat.le_of_ble_eq_true rfl) (Nat.le_of_ble_eq_true rfl) (ev_X12_deeds μ3 hr_)) (fun r11 => ?_)
        refine W_s (s_goto dX12_deed_29 rfl) ?_
        exact W_r (r := r11) (f_int (ty := .int) dX12_deed_34 rfl rfl)
      · refine W_s (s_if_ne_t dX12_deed_22 rfl h10) ?_
        refine W_s (s_bipush dX12_deed_32 kcb_m2) ?_
        exact W_r (r := (-2)) (f_int (ty := .int) dX12_deed_34 rfl rfl)
    · refine W_s (s_icmp_ne_t dX12_deed_18 rfl h5) ?_
      refine W_s (s_iload_n dX12_deed_35 rfl rfl) ?_
      refine W_s (s_iconst dX12_deed_36 kci_0) ?_
      refine W_s (s_aload_n dX12_deed_37 rfl rfl) ?_
      refine W_br (ec := gx_eI) (fun r_ hr_ => s_callV (As := []) dX12_deed_38 Lk_RX12_307 rfl g_206 (by decide) rfl (Nat.le_of_ble_eq_true rfl) (Nat.le_of_ble_eq_true rfl) (ev_X12_deeds μ3 hr_)) (fun r6 => ?_)
      refine W_s (s_iconst dX12_deed_41 kci_1) ?_
      refine W_s (s_isub dX12_deed_42) ?_
      refine W_s (s_callS (As := [.int _, .int _, .int _]) dX12_deed_43 Lk_RX12_112 rfl (Nat.le_of_ble_eq_true rfl) (Nat.le_of_ble_eq_true rfl) (ev_X12_in p2 0 (r6 - 1) μ3)) ?_
      refine W_ite (fun h7 => ?_) (fun h7 => ?_)
      · refine W_s (s_if_eq_f dX12_deed_46 rfl (gx_bt h7)) ?_
        refine W_s (s_iload_n dX12_deed_49 rfl rfl) ?_
        refine W_s (s_iconst dX12_deed_50 kci_0) ?_
        refine W_s (s_iconst dX12_deed_51 kci_3) ?_
        refine W_s (s_callS (As := [.int _, .int _, .int _]) dX12_deed_52 Lk_RX12_112 rfl (Nat.le_of_ble_eq_true rfl) (Nat.le_of_ble_eq_true rfl) (ev_X12_in p3 0 3 μ3)) ?_
        refine W_ite (fun h8 => ?_) (fun h8 => ?_)
        · refine W_s (s_if_eq_f dX12_deed_55 rfl (gx_bt h8)) ?_
          refine W_s (s_aload_n dX12_deed_58 rfl rfl) ?_
          refine W_s (s_iload_n dX12_deed_59 rfl rfl) ?_
          refine W_s (s_iload_n dX12_deed_60 rfl rfl) ?_
          refine W_br (ec := gx_eI) (fun r_ hr_ => s_callV (As := [.int _, .int _]) dX12_deed_61 Lk_RX12_310 rfl g_206 (by decide) rfl (Nat.le_of_ble_eq_true rfl) (Nat.le_of_ble_eq_true rfl) (ev_X12_deedOf p2 p3 μ3 hr_)) (fun r9 => ?_)
          refine W_s (s_goto dX12_deed_64 rfl) ?_
          exact W_r (r := r9) (f_int (ty := .int) dX12_deed_69 rfl rfl)
        · refine W_s (s_if_eq_t dX12_deed_55 rfl (gx_bf h8)) ?_
          refine W_s (s_bipush dX12_deed_67 kcb_m2) ?_
          exact W_r (r := (-2)) (f_int (ty := .int) dX12_deed_69 rfl rfl)
      · refine W_s (s_if_eq_t dX12_deed_46 rfl (gx_bf h7)) ?_
        refine W_s (s_bipush dX12_deed_67 kcb_m2) ?_
        exact W_r (r := (-2)) (f_int (ty := .int) dX12_deed_69 rfl rfl)
  · refine W_s (s_if_ne_f dX12_deed_10 rfl (gx_bf h4)) ?_
    refine W_s (s_bipush dX12_deed_13 kcb_m2) ?_
    exact W_r (r := (-2)) (f_int (ty := .int) dX12_deed_15 rfl rfl)

def L_X12_doesTask_48 (p2 : Int32) (p3 : Int32) (p1 : Int32) (k10 : gx_M → Option (Bool × gx_M)) : Nat → Int32 → gx_M → Option (Bool × gx_M)
  | 0, _, _ => none
  | n + 1, v4_8, μ9 => gx_br (f_X12_lengthOf p2 μ9) (fun (r11 : Int32) => if r11 ≤ v4_8 then k10 μ9 else gx_ck (gx_ix (p3 + v4_8) 40 = true) (if (μ9.1 220 (p3 + v4_8).toNatClampNeg) = p1 then if (μ9.1 221 (p3 + v4_8).toNatClampNeg) = 0 then L_X12_doesTask_48 p2 p3 p1 k10 n (v4_8 + 1) μ9 else some (false, μ9) else some (false, μ9)))
def L_X12_doesTask_94 (p2 : Int32) (p3 : Int32) (k20 : gx_M → Option (Bool × gx_M)) : Nat → Int32 → gx_M → Option (Bool × gx_M)
  | 0, _, _ => none
  | n + 1, v4_18, μ19 => gx_br (f_X12_lengthOf p2 μ19) (fun (r21 : Int32) => if r21 ≤ v4_18 then k20 μ19 else gx_ck (gx_ix (p3 + v4_18) 40 = true) (gx_lt (gx_uI μ19 221 (p3 + v4_18).toNatClampNeg (gx_bi true)) (fun (μ24 : gx_M) => L_X12_doesTask_94 p2 p3 k20 n (v4_18 + 1) μ24)))
def f_X12_doesTask (p1 : Int32) (p2 : Int32) (p3 : Int32) (μ : gx_M) : Option (Bool × gx_M) := if (f_X12_isPerson p1 μ) = true then if (f_X12_isTask p2 μ) = true then if (f_X12_isMinute p3 μ) = true then gx_ck (gx_ix p2 6 = true) (if (μ.1 222 p2.toNatClampNeg) = (-1) then gx_br (f_X12_mayBegin p2 p3 μ) (fun (r6 : Bool) => if r6 = true then L_X12_doesTask_48 p2 p3 p1 (fun (μ17 : gx_M) => L_X12_doesTask_94 p2 p3 (fun (μ26 : gx_M) => gx_lt (gx_uI μ26 222 p2.toNatClampNeg p1) (fun (μ27 : gx_M) => gx_ck (gx_ix p1 4 = true) (gx_br (f_X12_of ((25 : Int32) + p2) μ27) (fun (r29 : Int32) => gx_lt (gx_uI μ27 218 p1.toNatClampNeg ((μ27.1 218 p1.toNatClampNeg) + r29)) (fun (μ30 : gx_M) => some (true, μ30)))))) 4000 0 μ17) 4000 0 μ else some (false, μ)) else some (false, μ)) else some (false, μ) else some (false, μ) else some (false, μ)
theorem okL_X12_doesTask_48 {E : gx_E} {l : Launch} {p2 : Int32} {p3 : Int32} {p1 : Int32} {k10 : gx_M → Option (Bool × gx_M)} (hk : ∀ (μ16 : gx_M), GoW E l Y_X12_doesTask 3 gx_eB 91 [some (.ref (E.2.2.1 + 206)), some (.int p1), some (.int p2), some (.int p3)] [] μ16 (k10 μ16)) : ∀ (n : Nat) (v4_8 : Int32) (μ9 : gx_M), GoW E l Y_X12_doesTask 3 gx_eB 48 [some (.ref (E.2.2.1 + 206)), some (.int p1), some (.int p2), some (.int p3), some (.int v4_8)] [] μ9 (L_X12_doesTask_48 p2 p3 p1 k10 n v4_8 μ9) := by
  intro n
  induction n with
  | zero => intros; exact W_no
  | succ n ih =>
    intro v4_8 μ9
    rw [L_X12_doesTask_48.eq_2]
    refine W_s (s_iload dX12_doesTask_48 rfl) ?_
    refine W_s (s_aload_n dX12_doesTask_50 rfl rfl) ?_
    refine W_s (s_iload_n dX12_doesTask_51 rfl rfl) ?_
    refine W_br (ec := gx_eI) (fun r_ hr_ => s_callV (As := [.int _]) dX12_doesTask_52 Lk_RX12_295 rfl g_206 (by decide) rfl (Nat.le_of_ble_eq_true rfl) (Nat.le_of_ble_eq_true rfl) (ev_X12_lengthOf p2 μ9 hr_)) (fun r11 => ?_)
    refine W_ite (fun h12 => ?_) (fun h12 => ?_)
    · refine W_s (s_icmp_ge_t dX12_doesTask_55 rfl h12) ?_
      exact W_wk (hk μ9) (le_s rfl (le_s rfl (le_s rfl (le_s rfl le_n))))
    · refine W_s (s_icmp_ge_f dX12_doesTask_55 rfl h12) ?_
      refine W_s (s_aload_n dX12_doesTask_58 rfl rfl) ?_
      refine W_s (gf_RX12_50 rfl dX12_doesTask_59) ?_
      refine W_s (s_iload_n dX12_doesTask_62 rfl rfl) ?_
      refine W_s (s_iload dX12_doesTask_63 rfl) ?_
      refine W_s (s_iadd dX12_doesTask_65) ?_
      refine W_ck (fun h13 => ?_)
      refine W_s (s_iald dX12_doesTask_66 g_220 (gx_ixv h13)) ?_
      refine W_s (s_iload_n dX12_doesTask_67 rfl rfl) ?_
      refine W_ite (fun h14 => ?_) (fun h14 => ?_)
      · refine W_s (s_icmp_ne_f dX12_doesTask_68 rfl h14) ?_
        refine W_s (s_aload_n dX12_doesTask_71 rfl rfl) ?_
        refine W_s (gf_RX12_53 rfl dX12_doesTask_72) ?_
        refine W_s (s_iload_n dX12_doesTask_75 rfl rfl) ?_
        refine W_s (s_iload dX12_doesTask_76 rfl) ?_
        refine W_s (s_iadd dX12_doesTask_78) ?_
        refine W_s (s_zald dX12_doesTask_79 g_221 (gx_ixv h13)) ?_
        refine W_ite (fun h15 => ?_) (fun h15 => ?_)
        · refine W_s (s_if_eq_t dX12_doesTask_80 rfl h15) ?_
          refine W_s (s_iinc dX12_doesTask_85 rfl (kinc_1 v4_8) (Nat.le_of_ble_eq_true rfl)) ?_
          refine W_s (s_goto dX12_doesTask_88 rfl) ?_
          exact W_wk (ih (v4_8 + 1) μ9) (le_s rfl (le_s rfl (le_s rfl (le_s rfl (le_s rfl le_n)))))
        · refine W_s (s_if_eq_f dX12_doesTask_80 rfl h15) ?_
          refine W_s (s_iconst dX12_doesTask_83 kci_0) ?_
          exact W_r (r := false) (f_int (ty := .boolean) (x := gx_bi false) dX12_doesTask_84 rfl (gx_bn false))
      · refine W_s (s_icmp_ne_t dX12_doesTask_68 rfl h14) ?_
        refine W_s (s_iconst dX12_doesTask_83 kci_0) ?_
        exact W_r (r := false) (f_int (ty := .boolean) (x := gx_bi false) dX12_doesTask_84 rfl (gx_bn false))
theorem okL_X12_doesTask_94 {E : gx_E} {l : Launch} {p2 : Int32} {p3 : Int32} {p1 : Int32} {k20 : gx_M → Option (Bool × gx_M)} (hk : ∀ (μ25 : gx_M), GoW E l Y_X12_doesTask 3 gx_eB 120 [some (.ref (E.2.2.1 + 206)), some (.int p1), some (.int p2)] [] μ25 (k20 μ25)) : ∀ (n : Nat) (v4_18 : Int32) (μ19 : gx_M), GoW E l Y_X12_doesTask 3 gx_eB 94 [some (.ref (E.2.2.1 + 206)), some (.int p1), some (.int p2), some (.int p3), some (.int v4_18)] [] μ19 (L_X12_doesTask_94 p2 p3 k20 n v4_18 μ19) := by
  intro n
  induction n with
  | zero => intros; exact W_no
  | succ n ih =>
    intro v4_18 μ19
    rw [L_X12_doesTask_94.eq_2]
    refine W_s (s_iload dX12_doesTask_94 rfl) ?_
    refine W_s (s_aload_n dX12_doesTask_96 rfl rfl) ?_
    refine W_s (s_iload_n dX12_doesTask_97 rfl rfl) ?_
    refine W_br (ec := gx_eI) (fun r_ hr_ => s_callV (As := [.int _]) dX12_doesTask_98 Lk_RX12_295 rfl g_206 (by decide) rfl (Nat.le_of_ble_eq_true rfl) (Nat.le_of_ble_eq_true rfl) (ev_X12_lengthOf p2 μ19 hr_)) (fun r21 => ?_)
    refine W_ite (fun h22 => ?_) (fun h22 => ?_)
    · refine W_s (s_icmp_ge_t dX12_doesTask_101 rfl h22) ?_
      exact W_wk (hk μ19) (le_s rfl (le_s rfl (le_s rfl le_n)))
    · refine W_s (s_icmp_ge_f dX12_doesTask_101 rfl h22) ?_
      refine W_s (s_aload_n dX12_doesTask_104 rfl rfl) ?_
      refine W_s (gf_RX12_53 rfl dX12_doesTask_105) ?_
      refine W_s (s_iload_n dX12_doesTask_108 rfl rfl) ?_
      refine W_s (s_iload dX12_doesTask_109 rfl) ?_
      refine W_s (s_iadd dX12_doesTask_111) ?_
      refine W_s (s_iconst dX12_doesTask_112 kci_1) ?_
      refine W_ck (fun h23 => ?_)
      refine W_s (s_zastB (b := true) dX12_doesTask_113 g_221 (gx_ixv h23)) ?_
      refine W_letM (fun μ24 => ?_)
      refine W_s (s_iinc dX12_doesTask_114 rfl (kinc_1 v4_18) (Nat.le_of_ble_eq_true rfl)) ?_
      refine W_s (s_goto dX12_doesTask_117 rfl) ?_
      exact W_wk (ih (v4_18 + 1) μ24) (le_s rfl (le_s rfl (le_s rfl (le_s rfl (le_s rfl le_n)))))
theorem ev_X12_doesTask {E : gx_E} {l : Launch} (p1 : Int32) (p2 : Int32) (p3 : Int32) (μ : gx_M) {r : Bool} {μ' : gx_M} (hr : f_X12_doesTask p1 p2 p3 μ = some (r, μ')) : gEv E l 3 Y_X12_doesTask [.ref (E.2.2.1 + 206), .int p1, .int p2, .int p3] gx_G1 μ (gx_eB r) gx_G1 μ' := by
  refine W_ev (by decide) (Nat.le_of_ble_eq_true rfl) (em := gx_eB) (T := f_X12_doesTask p1 p2 p3 μ) ?_ hr
  show GoW E l Y_X12_doesTask 3 gx_eB 0 (gx_el [.ref (E.2.2.1 + 206), .int p1, .int p2, .int p3]) [] μ (f_X12_doesTask p1 p2 p3 μ)
  unfold f_X12_doesTask
  refine W_s (s_aload_n dX12_doesTask_0 rfl rfl) ?_
  refine W_s (s_iload_n dX12_doesTask_1 rfl rfl) ?_
  refine W_s (s_callV (As := [.int _]) dX12_doesTask_2 Lk_RX12_316 rfl g_206 (by decide) rfl (Nat.le_of_ble_eq_true rfl) (Nat.le_of_ble_eq_true rfl) (ev_X12_isPerson p1 μ)) ?_
  refine W_ite (fun h1 => ?_) (fun h1 => ?_)
  · refine W_s (s_if_eq_f dX12_doesTask_5 rfl (gx_bt h1)) ?_
    refine W_s (s_aload_n dX12_doesTask_8 rfl rfl) ?_
    refine W_s (s_iload_n dX12_doesTask_9 rfl rfl) ?_
    refine W_s (s_callV (As := [.int _]) dX12_doesTask_10 Lk_RX12_319 rfl g_206 (by decide) rfl (Nat.le_of_ble_eq_true rfl) (Nat.le_of_ble_eq_true rfl) (ev_X12_isTask p2 μ)) ?_
    refine W_ite (fun h2 => ?_) (fun h2 => ?_)
    · refine W_s (s_if_eq_f dX12_doesTask_13 rfl (gx_bt h2)) ?_
      refine W_s (s_aload_n dX12_doesTask_16 rfl rfl) ?_
      refine W_s (s_iload_n dX12_doesTask_17 rfl rfl) ?_
      refine W_s (s_callV (As := [.int _]) dX12_doesTask_18 Lk_RX12_322 rfl g_206 (by decide) rfl (Nat.le_of_ble_eq_true rfl) (Nat.le_of_ble_eq_true rfl) (ev_X12_isMinute p3 μ)) ?_
      refine W_ite (fun h3 => ?_) (fun h3 => ?_)
      · refine W_s (s_if_eq_f dX12_doesTask_21 rfl (gx_bt h3)) ?_
        refine W_s (s_aload_n dX12_doesTask_24 rfl rfl) ?_
        refine W_s (gf_RX12_57 rfl dX12_doesTask_25) ?_
        refine W_s (s_iload_n dX12_doesTask_28 rfl rfl) ?_
        refine W_ck (fun h4 => ?_)
        refine W_s (s_iald dX12_doesTask_29 g_222 (gx_ixv h4)) ?_
        refine W_s (s_iconst dX12_doesTask_30 kci_m1) ?_
        refine W_ite (fun h5 => ?_) (fun h5 => ?_)
        · refine W_s (s_icmp_ne_f dX12_doesTask_31 rfl h5) ?_
          refine W_s (s_aload_n dX12_doesTask_34 rfl rfl) ?_
          refine W_s (s_iload_n dX12_doesTask_35 rfl rfl) ?_
          refine W_s (s_iload_n dX12_doesTask_36 rfl rfl) ?_
          refine W_br (ec := gx_eB) (fun r_ hr_ => s_callV (As := [.int _, .int _]) dX12_doesTask_37 Lk_RX12_325 rfl g_206 (by decide) rfl (Nat.le_of_ble_eq_true rfl) (Nat.le_of_ble_eq_true rfl) (ev_X12_mayBegin p2 p3 μ hr_)) (fun r6 => ?_)
          refine W_ite (fun h7 => ?_) (fun h7 => ?_)
          · refine W_s (s_if_ne_t dX12_doesTask_40 rfl (gx_bt h7)) ?_
            refine W_s (s_iconst dX12_doesTask_45 kci_0) ?_
            refine W_s (s_istore dX12_doesTask_46 (Nat.le_of_ble_eq_true rfl)) ?_
            refine W_wk (okL_X12_doesTask_48 ?_ 4000 0 μ) (le_s rfl (le_s rfl (le_s rfl (le_s rfl (le_s rfl le_n)))))
            intro μ17
            refine W_s (s_iconst dX12_doesTask_91 kci_0) ?_
            refine W_s (s_istore dX12_doesTask_92 (Nat.le_of_ble_eq_true rfl)) ?_
            refine W_wk (okL_X12_doesTask_94 ?_ 4000 0 μ17) (le_s rfl (le_s rfl (le_s rfl (le_s rfl (le_s rfl le_n)))))
            intro μ26
            refine W_s (s_aload_n dX12_doesTask_120 rfl rfl) ?_
            refine W_s (gf_RX12_57 rfl dX12_doesTask_121) ?_
            refine W_s (s_iload_n dX12_doesTask_124 rfl rfl) ?_
            refine W_s (s_iload_n dX12_doesTask_125 rfl rfl) ?_
            refine W_s (s_iast dX12_doesTask_126 g_222 (gx_ixv h4)) ?_
            refine W_letM (fun μ27 => ?_)
            refine W_s (s_aload_n dX12_doesTask_127 rfl rfl) ?_
            refine W_s (gf_RX12_44 rfl dX12_doesTask_128) ?_
            refine W_s (s_iload_n dX12_doesTask_131 rfl rfl) ?_
            refine W_s (s_dup2 dX12_doesTask_132 rfl rfl) ?_
            refine W_ck (fun h28 => ?_)
            refine W_s (s_iald dX12_doesTask_133 g_218 (gx_ixv h28)) ?_
            refine W_s (s_aload_n dX12_doesTask_134 rfl rfl) ?_
            refine W_s (s_bipush dX12_doesTask_135 kcb_25) ?_
            refine W_s (s_iload_n dX12_doesTask_137 rfl rfl) ?_
            refine W_s (s_iadd dX12_doesTask_138) ?_
            refine W_br (ec := gx_eI) (fun r_ hr_ => s_callV (As := [.int _]) dX12_doesTask_139 Lk_RX12_279 rfl g_206 (by decide) rfl (Nat.le_of_ble_eq_true rfl) (Nat.le_of_ble_eq_true rfl) (ev_X12_of ((25 : Int32) + p2) μ27 hr_)) (fun r29 => ?_)
            refine W_s (s_iadd dX12_doesTask_142) ?_
            refine W_s (s_iast dX12_doesTask_143 g_218 (gx_ixv h28)) ?_
            refine W_letM (fun μ30 => ?_)
            refine W_s (s_iconst dX12_doesTask_144 kci_1) ?_
            exact W_r (r := true) (f_int (ty := .boolean) (x := gx_bi true) dX12_doesTask_145 rfl (gx_bn true))
          · refine W_s (s_if_ne_f dX12_doesTask_40 rfl (gx_bf h7)) ?_
            refine W_s (s_iconst dX12_doesTask_43 kci_0) ?_
            exact W_r (r := false) (f_int (ty := .boolean) (x := gx_bi false) dX12_doesTask_44 rfl (gx_bn false))
        · refine W_s (s_icmp_ne_t dX12_doesTask_31 rfl h5) ?_
          refine W_s (s_iconst dX12_doesTask_43 kci_0) ?_
          exact W_r (r := false) (f_int (ty := .boolean) (x := gx_bi false) dX12_doesTask_44 rfl (gx_bn false))
      · refine W_s (s_if_eq_t dX12_doesTask_21 rfl (gx_bf h3)) ?_
        refine W_s (s_iconst dX12_doesTask_43 kci_0) ?_
        exact W_r (r := false) (f_int (ty := .boolean) (x := gx_bi false) dX12_doesTask_44 rfl (gx_bn false))
    · refine W_s (s_if_eq_t dX12_doesTask_13 rfl (gx_bf h2)) ?_
      refine W_s (s_iconst dX12_doesTask_43 kci_0) ?_
      exact W_r (r := false) (f_int (ty := .boolean) (x := gx_bi false) dX12_doesTask_44 rfl (gx_bn false))
  · refine W_s (s_if_eq_t dX12_doesTask_5 rfl (gx_bf h1)) ?_
    refine W_s (s_iconst dX12_doesTask_43 kci_0) ?_
    exact W_r (r := false) (f_int (ty := .boolean) (x := gx_bi false) dX12_doesTask_44 rfl (gx_bn false))

def f_X12_layAll (p1 : Int32) (p2 : Int32) (μ : gx_M) : Option (Bool × gx_M) := gx_bd (f_X12_hasYear p2 μ) (fun (r1 : Bool) (μ2 : gx_M) => if r1 = true then gx_bd (f_X12_hand p1 μ2) (fun (r4 : Bool) (μ5 : gx_M) => if r4 = true then some (true, μ5) else some (false, μ5)) else some (false, μ2))
theorem ev_X12_layAll {E : gx_E} {l : Launch} (p1 : Int32) (p2 : Int32) (μ : gx_M) {r : Bool} {μ' : gx_M} (hr : f_X12_layAll p1 p2 μ = some (r, μ')) : gEv E l 3 Y_X12_layAll [.ref (E.2.2.1 + 206), .int p1, .int p2] gx_G1 μ (gx_eB r) gx_G1 μ' := by
  refine W_ev (by decide) (Nat.le_of_ble_eq_true rfl) (em := gx_eB) (T := f_X12_layAll p1 p2 μ) ?_ hr
  show GoW E l Y_X12_layAll 3 gx_eB 0 (gx_el [.ref (E.2.2.1 + 206), .int p1, .int p2]) [] μ (f_X12_layAll p1 p2 μ)
  unfold f_X12_layAll
  refine W_s (s_aload_n dX12_layAll_0 rfl rfl) ?_
  refine W_s (s_iload_n dX12_layAll_1 rfl rfl) ?_
  refine W_bd (ec := gx_eB) (fun r_ μ_ hr_ => s_callV (As := [.int _]) dX12_layAll_2 Lk_RX12_304 rfl g_206 (by decide) rfl (Nat.le_of_ble_eq_true rfl) (Nat.le_of_ble_eq_true rfl) (ev_X12_hasYear p2 μ hr_)) (fun r1 μ2 => ?_)
  refine W_ite (fun h3 => ?_) (fun h3 => ?_)
  · refine W_s (s_if_eq_f dX12_layAll_5 rfl (gx_bt h3)) ?_
    refine W_s (s_aload_n dX12_layAll_8 rfl rfl) ?_
    refine W_s (s_iload_n dX12_layAll_9 rfl rfl) ?_
    refine W_bd (ec := gx_eB) (fun r_ μ_ hr_ => s_callV (As := [.int _]) dX12_layAll_10 Lk_RX12_298 rfl g_206 (by decide) rfl (Nat.le_of_ble_eq_true rfl) (Nat.le_of_ble_eq_true rfl) (ev_X12_hand p1 μ2 hr_)) (fun r4 μ5 => ?_)
    refine W_ite (fun h6 => ?_) (fun h6 => ?_)
    · refine W_s (s_if_eq_f dX12_layAll_13 rfl (gx_bt h6)) ?_
      refine W_s (s_iconst dX12_layAll_16 kci_1) ?_
      refine W_s (s_goto dX12_layAll_17 rfl) ?_
      exact W_r (r := true) (f_int (ty := .boolean) (x := gx_bi true) dX12_layAll_21 rfl (gx_bn true))
    · refine W_s (s_if_eq_t dX12_layAll_13 rfl (gx_bf h6)) ?_
      refine W_s (s_iconst dX12_layAll_20 kci_0) ?_
      exact W_r (r := false) (f_int (ty := .boolean) (x := gx_bi false) dX12_layAll_21 rfl (gx_bn false))
  · refine W_s (s_if_eq_t dX12_layAll_5 rfl (gx_bf h3)) ?_
    refine W_s (s_iconst dX12_layAll_20 kci_0) ?_
    exact W_r (r := false) (f_int (ty := .boolean) (x := gx_bi false) dX12_layAll_21 rfl (gx_bn false))

def L_X12_runCost_39 (p2 : Int32) (μ : gx_M) (p3 : Int32) (p1 : Int32) (k9 : Int32 → Option Int32) : Nat → Int32 → Int32 → Option Int32
  | 0, _, _ => none
  | n + 1, v4_7, v5_8 => gx_br (f_X12_lengthOf p2 μ) (fun (r10 : Int32) => if (p3 + r10) ≤ v5_8 then k9 v4_7 else gx_lt (fun (j0_15 : Int32) => gx_lt (v4_7 + j0_15) (fun (x16 : Int32) => L_X12_runCost_39 p2 μ p3 p1 k9 n x16 (v5_8 + 1))) (fun J12 => if v5_8 = (μ.1 206 38) then J12 1000000 else gx_br (f_X12_cost p1 v5_8 μ) (fun (r14 : Int32) => J12 r14)))
def f_X12_runCost (p1 : Int32) (p2 : Int32) (p3 : Int32) (μ : gx_M) : Option Int32 := gx_br (f_X12_mayBegin p2 p3 μ) (fun (r1 : Bool) => if r1 = true then gx_ck (gx_ix p2 6 = true) (gx_lt (L_X12_runCost_39 p2 μ p3 p1 (fun (x4_18 : Int32) => some (f_X12_lesser x4_18 1000000)) 4000 0 p3) (fun J4 => if (μ.1 225 p2.toNatClampNeg) = (-1) then J4 else if (μ.1 225 p2.toNatClampNeg) = p3 then J4 else some 1000000)) else some 1000000)
theorem okL_X12_runCost_39 {E : gx_E} {l : Launch} {p2 : Int32} {μ : gx_M} {p3 : Int32} {p1 : Int32} {k9 : Int32 → Option Int32} (hk : ∀ (w17 : Int32), GoR E l Y_X12_runCost 3 gx_eI 84 [none, none, none, none, some (.int w17)] [] μ (k9 w17)) : ∀ (n : Nat) (v4_7 : Int32) (v5_8 : Int32), GoR E l Y_X12_runCost 3 gx_eI 39 [some (.ref (E.2.2.1 + 206)), some (.int p1), some (.int p2), some (.int p3), some (.int v4_7), some (.int v5_8)] [] μ (L_X12_runCost_39 p2 μ p3 p1 k9 n v4_7 v5_8) := by
  intro n
  induction n with
  | zero => intros; exact R_no
  | succ n ih =>
    intro v4_7 v5_8
    rw [L_X12_runCost_39.eq_2]
    refine R_s (s_iload dX12_runCost_39 rfl) ?_
    refine R_s (s_iload_n dX12_runCost_41 rfl rfl) ?_
    refine R_s (s_aload_n dX12_runCost_42 rfl rfl) ?_
    refine R_s (s_iload_n dX12_runCost_43 rfl rfl) ?_
    refine R_br (ec := gx_eI) (fun r_ hr_ => s_callV (As := [.int _]) dX12_runCost_44 Lk_RX12_295 rfl g_206 (by decide) rfl (Nat.le_of_ble_eq_true rfl) (Nat.le_of_ble_eq_true rfl) (ev_X12_lengthOf p2 μ hr_)) (fun r10 => ?_)
    refine R_s (s_iadd dX12_runCost_47) ?_
    refine R_ite (fun h11 => ?_) (fun h11 => ?_)
    · refine R_s (s_icmp_ge_t dX12_runCost_48 rfl h11) ?_
      exact R_wk (hk v4_7) (le_o (le_o (le_o (le_o (le_s rfl le_n)))))
    · refine R_s (s_icmp_ge_f dX12_runCost_48 rfl h11) ?_
      refine R_s (s_iload dX12_runCost_51 rfl) ?_
      refine R_s (s_iload dX12_runCost_53 rfl) ?_
      refine R_s (s_aload_n dX12_runCost_55 rfl rfl) ?_
      refine R_s (gf_RX12_292 rfl dX12_runCost_56) ?_
      refine R_fun (fun J => ∀ (j0_15 : Int32), GoR E l Y_X12_runCost 3 gx_eI 75 [some (.ref (E.2.2.1 + 206)), some (.int p1), some (.int p2), some (.int p3), none, some (.int v5_8)] [.int j0_15, .int v4_7] μ (J j0_15)) ?_ (fun J12 hJ12 => ?_)
      · intro j0_15
        refine R_s (s_iadd dX12_runCost_75) ?_
        refine R_letI (fun x16 => ?_)
        refine R_s (s_istore dX12_runCost_76 (Nat.le_of_ble_eq_true rfl)) ?_
        refine R_s (s_iinc dX12_runCost_78 rfl (kinc_1 v5_8) (Nat.le_of_ble_eq_true rfl)) ?_
        refine R_s (s_goto dX12_runCost_81 rfl) ?_
        exact R_wk (ih x16 (v5_8 + 1)) (le_s rfl (le_s rfl (le_s rfl (le_s rfl (le_s rfl (le_s rfl le_n))))))
      · skip
        refine R_ite (fun h13 => ?_) (fun h13 => ?_)
        · refine R_s (s_icmp_ne_f dX12_runCost_59 rfl h13) ?_
          refine R_s (s_ldcw dX12_runCost_62 kw_RX12_371) ?_
          refine R_s (s_goto dX12_runCost_65 rfl) ?_
          exact R_wk (hJ12 1000000) (le_s rfl (le_s rfl (le_s rfl (le_s rfl (le_o (le_s rfl le_n))))))
        · refine R_s (s_icmp_ne_t dX12_runCost_59 rfl h13) ?_
          refine R_s (s_aload_n dX12_runCost_68 rfl rfl) ?_
          refine R_s (s_iload_n dX12_runCost_69 rfl rfl) ?_
          refine R_s (s_iload dX12_runCost_70 rfl) ?_
          refine R_br (ec := gx_eI) (fun r_ hr_ => s_callV (As := [.int _, .int _]) dX12_runCost_72 Lk_RX12_372 rfl g_206 (by decide) rfl (Nat.le_of_ble_eq_true rfl) (Nat.le_of_ble_eq_true rfl) (ev_X12_cost p1 v5_8 μ hr_)) (fun r14 => ?_)
          exact R_wk (hJ12 r14) (le_s rfl (le_s rfl (le_s rfl (le_s rfl (le_o (le_s rfl le_n))))))
theorem ev_X12_runCost {E : gx_E} {l : Launch} (p1 : Int32) (p2 : Int32) (p3 : Int32) (μ : gx_M) {r : Int32} (hr : f_X12_runCost p1 p2 p3 μ = some r) : gEv E l 3 Y_X12_runCost [.ref (E.2.2.1 + 206), .int p1, .int p2, .int p3] gx_G1 μ (gx_eI r) gx_G1 μ := by
  refine R_ev (by decide) (Nat.le_of_ble_eq_true rfl) (em := gx_eI) (T := f_X12_runCost p1 p2 p3 μ) ?_ hr
  show GoR E l Y_X12_runCost 3 gx_eI 0 (gx_el [.ref (E.2.2.1 + 206), .int p1, .int p2, .int p3]) [] μ (f_X12_runCost p1 p2 p3 μ)
  unfold f_X12_runCost
  refine R_s (s_aload_n dX12_runCost_0 rfl rfl) ?_
  refine R_s (s_iload_n dX12_runCost_1 rfl rfl) ?_
  refine R_s (s_iload_n dX12_runCost_2 rfl rfl) ?_
  refine R_br (ec := gx_eB) (fun r_ hr_ => s_callV (As := [.int _, .int _]) dX12_runCost_3 Lk_RX12_325 rfl g_206 (by decide) rfl (Nat.le_of_ble_eq_true rfl) (Nat.le_of_ble_eq_true rfl) (ev_X12_mayBegin p2 p3 μ hr_)) (fun r1 => ?_)
  refine R_ite (fun h2 => ?_) (fun h2 => ?_)
  · refine R_s (s_if_eq_f dX12_runCost_6 rfl (gx_bt h2)) ?_
    refine R_s (s_aload_n dX12_runCost_9 rfl rfl) ?_
    refine R_s (gf_RX12_66 rfl dX12_runCost_10) ?_
    refine R_s (s_iload_n dX12_runCost_13 rfl rfl) ?_
    refine R_ck (fun h3 => ?_)
    refine R_s (s_iald dX12_runCost_14 g_225 (gx_ixv h3)) ?_
    refine R_s (s_iconst dX12_runCost_15 kci_m1) ?_
    refine R_fun (fun J => GoR E l Y_X12_runCost 3 gx_eI 33 [some (.ref (E.2.2.1 + 206)), some (.int p1), some (.int p2), some (.int p3)] [] μ (J)) ?_ (fun J4 hJ4 => ?_)
    · skip
      refine R_s (s_iconst dX12_runCost_33 kci_0) ?_
      refine R_s (s_istore dX12_runCost_34 (Nat.le_of_ble_eq_true rfl)) ?_
      refine R_s (s_iload_n dX12_runCost_36 rfl rfl) ?_
      refine R_s (s_istore dX12_runCost_37 (Nat.le_of_ble_eq_true rfl)) ?_
      refine R_wk (okL_X12_runCost_39 ?_ 4000 0 p3) (le_s rfl (le_s rfl (le_s rfl (le_s rfl (le_s rfl (le_s rfl le_n))))))
      intro x4_18
      refine R_s (s_iload dX12_runCost_84 rfl) ?_
      refine R_s (s_ldcw dX12_runCost_86 kw_RX12_371) ?_
      refine R_s (s_callS (As := [.int _, .int _]) dX12_runCost_89 Lk_RX12_375 rfl (Nat.le_of_ble_eq_true rfl) (Nat.le_of_ble_eq_true rfl) (ev_X12_lesser x4_18 1000000 μ)) ?_
      exact R_r (r := (f_X12_lesser x4_18 1000000)) (f_int (ty := .int) dX12_runCost_92 rfl rfl)
    · skip
      refine R_ite (fun h5 => ?_) (fun h5 => ?_)
      · refine R_s (s_icmp_eq_t dX12_runCost_16 rfl h5) ?_
        exact R_wk (hJ4) (le_s rfl (le_s rfl (le_s rfl (le_s rfl le_n))))
      · refine R_s (s_icmp_eq_f dX12_runCost_16 rfl h5) ?_
        refine R_s (s_aload_n dX12_runCost_19 rfl rfl) ?_
        refine R_s (gf_RX12_66 rfl dX12_runCost_20) ?_
        refine R_s (s_iload_n dX12_runCost_23 rfl rfl) ?_
        refine R_s (s_iald dX12_runCost_24 g_225 (gx_ixv h3)) ?_
        refine R_s (s_iload_n dX12_runCost_25 rfl rfl) ?_
        refine R_ite (fun h6 => ?_) (fun h6 => ?_)
        · refine R_s (s_icmp_eq_t dX12_runCost_26 rfl h6) ?_
          exact R_wk (hJ4) (le_s rfl (le_s rfl (le_s rfl (le_s rfl le_n))))
        · refine R_s (s_icmp_eq_f dX12_runCost_26 rfl h6) ?_
          refine R_s (s_ldcw dX12_runCost_29 kw_RX12_371) ?_
          exact R_r (r := 1000000) (f_int (ty := .int) dX12_runCost_32 rfl rfl)
  · refine R_s (s_if_eq_t dX12_runCost_6 rfl (gx_bf h2)) ?_
    refine R_s (s_ldcw dX12_runCost_29 kw_RX12_371) ?_
    exact R_r (r := 1000000) (f_int (ty := .int) dX12_runCost_32 rfl rfl)

def L_X12_halves_47 (v4_9 : Int32) (k16 : Int32 → gx_M → Option (Int32 × gx_M)) : Nat → Int32 → Int32 → gx_M → Option (Int32 × gx_M)
  | 0, _, _, _ => none
  | n + 1, v3_13, v5_14, μ15 => if 3 < v5_14 then k16 v3_13 μ15 else if (μ15.1 206 25) < (v4_9 + v5_14) then k16 v3_13 μ15 else gx_br (f_X12_leadBy v4_9 v5_14 μ15) (fun (r19 : Int32) => gx_br (f_X12_leadBy v4_9 v3_13 μ15) (fun (r20 : Int32) => gx_lt (fun (j0_23 : Int32) (μ24 : gx_M) => L_X12_halves_47 v4_9 k16 n j0_23 (v5_14 + 1) μ24) (fun J21 => if r19 ≤ r20 then J21 v3_13 μ15 else J21 v5_14 μ15)))
def L_X12_halves_37 (k11 : Int32 → gx_M → Option (Int32 × gx_M)) : Nat → Int32 → Int32 → gx_M → Option (Int32 × gx_M)
  | 0, _, _, _ => none
  | n + 1, v3_8, v4_9, μ10 => if v4_9 < 0 then k11 v3_8 μ10 else L_X12_halves_47 v4_9 (fun (x3_27 : Int32) (μ28 : gx_M) => gx_br (f_X12_leadBy v4_9 x3_27 μ28) (fun (r29 : Int32) => gx_ck (gx_ix v4_9 41 = true) (gx_lt (gx_uI μ28 228 v4_9.toNatClampNeg r29) (fun (μ31 : gx_M) => L_X12_halves_37 k11 n x3_27 (v4_9 + (-1)) μ31)))) 4000 1 2 μ10
def f_X12_halves (p1 : Int32) (p2 : Bool) (μ : gx_M) : Option (Int32 × gx_M) := gx_lt (gx_uI μ 206 0 0) (fun (μ1 : gx_M) => gx_bd (f_X12_hand p1 μ1) (fun (r2 : Bool) (μ3 : gx_M) => if r2 = true then gx_ck (gx_ix (μ3.1 206 25) 41 = true) (gx_lt (gx_uI μ3 228 (μ3.1 206 25).toNatClampNeg 0) (fun (μ6 : gx_M) => gx_lt ((μ6.1 206 25) - 1) (fun (x7 : Int32) => L_X12_halves_37 (fun (x3_34 : Int32) (μ35 : gx_M) => if p2 = true then some (x3_34, μ35) else some ((μ35.1 228 0), μ35)) 4000 0 x7 μ6))) else some ((-1000), μ3)))
theorem okL_X12_halves_47 {E : gx_E} {l : Launch} {v4_9 : Int32} {p2 : Bool} {k16 : Int32 → gx_M → Option (Int32 × gx_M)} (hk : ∀ (w25 : Int32) (μ26 : gx_M), GoW E l Y_X12_halves 3 gx_eI 96 [some (.ref (E.2.2.1 + 206)), none, some (.int (gx_bi p2)), some (.int w25), some (.int v4_9)] [] μ26 (k16 w25 μ26)) : ∀ (n : Nat) (v3_13 : Int32) (v5_14 : Int32) (μ15 : gx_M), GoW E l Y_X12_halves 3 gx_eI 47 [some (.ref (E.2.2.1 + 206)), none, some (.int (gx_bi p2)), some (.int v3_13), some (.int v4_9), some (.int v5_14)] [] μ15 (L_X12_halves_47 v4_9 k16 n v3_13 v5_14 μ15) := by
  intro n
  induction n with
  | zero => intros; exact W_no
  | succ n ih =>
    intro v3_13 v5_14 μ15
    rw [L_X12_halves_47.eq_2]
    refine W_s (s_iload dX12_halves_47 rfl) ?_
    refine W_s (s_iconst dX12_halves_49 kci_3) ?_
    refine W_ite (fun h17 => ?_) (fun h17 => ?_)
    · refine W_s (s_icmp_gt_t dX12_halves_50 rfl h17) ?_
      exact W_wk (hk v3_13 μ15) (le_s rfl (le_o (le_s rfl (le_s rfl (le_s rfl le_n)))))
    · refine W_s (s_icmp_gt_f dX12_halves_50 rfl h17) ?_
      refine W_s (s_iload dX12_halves_53 rfl) ?_
      refine W_s (s_iload dX12_halves_55 rfl) ?_
      refine W_s (s_iadd dX12_halves_57) ?_
      refine W_s (s_aload_n dX12_halves_58 rfl rfl) ?_
      refine W_s (gf_RX12_283 rfl dX12_halves_59) ?_
      refine W_ite (fun h18 => ?_) (fun h18 => ?_)
      · refine W_s (s_icmp_gt_t dX12_halves_62 rfl h18) ?_
        exact W_wk (hk v3_13 μ15) (le_s rfl (le_o (le_s rfl (le_s rfl (le_s rfl le_n)))))
      · refine W_s (s_icmp_gt_f dX12_halves_62 rfl h18) ?_
        refine W_s (s_aload_n dX12_halves_65 rfl rfl) ?_
        refine W_s (s_iload dX12_halves_66 rfl) ?_
        refine W_s (s_iload dX12_halves_68 rfl) ?_
        refine W_br (ec := gx_eI) (fun r_ hr_ => s_callV (As := [.int _, .int _]) dX12_halves_70 Lk_RX12_409 rfl g_206 (by decide) rfl (Nat.le_of_ble_eq_true rfl) (Nat.le_of_ble_eq_true rfl) (ev_X12_leadBy v4_9 v5_14 μ15 hr_)) (fun r19 => ?_)
        refine W_s (s_aload_n dX12_halves_73 rfl rfl) ?_
        refine W_s (s_iload dX12_halves_74 rfl) ?_
        refine W_s (s_iload_n dX12_halves_76 rfl rfl) ?_
        refine W_br (ec := gx_eI) (fun r_ hr_ => s_callV (As := [.int _, .int _]) dX12_halves_77 Lk_RX12_409 rfl g_206 (by decide) rfl (Nat.le_of_ble_eq_true rfl) (Nat.le_of_ble_eq_true rfl) (ev_X12_leadBy v4_9 v3_13 μ15 hr_)) (fun r20 => ?_)
        refine W_fun (fun J => ∀ (j0_23 : Int32) (μ24 : gx_M), GoW E l Y_X12_halves 3 gx_eI 89 [some (.ref (E.2.2.1 + 206)), none, some (.int (gx_bi p2)), none, some (.int v4_9), some (.int v5_14)] [.int j0_23] μ24 (J j0_23 μ24)) ?_ (fun J21 hJ21 => ?_)
        · intro j0_23 μ24
          refine W_s (s_istore_n dX12_halves_89 rfl (Nat.le_of_ble_eq_true rfl)) ?_
          refine W_s (s_iinc dX12_halves_90 rfl (kinc_1 v5_14) (Nat.le_of_ble_eq_true rfl)) ?_
          refine W_s (s_goto dX12_halves_93 rfl) ?_
          exact W_wk (ih j0_23 (v5_14 + 1) μ24) (le_s rfl (le_o (le_s rfl (le_s rfl (le_s rfl (le_s rfl le_n))))))
        · skip
          refine W_ite (fun h22 => ?_) (fun h22 => ?_)
          · refine W_s (s_icmp_le_t dX12_halves_80 rfl h22) ?_
            refine W_s (s_iload_n dX12_halves_88 rfl rfl) ?_
            exact W_wk (hJ21 v3_13 μ15) (le_s rfl (le_o (le_s rfl (le_o (le_s rfl (le_s rfl le_n))))))
          · refine W_s (s_icmp_le_f dX12_halves_80 rfl h22) ?_
            refine W_s (s_iload dX12_halves_83 rfl) ?_
            refine W_s (s_goto dX12_halves_85 rfl) ?_
            exact W_wk (hJ21 v5_14 μ15) (le_s rfl (le_o (le_s rfl (le_o (le_s rfl (le_s rfl le_n))))))
theorem okL_X12_halves_37 {E : gx_E} {l : Launch} {p2 : Bool} {k11 : Int32 → gx_M → Option (Int32 × gx_M)} (hk : ∀ (w32 : Int32) (μ33 : gx_M), GoW E l Y_X12_halves 3 gx_eI 116 [some (.ref (E.2.2.1 + 206)), none, some (.int (gx_bi p2)), some (.int w32)] [] μ33 (k11 w32 μ33)) : ∀ (n : Nat) (v3_8 : Int32) (v4_9 : Int32) (μ10 : gx_M), GoW E l Y_X12_halves 3 gx_eI 37 [some (.ref (E.2.2.1 + 206)), none, some (.int (gx_bi p2)), some (.int v3_8), some (.int v4_9)] [] μ10 (L_X12_halves_37 k11 n v3_8 v4_9 μ10) := by
  intro n
  induction n with
  | zero => intros; exact W_no
  | succ n ih =>
    intro v3_8 v4_9 μ10
    rw [L_X12_halves_37.eq_2]
    refine W_s (s_iload dX12_halves_37 rfl) ?_
    refine W_ite (fun h12 => ?_) (fun h12 => ?_)
    · refine W_s (s_if_lt_t dX12_halves_39 rfl h12) ?_
      exact W_wk (hk v3_8 μ10) (le_s rfl (le_o (le_s rfl (le_s rfl le_n))))
    · refine W_s (s_if_lt_f dX12_halves_39 rfl h12) ?_
      refine W_s (s_iconst dX12_halves_42 kci_1) ?_
      refine W_s (s_istore_n dX12_halves_43 rfl (Nat.le_of_ble_eq_true rfl)) ?_
      refine W_s (s_iconst dX12_halves_44 kci_2) ?_
      refine W_s (s_istore dX12_halves_45 (Nat.le_of_ble_eq_true rfl)) ?_
      refine W_wk (okL_X12_halves_47 ?_ 4000 1 2 μ10) (le_s rfl (le_o (le_s rfl (le_s rfl (le_s rfl (le_s rfl le_n))))))
      intro x3_27 μ28
      refine W_s (s_aload_n dX12_halves_96 rfl rfl) ?_
      refine W_s (gf_RX12_75 rfl dX12_halves_97) ?_
      refine W_s (s_iload dX12_halves_100 rfl) ?_
      refine W_s (s_aload_n dX12_halves_102 rfl rfl) ?_
      refine W_s (s_iload dX12_halves_103 rfl) ?_
      refine W_s (s_iload_n dX12_halves_105 rfl rfl) ?_
      refine W_br (ec := gx_eI) (fun r_ hr_ => s_callV (As := [.int _, .int _]) dX12_halves_106 Lk_RX12_409 rfl g_206 (by decide) rfl (Nat.le_of_ble_eq_true rfl) (Nat.le_of_ble_eq_true rfl) (ev_X12_leadBy v4_9 x3_27 μ28 hr_)) (fun r29 => ?_)
      refine W_ck (fun h30 => ?_)
      refine W_s (s_iast dX12_halves_109 g_228 (gx_ixv h30)) ?_
      refine W_letM (fun μ31 => ?_)
      refine W_s (s_iinc dX12_halves_110 rfl (kinc_m1 v4_9) (Nat.le_of_ble_eq_true rfl)) ?_
      refine W_s (s_goto dX12_halves_113 rfl) ?_
      exact W_wk (ih x3_27 (v4_9 + (-1)) μ31) (le_s rfl (le_o (le_s rfl (le_s rfl (le_s rfl le_n)))))
theorem ev_X12_halves {E : gx_E} {l : Launch} (p1 : Int32) (p2 : Bool) (μ : gx_M) {r : Int32} {μ' : gx_M} (hr : f_X12_halves p1 p2 μ = some (r, μ')) : gEv E l 3 Y_X12_halves [.ref (E.2.2.1 + 206), .int p1, .int (gx_bi p2)] gx_G1 μ (gx_eI r) gx_G1 μ' := by
  refine W_ev (by decide) (Nat.le_of_ble_eq_true rfl) (em := gx_eI) (T := f_X12_halves p1 p2 μ) ?_ hr
  show GoW E l Y_X12_halves 3 gx_eI 0 (gx_el [.ref (E.2.2.1 + 206), .int p1, .int (gx_bi p2)]) [] μ (f_X12_halves p1 p2 μ)
  unfold f_X12_halves
  refine W_s (s_aload_n dX12_halves_0 rfl rfl) ?_
  refine W_s (s_iconst dX12_halves_1 kci_0) ?_
  refine W_s (pf_RX12_100 rfl dX12_halves_2) ?_
  refine W_letM (fun μ1 => ?_)
  refine W_s (s_aload_n dX12_halves_5 rfl rfl) ?_
  refine W_s (s_iload_n dX12_halves_6 rfl rfl) ?_
  refine W_bd (ec := gx_eB) (fun r_ μ_ hr_ => s_callV (As := [.int _]) dX12_halves_7 Lk_RX12_298 rfl g_206 (by decide) rfl (Nat.le_of_ble_eq_true rfl) (Nat.le_of_ble_eq_true rfl) (ev_X12_hand p1 μ1 hr_)) (fun r2 μ3 => ?_)
  refine W_ite (fun h4 => ?_) (fun h4 => ?_)
  · refine W_s (s_if_ne_t dX12_halves_10 rfl (gx_bt h4)) ?_
    refine W_s (s_iconst dX12_halves_17 kci_0) ?_
    refine W_s (s_istore_n dX12_halves_18 rfl (Nat.le_of_ble_eq_true rfl)) ?_
    refine W_s (s_aload_n dX12_halves_19 rfl rfl) ?_
    refine W_s (gf_RX12_75 rfl dX12_halves_20) ?_
    refine W_s (s_aload_n dX12_halves_23 rfl rfl) ?_
    refine W_s (gf_RX12_283 rfl dX12_halves_24) ?_
    refine W_s (s_iconst dX12_halves_27 kci_0) ?_
    refine W_ck (fun h5 => ?_)
    refine W_s (s_iast dX12_halves_28 g_228 (gx_ixv h5)) ?_
    refine W_letM (fun μ6 => ?_)
    refine W_s (s_aload_n dX12_halves_29 rfl rfl) ?_
    refine W_s (gf_RX12_283 rfl dX12_halves_30) ?_
    refine W_s (s_iconst dX12_halves_33 kci_1) ?_
    refine W_s (s_isub dX12_halves_34) ?_
    refine W_letI (fun x7 => ?_)
    refine W_s (s_istore dX12_halves_35 (Nat.le_of_ble_eq_true rfl)) ?_
    refine W_wk (okL_X12_halves_37 ?_ 4000 0 x7 μ6) (le_s rfl (le_o (le_s rfl (le_s rfl (le_s rfl le_n)))))
    intro x3_34 μ35
    refine W_s (s_iload_n dX12_halves_116 rfl rfl) ?_
    refine W_ite (fun h36 => ?_) (fun h36 => ?_)
    · refine W_s (s_if_eq_f dX12_halves_117 rfl (gx_bt h36)) ?_
      refine W_s (s_iload_n dX12_halves_120 rfl rfl) ?_
      refine W_s (s_goto dX12_halves_121 rfl) ?_
      exact W_r (r := x3_34) (f_int (ty := .int) dX12_halves_130 rfl rfl)
    · refine W_s (s_if_eq_t dX12_halves_117 rfl (gx_bf h36)) ?_
      refine W_s (s_aload_n dX12_halves_124 rfl rfl) ?_
      refine W_s (gf_RX12_75 rfl dX12_halves_125) ?_
      refine W_s (s_iconst dX12_halves_128 kci_0) ?_
      refine W_s (s_ialdL (k := 0) dX12_halves_129 g_228 (gx_inl (by decide)) (by decide)) ?_
      exact W_r (r := (μ35.1 228 0)) (f_int (ty := .int) dX12_halves_130 rfl rfl)
  · refine W_s (s_if_ne_f dX12_halves_10 rfl (gx_bf h4)) ?_
    refine W_s (s_sipush dX12_halves_13 kcs_m1000) ?_
    exact W_r (r := (-1000)) (f_int (ty := .int) dX12_halves_16 rfl rfl)

def L_X12_free_36 (p2 : Int32) (k11 : Int32 → Int32 → gx_M → Option (Int32 × gx_M)) : Nat → Int32 → Int32 → Int32 → Int32 → gx_M → Option (Int32 × gx_M)
  | 0, _, _, _, _, _ => none
  | n + 1, v4_6, v5_7, v6_8, v7_9, μ10 => if (μ10.1 206 25) ≤ v7_9 then k11 v4_6 v5_7 μ10 else gx_ck (gx_ix v7_9 40 = true) (gx_lt (fun (j0_16 : Int32) (μ17 : gx_M) => gx_lt (fun (j0_20 : Int32) (μ21 : gx_M) => gx_lt (f_X12_greater v5_7 j0_16) (fun (x22 : Int32) => L_X12_free_36 p2 k11 n j0_20 x22 j0_16 (v7_9 + 1) μ21)) (fun J18 => if j0_16 ≤ v5_7 then J18 v4_6 μ17 else J18 ((v7_9 + 1) - j0_16) μ17)) (fun J14 => if (μ10.1 220 v7_9.toNatClampNeg) = p2 then J14 (v6_8 + 1) μ10 else J14 0 μ10))
def f_X12_free (p1 : Int32) (p2 : Int32) (p3 : Bool) (μ : gx_M) : Option (Int32 × gx_M) := gx_lt (gx_uI μ 206 0 0) (fun (μ1 : gx_M) => gx_bd (f_X12_hand p1 μ1) (fun (r2 : Bool) (μ3 : gx_M) => if r2 = true then if (f_X12_isPerson p2 μ3) = true then L_X12_free_36 p2 (fun (x4_26 : Int32) (x5_27 : Int32) (μ28 : gx_M) => if p3 = true then some (x4_26, μ28) else some (x5_27, μ28)) 4000 (-1) 0 0 0 μ3 else some ((-2), μ3) else some ((-2), μ3)))
theorem okL_X12_free_36 {E : gx_E} {l : Launch} {p2 : Int32} {p3 : Bool} {k11 : Int32 → Int32 → gx_M → Option (Int32 × gx_M)} (hk : ∀ (w23 : Int32) (w24 : Int32) (μ25 : gx_M), GoW E l Y_X12_free 3 gx_eI 102 [none, none, none, some (.int (gx_bi p3)), some (.int w23), some (.int w24)] [] μ25 (k11 w23 w24 μ25)) : ∀ (n : Nat) (v4_6 : Int32) (v5_7 : Int32) (v6_8 : Int32) (v7_9 : Int32) (μ10 : gx_M), GoW E l Y_X12_free 3 gx_eI 36 [some (.ref (E.2.2.1 + 206)), none, some (.int p2), some (.int (gx_bi p3)), some (.int v4_6), some (.int v5_7), some (.int v6_8), some (.int v7_9)] [] μ10 (L_X12_free_36 p2 k11 n v4_6 v5_7 v6_8 v7_9 μ10) := by
  intro n
  induction n with
  | zero => intros; exact W_no
  | succ n ih =>
    intro v4_6 v5_7 v6_8 v7_9 μ10
    rw [L_X12_free_36.eq_2]
    refine W_s (s_iload dX12_free_36 rfl) ?_
    refine W_s (s_aload_n dX12_free_38 rfl rfl) ?_
    refine W_s (gf_RX12_283 rfl dX12_free_39) ?_
    refine W_ite (fun h12 => ?_) (fun h12 => ?_)
    · refine W_s (s_icmp_ge_t dX12_free_42 rfl h12) ?_
      exact W_wk (hk v4_6 v5_7 μ10) (le_o (le_o (le_o (le_s rfl (le_s rfl (le_s rfl le_n))))))
    · refine W_s (s_icmp_ge_f dX12_free_42 rfl h12) ?_
      refine W_s (s_aload_n dX12_free_45 rfl rfl) ?_
      refine W_s (gf_RX12_50 rfl dX12_free_46) ?_
      refine W_s (s_iload dX12_free_49 rfl) ?_
      refine W_ck (fun h13 => ?_)
      refine W_s (s_iald dX12_free_51 g_220 (gx_ixv h13)) ?_
      refine W_s (s_iload_n dX12_free_52 rfl rfl) ?_
      refine W_fun (fun J => ∀ (j0_16 : Int32) (μ17 : gx_M), GoW E l Y_X12_free 3 gx_eI 64 [some (.ref (E.2.2.1 + 206)), none, some (.int p2), some (.int (gx_bi p3)), some (.int v4_6), some (.int v5_7), none, some (.int v7_9)] [.int j0_16] μ17 (J j0_16 μ17)) ?_ (fun J14 hJ14 => ?_)
      · intro j0_16 μ17
        refine W_s (s_istore dX12_free_64 (Nat.le_of_ble_eq_true rfl)) ?_
        refine W_s (s_iload dX12_free_66 rfl) ?_
        refine W_s (s_iload dX12_free_68 rfl) ?_
        refine W_fun (fun J => ∀ (j0_20 : Int32) (μ21 : gx_M), GoW E l Y_X12_free 3 gx_eI 85 [some (.ref (E.2.2.1 + 206)), none, some (.int p2), some (.int (gx_bi p3)), none, some (.int v5_7), some (.int j0_16), some (.int v7_9)] [.int j0_20] μ21 (J j0_20 μ21)) ?_ (fun J18 hJ18 => ?_)
        · intro j0_20 μ21
          refine W_s (s_istore dX12_free_85 (Nat.le_of_ble_eq_true rfl)) ?_
          refine W_s (s_iload dX12_free_87 rfl) ?_
          refine W_s (s_iload dX12_free_89 rfl) ?_
          refine W_s (s_callS (As := [.int _, .int _]) dX12_free_91 Lk_RX12_173 rfl (Nat.le_of_ble_eq_true rfl) (Nat.le_of_ble_eq_true rfl) (ev_X12_greater v5_7 j0_16 μ21)) ?_
          refine W_letI (fun x22 => ?_)
          refine W_s (s_istore dX12_free_94 (Nat.le_of_ble_eq_true rfl)) ?_
          refine W_s (s_iinc dX12_free_96 rfl (kinc_1 v7_9) (Nat.le_of_ble_eq_true rfl)) ?_
          refine W_s (s_goto dX12_free_99 rfl) ?_
          exact W_wk (ih j0_20 x22 j0_16 (v7_9 + 1) μ21) (le_s rfl (le_o (le_s rfl (le_s rfl (le_s rfl (le_s rfl (le_s rfl (le_s rfl le_n))))))))
        · skip
          refine W_ite (fun h19 => ?_) (fun h19 => ?_)
          · refine W_s (s_icmp_le_t dX12_free_70 rfl h19) ?_
            refine W_s (s_iload dX12_free_83 rfl) ?_
            exact W_wk (hJ18 v4_6 μ17) (le_s rfl (le_o (le_s rfl (le_s rfl (le_o (le_s rfl (le_s rfl (le_s rfl le_n))))))))
          · refine W_s (s_icmp_le_f dX12_free_70 rfl h19) ?_
            refine W_s (s_iload dX12_free_73 rfl) ?_
            refine W_s (s_iconst dX12_free_75 kci_1) ?_
            refine W_s (s_iadd dX12_free_76) ?_
            refine W_s (s_iload dX12_free_77 rfl) ?_
            refine W_s (s_isub dX12_free_79) ?_
            refine W_s (s_goto dX12_free_80 rfl) ?_
            exact W_wk (hJ18 ((v7_9 + 1) - j0_16) μ17) (le_s rfl (le_o (le_s rfl (le_s rfl (le_o (le_s rfl (le_s rfl (le_s rfl le_n))))))))
      · skip
        refine W_ite (fun h15 => ?_) (fun h15 => ?_)
        · refine W_s (s_icmp_ne_f dX12_free_53 rfl h15) ?_
          refine W_s (s_iload dX12_free_56 rfl) ?_
          refine W_s (s_iconst dX12_free_58 kci_1) ?_
          refine W_s (s_iadd dX12_free_59) ?_
          refine W_s (s_goto dX12_free_60 rfl) ?_
          exact W_wk (hJ14 (v6_8 + 1) μ10) (le_s rfl (le_o (le_s rfl (le_s rfl (le_s rfl (le_s rfl (le_o (le_s rfl le_n))))))))
        · refine W_s (s_icmp_ne_t dX12_free_53 rfl h15) ?_
          refine W_s (s_iconst dX12_free_63 kci_0) ?_
          exact W_wk (hJ14 0 μ10) (le_s rfl (le_o (le_s rfl (le_s rfl (le_s rfl (le_s rfl (le_o (le_s rfl le_n))))))))
theorem ev_X12_free {E : gx_E} {l : Launch} (p1 : Int32) (p2 : Int32) (p3 : Bool) (μ : gx_M) {r : Int32} {μ' : gx_M} (hr : f_X12_free p1 p2 p3 μ = some (r, μ')) : gEv E l 3 Y_X12_free [.ref (E.2.2.1 + 206), .int p1, .int p2, .int (gx_bi p3)] gx_G1 μ (gx_eI r) gx_G1 μ' := by
  refine W_ev (by decide) (Nat.le_of_ble_eq_true rfl) (em := gx_eI) (T := f_X12_free p1 p2 p3 μ) ?_ hr
  show GoW E l Y_X12_free 3 gx_eI 0 (gx_el [.ref (E.2.2.1 + 206), .int p1, .int p2, .int (gx_bi p3)]) [] μ (f_X12_free p1 p2 p3 μ)
  unfold f_X12_free
  refine W_s (s_aload_n dX12_free_0 rfl rfl) ?_
  refine W_s (s_iconst dX12_free_1 kci_0) ?_
  refine W_s (pf_RX12_100 rfl dX12_free_2) ?_
  refine W_letM (fun μ1 => ?_)
  refine W_s (s_aload_n dX12_free_5 rfl rfl) ?_
  refine W_s (s_iload_n dX12_free_6 rfl rfl) ?_
  refine W_bd (ec := gx_eB) (fun r_ μ_ hr_ => s_callV (As := [.int _]) dX12_free_7 Lk_RX12_298 rfl g_206 (by decide) rfl (Nat.le_of_ble_eq_true rfl) (Nat.le_of_ble_eq_true rfl) (ev_X12_hand p1 μ1 hr_)) (fun r2 μ3 => ?_)
  refine W_ite (fun h4 => ?_) (fun h4 => ?_)
  · refine W_s (s_if_eq_f dX12_free_10 rfl (gx_bt h4)) ?_
    refine W_s (s_aload_n dX12_free_13 rfl rfl) ?_
    refine W_s (s_iload_n dX12_free_14 rfl rfl) ?_
    refine W_s (s_callV (As := [.int _]) dX12_free_15 Lk_RX12_316 rfl g_206 (by decide) rfl (Nat.le_of_ble_eq_true rfl) (Nat.le_of_ble_eq_true rfl) (ev_X12_isPerson p2 μ3)) ?_
    refine W_ite (fun h5 => ?_) (fun h5 => ?_)
    · refine W_s (s_if_ne_t dX12_free_18 rfl (gx_bt h5)) ?_
      refine W_s (s_iconst dX12_free_24 kci_m1) ?_
      refine W_s (s_istore dX12_free_25 (Nat.le_of_ble_eq_true rfl)) ?_
      refine W_s (s_iconst dX12_free_27 kci_0) ?_
      refine W_s (s_istore dX12_free_28 (Nat.le_of_ble_eq_true rfl)) ?_
      refine W_s (s_iconst dX12_free_30 kci_0) ?_
      refine W_s (s_istore dX12_free_31 (Nat.le_of_ble_eq_true rfl)) ?_
      refine W_s (s_iconst dX12_free_33 kci_0) ?_
      refine W_s (s_istore dX12_free_34 (Nat.le_of_ble_eq_true rfl)) ?_
      refine W_wk (okL_X12_free_36 ?_ 4000 (-1) 0 0 0 μ3) (le_s rfl (le_o (le_s rfl (le_s rfl (le_s rfl (le_s rfl (le_s rfl (le_s rfl le_n))))))))
      intro x4_26 x5_27 μ28
      refine W_s (s_iload_n dX12_free_102 rfl rfl) ?_
      refine W_ite (fun h29 => ?_) (fun h29 => ?_)
      · refine W_s (s_if_eq_f dX12_free_103 rfl (gx_bt h29)) ?_
        refine W_s (s_iload dX12_free_106 rfl) ?_
        refine W_s (s_goto dX12_free_108 rfl) ?_
        exact W_r (r := x4_26) (f_int (ty := .int) dX12_free_113 rfl rfl)
      · refine W_s (s_if_eq_t dX12_free_103 rfl (gx_bf h29)) ?_
        refine W_s (s_iload dX12_free_111 rfl) ?_
        exact W_r (r := x5_27) (f_int (ty := .int) dX12_free_113 rfl rfl)
    · refine W_s (s_if_ne_f dX12_free_18 rfl (gx_bf h5)) ?_
      refine W_s (s_bipush dX12_free_21 kcb_m2) ?_
      exact W_r (r := (-2)) (f_int (ty := .int) dX12_free_23 rfl rfl)
  · refine W_s (s_if_eq_t dX12_free_10 rfl (gx_bf h4)) ?_
    refine W_s (s_bipush dX12_free_21 kcb_m2) ?_
    exact W_r (r := (-2)) (f_int (ty := .int) dX12_free_23 rfl rfl)

def L_X12_findRuns_20 (v5_2 : Int32) (p1 : Int64) (p3 : Int64) (k8 : gx_M → Option (Unit × gx_M)) : Nat → Int32 → gx_M → Option (Unit × gx_M)
  | 0, _, _ => none
  | n + 1, v6_6, μ7 => if (μ7.1 206 25) ≤ v6_6 then k8 μ7 else gx_br (f_X12_mayBegin v5_2 v6_6 μ7) (fun (r10 : Bool) => gx_lt (fun (j0_14 : Int64) (μ15 : gx_M) => gx_lt (fun (μ23 : gx_M) => L_X12_findRuns_20 v5_2 p1 p3 k8 n (v6_6 + 1) μ23) (fun J16 => if j0_14 = 0 then J16 μ15 else if (j0_14 &&& p1) = 0 then if (j0_14 &&& (p3 ^^^ (-1))) = 0 then gx_ck (gx_ix (μ15.1 206 44) 240 = true) (gx_lt (gx_uL μ15 229 (μ15.1 206 44).toNatClampNeg j0_14) (fun (μ21 : gx_M) => gx_lt (gx_uI μ21 206 44 ((μ21.1 206 44) + 1)) (fun (μ22 : gx_M) => J16 μ22))) else J16 μ15 else J16 μ15)) (fun J11 => if r10 = true then gx_br (f_X12_runBits v5_2 v6_6 μ7) (fun (r13 : Int64) => J11 r13 μ7) else J11 0 μ7))
def L_X12_findRuns_8 (p1 : Int64) (p3 : Int64) (k4 : gx_M → Option (Unit × gx_M)) : Nat → Int32 → gx_M → Option (Unit × gx_M)
  | 0, _, _ => none
  | n + 1, v5_2, μ3 => if (μ3.1 206 27) ≤ v5_2 then k4 μ3 else L_X12_findRuns_20 v5_2 p1 p3 (fun (μ25 : gx_M) => L_X12_findRuns_8 p1 p3 k4 n (v5_2 + 1) μ25) 4000 0 μ3
def f_X12_findRuns (p1 : Int64) (p3 : Int64) (μ : gx_M) : Option (Unit × gx_M) := gx_lt (gx_uI μ 206 44 0) (fun (μ1 : gx_M) => L_X12_findRuns_8 p1 p3 (fun (μ27 : gx_M) => some ((), μ27)) 4000 0 μ1)
theorem okL_X12_findRuns_20 {E : gx_E} {l : Launch} {v5_2 : Int32} {p1 : Int64} {p3 : Int64} {k8 : gx_M → Option (Unit × gx_M)} (hk : ∀ (μ24 : gx_M), GoW E l Y_X12_findRuns 3 gx_eV 110 [some (.ref (E.2.2.1 + 206)), some (.long p1), none, some (.long p3), none, some (.int v5_2)] [] μ24 (k8 μ24)) : ∀ (n : Nat) (v6_6 : Int32) (μ7 : gx_M), GoW E l Y_X12_findRuns 3 gx_eV 20 [some (.ref (E.2.2.1 + 206)), some (.long p1), none, some (.long p3), none, some (.int v5_2), some (.int v6_6)] [] μ7 (L_X12_findRuns_20 v5_2 p1 p3 k8 n v6_6 μ7) := by
  intro n
  induction n with
  | zero => intros; exact W_no
  | succ n ih =>
    intro v6_6 μ7
    rw [L_X12_findRuns_20.eq_2]
    refine W_s (s_iload dX12_findRuns_20 rfl) ?_
    refine W_s (s_aload_n dX12_findRuns_22 rfl rfl) ?_
    refine W_s (gf_RX12_283 rfl dX12_findRuns_23) ?_
    refine W_ite (fun h9 => ?_) (fun h9 => ?_)
    · refine W_s (s_icmp_ge_t dX12_findRuns_26 rfl h9) ?_
      exact W_wk (hk μ7) (le_s rfl (le_s rfl (le_o (le_s rfl (le_o (le_s rfl le_n))))))
    · refine W_s (s_icmp_ge_f dX12_findRuns_26 rfl h9) ?_
      refine W_s (s_aload_n dX12_findRuns_29 rfl rfl) ?_
      refine W_s (s_iload dX12_findRuns_30 rfl) ?_
      refine W_s (s_iload dX12_findRuns_32 rfl) ?_
      refine W_br (ec := gx_eB) (fun r_ hr_ => s_callV (As := [.int _, .int _]) dX12_findRuns_34 Lk_RX12_325 rfl g_206 (by decide) rfl (Nat.le_of_ble_eq_true rfl) (Nat.le_of_ble_eq_true rfl) (ev_X12_mayBegin v5_2 v6_6 μ7 hr_)) (fun r10 => ?_)
      refine W_fun (fun J => ∀ (j0_14 : Int64) (μ15 : gx_M), GoW E l Y_X12_findRuns 3 gx_eV 52 [some (.ref (E.2.2.1 + 206)), some (.long p1), none, some (.long p3), none, some (.int v5_2), some (.int v6_6)] [.long j0_14] μ15 (J j0_14 μ15)) ?_ (fun J11 hJ11 => ?_)
      · intro j0_14 μ15
        refine W_s (s_lstore dX12_findRuns_52 (Nat.le_of_ble_eq_true rfl)) ?_
        refine W_s (s_lload dX12_findRuns_54 rfl) ?_
        refine W_s (s_lconst dX12_findRuns_56 kcl_0) ?_
        refine W_s (s_lcmp dX12_findRuns_57) ?_
        refine W_fun (fun J => ∀ (μ23 : gx_M), GoW E l Y_X12_findRuns 3 gx_eV 104 [some (.ref (E.2.2.1 + 206)), some (.long p1), none, some (.long p3), none, some (.int v5_2), some (.int v6_6)] [] μ23 (J μ23)) ?_ (fun J16 hJ16 => ?_)
        · intro μ23
          refine W_s (s_iinc dX12_findRuns_104 rfl (kinc_1 v6_6) (Nat.le_of_ble_eq_true rfl)) ?_
          refine W_s (s_goto dX12_findRuns_107 rfl) ?_
          exact W_wk (ih (v6_6 + 1) μ23) (le_s rfl (le_s rfl (le_o (le_s rfl (le_o (le_s rfl (le_s rfl le_n)))))))
        · skip
          refine W_ite (fun h17 => ?_) (fun h17 => ?_)
          · refine W_s (s_if_eq_t dX12_findRuns_58 rfl ((lgc_eq j0_14 0).mpr h17)) ?_
            exact W_wk (hJ16 μ15) (le_s rfl (le_s rfl (le_o (le_s rfl (le_o (le_s rfl (le_s rfl le_n)))))))
          · refine W_s (s_if_eq_f dX12_findRuns_58 rfl (fun hc => h17 ((lgc_eq j0_14 0).mp hc))) ?_
            refine W_s (s_lload dX12_findRuns_61 rfl) ?_
            refine W_s (s_lload_n dX12_findRuns_63 rfl rfl) ?_
            refine W_s (s_land dX12_findRuns_64) ?_
            refine W_s (s_lconst dX12_findRuns_65 kcl_0) ?_
            refine W_s (s_lcmp dX12_findRuns_66) ?_
            refine W_ite (fun h18 => ?_) (fun h18 => ?_)
            · refine W_s (s_if_ne_f dX12_findRuns_67 rfl ((lgc_eq (j0_14 &&& p1) 0).mpr h18)) ?_
              refine W_s (s_lload dX12_findRuns_70 rfl) ?_
              refine W_s (s_lload_n dX12_findRuns_72 rfl rfl) ?_
              refine W_s (s_ldc2 dX12_findRuns_73 kw_RX12_419) ?_
              refine W_s (s_lxor dX12_findRuns_76) ?_
              refine W_s (s_land dX12_findRuns_77) ?_
              refine W_s (s_lconst dX12_findRuns_78 kcl_0) ?_
              refine W_s (s_lcmp dX12_findRuns_79) ?_
              refine W_ite (fun h19 => ?_) (fun h19 => ?_)
              · refine W_s (s_if_ne_f dX12_findRuns_80 rfl ((lgc_eq (j0_14 &&& (p3 ^^^ (-1))) 0).mpr h19)) ?_
                refine W_s (s_aload_n dX12_findRuns_83 rfl rfl) ?_
                refine W_s (gf_RX12_78 rfl dX12_findRuns_84) ?_
                refine W_s (s_aload_n dX12_findRuns_87 rfl rfl) ?_
                refine W_s (gf_RX12_412 rfl dX12_findRuns_88) ?_
                refine W_s (s_lload dX12_findRuns_91 rfl) ?_
                refine W_ck (fun h20 => ?_)
                refine W_s (s_last dX12_findRuns_93 g_229 (gx_ixv h20)) ?_
                refine W_letM (fun μ21 => ?_)
                refine W_s (s_aload_n dX12_findRuns_94 rfl rfl) ?_
                refine W_s (s_dup dX12_findRuns_95 rfl) ?_
                refine W_s (gf_RX12_412 rfl dX12_findRuns_96) ?_
                refine W_s (s_iconst dX12_findRuns_99 kci_1) ?_
                refine W_s (s_iadd dX12_findRuns_100) ?_
                refine W_s (pf_RX12_412 rfl dX12_findRuns_101) ?_
                refine W_letM (fun μ22 => ?_)
                exact W_wk (hJ16 μ22) (le_s rfl (le_s rfl (le_o (le_s rfl (le_o (le_s rfl (le_s rfl le_n)))))))
              · refine W_s (s_if_ne_t dX12_findRuns_80 rfl (fun hc => h19 ((lgc_eq (j0_14 &&& (p3 ^^^ (-1))) 0).mp hc))) ?_
                exact W_wk (hJ16 μ15) (le_s rfl (le_s rfl (le_o (le_s rfl (le_o (le_s rfl (le_s rfl le_n)))))))
            · refine W_s (s_if_ne_t dX12_findRuns_67 rfl (fun hc => h18 ((lgc_eq (j0_14 &&& p1) 0).mp hc))) ?_
              exact W_wk (hJ16 μ15) (le_s rfl (le_s rfl (le_o (le_s rfl (le_o (le_s rfl (le_s rfl le_n)))))))
      · skip
        refine W_ite (fun h12 => ?_) (fun h12 => ?_)
        · refine W_s (s_if_eq_f dX12_findRuns_37 rfl (gx_bt h12)) ?_
          refine W_s (s_aload_n dX12_findRuns_40 rfl rfl) ?_
          refine W_s (s_iload dX12_findRuns_41 rfl) ?_
          refine W_s (s_iload dX12_findRuns_43 rfl) ?_
          refine W_br (ec := gx_eL) (fun r_ hr_ => s_callV (As := [.int _, .int _]) dX12_findRuns_45 Lk_RX12_415 rfl g_206 (by decide) rfl (Nat.le_of_ble_eq_true rfl) (Nat.le_of_ble_eq_true rfl) (ev_X12_runBits v5_2 v6_6 μ7 hr_)) (fun r13 => ?_)
          refine W_s (s_goto dX12_findRuns_48 rfl) ?_
          exact W_wk (hJ11 r13 μ7) (le_s rfl (le_s rfl (le_o (le_s rfl (le_o (le_s rfl (le_s rfl le_n)))))))
        · refine W_s (s_if_eq_t dX12_findRuns_37 rfl (gx_bf h12)) ?_
          refine W_s (s_lconst dX12_findRuns_51 kcl_0) ?_
          exact W_wk (hJ11 0 μ7) (le_s rfl (le_s rfl (le_o (le_s rfl (le_o (le_s rfl (le_s rfl le_n)))))))
theorem okL_X12_findRuns_8 {E : gx_E} {l : Launch} {p1 : Int64} {p3 : Int64} {k4 : gx_M → Option (Unit × gx_M)} (hk : ∀ (μ26 : gx_M), GoW E l Y_X12_findRuns 3 gx_eV 116 [] [] μ26 (k4 μ26)) : ∀ (n : Nat) (v5_2 : Int32) (μ3 : gx_M), GoW E l Y_X12_findRuns 3 gx_eV 8 [some (.ref (E.2.2.1 + 206)), some (.long p1), none, some (.long p3), none, some (.int v5_2)] [] μ3 (L_X12_findRuns_8 p1 p3 k4 n v5_2 μ3) := by
  intro n
  induction n with
  | zero => intros; exact W_no
  | succ n ih =>
    intro v5_2 μ3
    rw [L_X12_findRuns_8.eq_2]
    refine W_s (s_iload dX12_findRuns_8 rfl) ?_
    refine W_s (s_aload_n dX12_findRuns_10 rfl rfl) ?_
    refine W_s (gf_RX12_289 rfl dX12_findRuns_11) ?_
    refine W_ite (fun h5 => ?_) (fun h5 => ?_)
    · refine W_s (s_icmp_ge_t dX12_findRuns_14 rfl h5) ?_
      exact W_wk (hk μ3) le_n
    · refine W_s (s_icmp_ge_f dX12_findRuns_14 rfl h5) ?_
      refine W_s (s_iconst dX12_findRuns_17 kci_0) ?_
      refine W_s (s_istore dX12_findRuns_18 (Nat.le_of_ble_eq_true rfl)) ?_
      refine W_wk (okL_X12_findRuns_20 ?_ 4000 0 μ3) (le_s rfl (le_s rfl (le_o (le_s rfl (le_o (le_s rfl (le_s rfl le_n)))))))
      intro μ25
      refine W_s (s_iinc dX12_findRuns_110 rfl (kinc_1 v5_2) (Nat.le_of_ble_eq_true rfl)) ?_
      refine W_s (s_goto dX12_findRuns_113 rfl) ?_
      exact W_wk (ih (v5_2 + 1) μ25) (le_s rfl (le_s rfl (le_o (le_s rfl (le_o (le_s rfl le_n))))))
theorem ev_X12_findRuns {E : gx_E} {l : Launch} (p1 : Int64) (p3 : Int64) (μ : gx_M) {r : Unit} {μ' : gx_M} (hr : f_X12_findRuns p1 p3 μ = some (r, μ')) : gEv E l 3 Y_X12_findRuns [.ref (E.2.2.1 + 206), .long p1, .long p3] gx_G1 μ (gx_eV r) gx_G1 μ' := by
  refine W_ev (by decide) (Nat.le_of_ble_eq_true rfl) (em := gx_eV) (T := f_X12_findRuns p1 p3 μ) ?_ hr
  show GoW E l Y_X12_findRuns 3 gx_eV 0 (gx_el [.ref (E.2.2.1 + 206), .long p1, .long p3]) [] μ (f_X12_findRuns p1 p3 μ)
  unfold f_X12_findRuns
  refine W_s (s_aload_n dX12_findRuns_0 rfl rfl) ?_
  refine W_s (s_iconst dX12_findRuns_1 kci_0) ?_
  refine W_s (pf_RX12_412 rfl dX12_findRuns_2) ?_
  refine W_letM (fun μ1 => ?_)
  refine W_s (s_iconst dX12_findRuns_5 kci_0) ?_
  refine W_s (s_istore dX12_findRuns_6 (Nat.le_of_ble_eq_true rfl)) ?_
  refine W_wk (okL_X12_findRuns_8 ?_ 4000 0 μ1) (le_s rfl (le_s rfl (le_o (le_s rfl (le_o (le_s rfl le_n))))))
  intro μ27
  exact W_r (r := ()) (f_void dX12_findRuns_116 rfl)

def f_X12_fits (p1 : Int32) (p2 : Int32) (μ : gx_M) : Option (Int32 × gx_M) := gx_lt (gx_uI μ 206 0 0) (fun (μ1 : gx_M) => gx_bd (f_X12_layLog p1 μ1) (fun (r2 : Bool) (μ3 : gx_M) => if r2 = true then if p2 < 10 then if p2 = 0 then some ((μ3.1 206 48), μ3) else if p2 = 1 then gx_lt (fun (j0_10 : Bool) (μ11 : gx_M) => gx_br (f_X12_sureOf j0_10 μ11) (fun (r12 : Int32) => some (r12, μ11))) (fun J8 => if p2 = 1 then J8 true μ3 else J8 false μ3) else if p2 = 2 then gx_lt (fun (j0_16 : Bool) (μ17 : gx_M) => gx_br (f_X12_sureOf j0_16 μ17) (fun (r18 : Int32) => some (r18, μ17))) (fun J14 => if p2 = 1 then J14 true μ3 else J14 false μ3) else if p2 = 3 then gx_br (f_X12_seek μ3) (fun (r20 : Int32) => some (r20, μ3)) else some ((-2), μ3) else if (μ3.1 206 48) ≤ (p2 - 10) then some ((-2), μ3) else gx_ck (gx_ix (p2 - 10) 820 = true) (some ((μ3.1 231 (p2 - 10).toNatClampNeg), μ3)) else some ((-2), μ3)))
theorem ev_X12_fits {E : gx_E} {l : Launch} (p1 : Int32) (p2 : Int32) (μ : gx_M) {r : Int32} {μ' : gx_M} (hr : f_X12_fits p1 p2 μ = some (r, μ')) : gEv E l 3 Y_X12_fits [.ref (E.2.2.1 + 206), .int p1, .int p2] gx_G1 μ (gx_eI r) gx_G1 μ' := by
  refine W_ev (by decide) (Nat.le_of_ble_eq_true rfl) (em := gx_eI) (T := f_X12_fits p1 p2 μ) ?_ hr
  show GoW E l Y_X12_fits 3 gx_eI 0 (gx_el [.ref (E.2.2.1 + 206), .int p1, .int p2]) [] μ (f_X12_fits p1 p2 μ)
  unfold f_X12_fits
  refine W_s (s_aload_n dX12_fits_0 rfl rfl) ?_
  refine W_s (s_iconst dX12_fits_1 kci_0) ?_
  refine W_s (pf_RX12_100 rfl dX12_fits_2) ?_
  refine W_letM (fun μ1 => ?_)
  refine W_s (s_aload_n dX12_fits_5 rfl rfl) ?_
  refine W_s (s_iload_n dX12_fits_6 rfl rfl) ?_
  refine W_bd (ec := gx_eB) (fun r_ μ_ hr_ => s_callV (As := [.int _]) dX12_fits_7 Lk_RX12_479 rfl g_206 (by decide) rfl (Nat.le_of_ble_eq_true rfl) (Nat.le_of_ble_eq_true rfl) (ev_X12_layLog p1 μ1 hr_)) (fun r2 μ3 => ?_)
  refine W_ite (fun h4 => ?_) (fun h4 => ?_)
  · refine W_s (s_if_ne_t dX12_fits_10 rfl (gx_bt h4)) ?_
    refine W_s (s_iload_n dX12_fits_16 rfl rfl) ?_
    refine W_s (s_bipush dX12_fits_17 kcb_10) ?_
    refine W_ite (fun h5 => ?_) (fun h5 => ?_)
    · refine W_s (s_icmp_lt_t dX12_fits_19 rfl h5) ?_
      refine W_s (s_iload_n dX12_fits_48 rfl rfl) ?_
      refine W_ite (fun h6 => ?_) (fun h6 => ?_)
      · refine W_s (s_tsw_eq (c := 0) dX12_fits_49 h6 (by decide) (by decide) rfl rfl) ?_
        refine W_s (s_aload_n dX12_fits_80 rfl rfl) ?_
        refine W_s (gf_RX12_467 rfl dX12_fits_81) ?_
        exact W_r (r := (μ3.1 206 48)) (f_int (ty := .int) dX12_fits_84 rfl rfl)
      · skip
        refine W_ite (fun h7 => ?_) (fun h7 => ?_)
        · refine W_s (s_tsw_eq (c := 1) dX12_fits_49 h7 (by decide) (by decide) rfl rfl) ?_
          refine W_s (s_aload_n dX12_fits_85 rfl rfl) ?_
          refine W_s (s_iload_n dX12_fits_86 rfl rfl) ?_
          refine W_s (s_iconst dX12_fits_87 kci_1) ?_
          refine W_fun (fun J => ∀ (j0_10 : Bool) (μ11 : gx_M), GoW E l Y_X12_fits 3 gx_eI 96 [] [.int (gx_bi j0_10), .ref (E.2.2.1 + 206)] μ11 (J j0_10 μ11)) ?_ (fun J8 hJ8 => ?_)
          · intro j0_10 μ11
            refine W_br (ec := gx_eI) (fun r_ hr_ => s_callV (As := [.int _]) dX12_fits_96 Lk_RX12_482 rfl g_206 (by decide) rfl (Nat.le_of_ble_eq_true rfl) (Nat.le_of_ble_eq_true rfl) (ev_X12_sureOf j0_10 μ11 hr_)) (fun r12 => ?_)
            exact W_r (r := r12) (f_int (ty := .int) dX12_fits_99 rfl rfl)
          · skip
            refine W_ite (fun h9 => ?_) (fun h9 => ?_)
            · refine W_s (s_icmp_ne_f dX12_fits_88 rfl h9) ?_
              refine W_s (s_iconst dX12_fits_91 kci_1) ?_
              refine W_s (s_goto dX12_fits_92 rfl) ?_
              exact W_wk (hJ8 true μ3) le_n
            · refine W_s (s_icmp_ne_t dX12_fits_88 rfl h9) ?_
              refine W_s (s_iconst dX12_fits_95 kci_0) ?_
              exact W_wk (hJ8 false μ3) le_n
        · skip
          refine W_ite (fun h13 => ?_) (fun h13 => ?_)
          · refine W_s (s_tsw_eq (c := 2) dX12_fits_49 h13 (by decide) (by decide) rfl rfl) ?_
            refine W_s (s_aload_n dX12_fits_85 rfl rfl) ?_
            refine W_s (s_iload_n dX12_fits_86 rfl rfl) ?_
            refine W_s (s_iconst dX12_fits_87 kci_1) ?_
            refine W_fun (fun J => ∀ (j0_16 : Bool) (μ17 : gx_M), GoW E l Y_X12_fits 3 gx_eI 96 [] [.int (gx_bi j0_16), .ref (E.2.2.1 + 206)] μ17 (J j0_16 μ17)) ?_ (fun J14 hJ14 => ?_)
            · intro j0_16 μ17
              refine W_br (ec := gx_eI) (fun r_ hr_ => s_callV (As := [.int _]) dX12_fits_96 Lk_RX12_482 rfl g_206 (by decide) rfl (Nat.le_of_ble_eq_true rfl) (Nat.le_of_ble_eq_true rfl) (ev_X12_sureOf j0_16 μ17 hr_)) (fun r18 => ?_)
              exact W_r (r := r18) (f_int (ty := .int) dX12_fits_99 rfl rfl)
            · skip
              refine W_ite (fun h15 => ?_) (fun h15 => ?_)
              · refine W_s (s_icmp_ne_f dX12_fits_88 rfl h15) ?_
                refine W_s (s_iconst dX12_fits_91 kci_1) ?_
                refine W_s (s_goto dX12_fits_92 rfl) ?_
                exact W_wk (hJ14 true μ3) le_n
              · refine W_s (s_icmp_ne_t dX12_fits_88 rfl h15) ?_
                refine W_s (s_iconst dX12_fits_95 kci_0) ?_
                exact W_wk (hJ14 false μ3) le_n
          · skip
            refine W_ite (fun h19 => ?_) (fun h19 => ?_)
            · refine W_s (s_tsw_eq (c := 3) dX12_fits_49 h19 (by decide) (by decide) rfl rfl) ?_
              refine W_s (s_aload_n dX12_fits_100 rfl rfl) ?_
              refine W_br (ec := gx_eI) (fun r_ hr_ => s_callV (As := []) dX12_fits_101 Lk_RX12_486 rfl g_206 (by decide) rfl (Nat.le_of_ble_eq_true rfl) (Nat.le_of_ble_eq_true rfl) (ev_X12_seek μ3 hr_)) (fun r20 => ?_)
              exact W_r (r := r20) (f_int (ty := .int) dX12_fits_104 rfl rfl)
            · skip
              refine W_s (s_tsw_out dX12_fits_49 (gx_out_0_4 h6 h7 h13 h19) rfl) ?_
              refine W_s (s_bipush dX12_fits_105 kcb_m2) ?_
              exact W_r (r := (-2)) (f_int (ty := .int) dX12_fits_107 rfl rfl)
    · refine W_s (s_icmp_lt_f dX12_fits_19 rfl h5) ?_
      refine W_s (s_iload_n dX12_fits_22 rfl rfl) ?_
      refine W_s (s_bipush dX12_fits_23 kcb_10) ?_
      refine W_s (s_isub dX12_fits_25) ?_
      refine W_s (s_aload_n dX12_fits_26 rfl rfl) ?_
      refine W_s (gf_RX12_467 rfl dX12_fits_27) ?_
      refine W_ite (fun h21 => ?_) (fun h21 => ?_)
      · refine W_s (s_icmp_ge_t dX12_fits_30 rfl h21) ?_
        refine W_s (s_bipush dX12_fits_45 kcb_m2) ?_
        exact W_r (r := (-2)) (f_int (ty := .int) dX12_fits_47 rfl rfl)
      · refine W_s (s_icmp_ge_f dX12_fits_30 rfl h21) ?_
        refine W_s (s_aload_n dX12_fits_33 rfl rfl) ?_
        refine W_s (gf_RX12_85 rfl dX12_fits_34) ?_
        refine W_s (s_iload_n dX12_fits_37 rfl rfl) ?_
        refine W_s (s_bipush dX12_fits_38 kcb_10) ?_
        refine W_s (s_isub dX12_fits_40) ?_
        refine W_ck (fun h22 => ?_)
        refine W_s (s_iald dX12_fits_41 g_231 (gx_ixv h22)) ?_
        refine W_s (s_goto dX12_fits_42 rfl) ?_
        exact W_r (r := (μ3.1 231 (p2 - 10).toNatClampNeg)) (f_int (ty := .int) dX12_fits_47 rfl rfl)
  · refine W_s (s_if_ne_f dX12_fits_10 rfl (gx_bf h4)) ?_
    refine W_s (s_bipush dX12_fits_13 kcb_m2) ?_
    exact W_r (r := (-2)) (f_int (ty := .int) dX12_fits_15 rfl rfl)

def L_X12_hasSwap_34 (k8 : gx_M → Option (Bool × gx_M)) : Nat → Int32 → gx_M → Option (Bool × gx_M)
  | 0, _, _ => none
  | n + 1, v2_6, μ7 => if 6 ≤ v2_6 then k8 μ7 else gx_ck (gx_ix v2_6 6 = true) (gx_lt (gx_uI μ7 233 v2_6.toNatClampNeg (-1)) (fun (μ11 : gx_M) => gx_lt (gx_uI μ11 232 v2_6.toNatClampNeg v2_6) (fun (μ12 : gx_M) => L_X12_hasSwap_34 k8 n (v2_6 + 1) μ12)))
def L_X12_hasSwap_70 (k19 : gx_M → Option (Bool × gx_M)) : Nat → Int32 → gx_M → Option (Bool × gx_M)
  | 0, _, _ => none
  | n + 1, v2_17, μ18 => if v2_17 ≤ 0 then k19 μ18 else gx_bd (f_X12_goRound μ18) (fun (r21 : Int32) (μ22 : gx_M) => gx_lt (v2_17 - r21) (fun (x23 : Int32) => gx_lt (gx_uI μ22 206 51 ((μ22.1 206 51) + 1)) (fun (μ24 : gx_M) => L_X12_hasSwap_70 k19 n x23 μ24)))
def f_X12_hasSwap (p1 : Int32) (μ : gx_M) : Option (Bool × gx_M) := gx_lt (gx_uI μ 206 49 p1) (fun (μ1 : gx_M) => gx_br (f_X12_is 3 p1 μ1) (fun (r2 : Bool) => if r2 = true then gx_ck (gx_ix ((37 : Int32) * (μ1.1 206 49)) 296 = true) (gx_lt (gx_uI μ1 206 50 (μ1.1 215 ((37 : Int32) * (μ1.1 206 49)).toNatClampNeg)) (fun (μ5 : gx_M) => L_X12_hasSwap_34 (fun (μ14 : gx_M) => gx_lt (gx_uI μ14 206 51 0) (fun (μ15 : gx_M) => gx_lt (μ15.1 206 50) (fun (x16 : Int32) => L_X12_hasSwap_70 (fun (μ26 : gx_M) => some (true, μ26)) 4000 x16 μ15))) 4000 0 μ5)) else some (false, μ1)))
theorem okL_X12_hasSwap_34 {E : gx_E} {l : Launch} {k8 : gx_M → Option (Bool × gx_M)} (hk : ∀ (μ13 : gx_M), GoW E l Y_X12_hasSwap 3 gx_eB 60 [some (.ref (E.2.2.1 + 206))] [] μ13 (k8 μ13)) : ∀ (n : Nat) (v2_6 : Int32) (μ7 : gx_M), GoW E l Y_X12_hasSwap 3 gx_eB 34 [some (.ref (E.2.2.1 + 206)), none, some (.int v2_6)] [] μ7 (L_X12_hasSwap_34 k8 n v2_6 μ7) := by
  intro n
  induction n with
  | zero => intros; exact W_no
  | succ n ih =>
    intro v2_6 μ7
    rw [L_X12_hasSwap_34.eq_2]
    refine W_s (s_iload_n dX12_hasSwap_34 rfl rfl) ?_
    refine W_s (s_bipush dX12_hasSwap_35 kcb_6) ?_
    refine W_ite (fun h9 => ?_) (fun h9 => ?_)
    · refine W_s (s_icmp_ge_t dX12_hasSwap_37 rfl h9) ?_
      exact W_wk (hk μ7) (le_s rfl le_n)
    · refine W_s (s_icmp_ge_f dX12_hasSwap_37 rfl h9) ?_
      refine W_s (s_aload_n dX12_hasSwap_40 rfl rfl) ?_
      refine W_s (gf_RX12_91 rfl dX12_hasSwap_41) ?_
      refine W_s (s_iload_n dX12_hasSwap_44 rfl rfl) ?_
      refine W_s (s_iconst dX12_hasSwap_45 kci_m1) ?_
      refine W_ck (fun h10 => ?_)
      refine W_s (s_iast dX12_hasSwap_46 g_233 (gx_ixv h10)) ?_
      refine W_letM (fun μ11 => ?_)
      refine W_s (s_aload_n dX12_hasSwap_47 rfl rfl) ?_
      refine W_s (gf_RX12_88 rfl dX12_hasSwap_48) ?_
      refine W_s (s_iload_n dX12_hasSwap_51 rfl rfl) ?_
      refine W_s (s_iload_n dX12_hasSwap_52 rfl rfl) ?_
      refine W_s (s_iast dX12_hasSwap_53 g_232 (gx_ixv h10)) ?_
      refine W_letM (fun μ12 => ?_)
      refine W_s (s_iinc dX12_hasSwap_54 rfl (kinc_1 v2_6) (Nat.le_of_ble_eq_true rfl)) ?_
      refine W_s (s_goto dX12_hasSwap_57 rfl) ?_
      exact W_wk (ih (v2_6 + 1) μ12) (le_s rfl (le_o (le_s rfl le_n)))
theorem okL_X12_hasSwap_70 {E : gx_E} {l : Launch} {k19 : gx_M → Option (Bool × gx_M)} (hk : ∀ (μ25 : gx_M), GoW E l Y_X12_hasSwap 3 gx_eB 94 [] [] μ25 (k19 μ25)) : ∀ (n : Nat) (v2_17 : Int32) (μ18 : gx_M), GoW E l Y_X12_hasSwap 3 gx_eB 70 [some (.ref (E.2.2.1 + 206)), none, some (.int v2_17)] [] μ18 (L_X12_hasSwap_70 k19 n v2_17 μ18) := by
  intro n
  induction n with
  | zero => intros; exact W_no
  | succ n ih =>
    intro v2_17 μ18
    rw [L_X12_hasSwap_70.eq_2]
    refine W_s (s_iload_n dX12_hasSwap_70 rfl rfl) ?_
    refine W_ite (fun h20 => ?_) (fun h20 => ?_)
    · refine W_s (s_if_le_t dX12_hasSwap_71 rfl h20) ?_
      exact W_wk (hk μ18) le_n
    · refine W_s (s_if_le_f dX12_hasSwap_71 rfl h20) ?_
      refine W_s (s_iload_n dX12_hasSwap_74 rfl rfl) ?_
      refine W_s (s_aload_n dX12_hasSwap_75 rfl rfl) ?_
      refine W_bd (ec := gx_eI) (fun r_ μ_ hr_ => s_callV (As := []) dX12_hasSwap_76 Lk_RX12_498 rfl g_206 (by decide) rfl (Nat.le_of_ble_eq_true rfl) (Nat.le_of_ble_eq_true rfl) (ev_X12_goRound μ18 hr_)) (fun r21 μ22 => ?_)
      refine W_s (s_isub dX12_hasSwap_79) ?_
      refine W_letI (fun x23 => ?_)
      refine W_s (s_istore_n dX12_hasSwap_80 rfl (Nat.le_of_ble_eq_true rfl)) ?_
      refine W_s (s_aload_n dX12_hasSwap_81 rfl rfl) ?_
      refine W_s (s_dup dX12_hasSwap_82 rfl) ?_
      refine W_s (gf_RX12_495 rfl dX12_hasSwap_83) ?_
      refine W_s (s_iconst dX12_hasSwap_86 kci_1) ?_
      refine W_s (s_iadd dX12_hasSwap_87) ?_
      refine W_s (pf_RX12_495 rfl dX12_hasSwap_88) ?_
      refine W_letM (fun μ24 => ?_)
      refine W_s (s_goto dX12_hasSwap_91 rfl) ?_
      exact W_wk (ih x23 μ24) (le_s rfl (le_o (le_s rfl le_n)))
theorem ev_X12_hasSwap {E : gx_E} {l : Launch} (p1 : Int32) (μ : gx_M) {r : Bool} {μ' : gx_M} (hr : f_X12_hasSwap p1 μ = some (r, μ')) : gEv E l 3 Y_X12_hasSwap [.ref (E.2.2.1 + 206), .int p1] gx_G1 μ (gx_eB r) gx_G1 μ' := by
  refine W_ev (by decide) (Nat.le_of_ble_eq_true rfl) (em := gx_eB) (T := f_X12_hasSwap p1 μ) ?_ hr
  show GoW E l Y_X12_hasSwap 3 gx_eB 0 (gx_el [.ref (E.2.2.1 + 206), .int p1]) [] μ (f_X12_hasSwap p1 μ)
  unfold f_X12_hasSwap
  refine W_s (s_aload_n dX12_hasSwap_0 rfl rfl) ?_
  refine W_s (s_iload_n dX12_hasSwap_1 rfl rfl) ?_
  refine W_s (pf_RX12_489 rfl dX12_hasSwap_2) ?_
  refine W_letM (fun μ1 => ?_)
  refine W_s (s_aload_n dX12_hasSwap_5 rfl rfl) ?_
  refine W_s (s_iconst dX12_hasSwap_6 kci_3) ?_
  refine W_s (s_iload_n dX12_hasSwap_7 rfl rfl) ?_
  refine W_br (ec := gx_eB) (fun r_ hr_ => s_callV (As := [.int _, .int _]) dX12_hasSwap_8 Lk_RX12_267 rfl g_206 (by decide) rfl (Nat.le_of_ble_eq_true rfl) (Nat.le_of_ble_eq_true rfl) (ev_X12_is 3 p1 μ1 hr_)) (fun r2 => ?_)
  refine W_ite (fun h3 => ?_) (fun h3 => ?_)
  · refine W_s (s_if_ne_t dX12_hasSwap_11 rfl (gx_bt h3)) ?_
    refine W_s (s_aload_n dX12_hasSwap_16 rfl rfl) ?_
    refine W_s (s_aload_n dX12_hasSwap_17 rfl rfl) ?_
    refine W_s (gf_RX12_35 rfl dX12_hasSwap_18) ?_
    refine W_s (s_bipush dX12_hasSwap_21 kcb_37) ?_
    refine W_s (s_aload_n dX12_hasSwap_23 rfl rfl) ?_
    refine W_s (gf_RX12_489 rfl dX12_hasSwap_24) ?_
    refine W_s (s_imul dX12_hasSwap_27) ?_
    refine W_ck (fun h4 => ?_)
    refine W_s (s_iald dX12_hasSwap_28 g_215 (gx_ixv h4)) ?_
    refine W_s (pf_RX12_492 rfl dX12_hasSwap_29) ?_
    refine W_letM (fun μ5 => ?_)
    refine W_s (s_iconst dX12_hasSwap_32 kci_0) ?_
    refine W_s (s_istore_n dX12_hasSwap_33 rfl (Nat.le_of_ble_eq_true rfl)) ?_
    refine W_wk (okL_X12_hasSwap_34 ?_ 4000 0 μ5) (le_s rfl (le_o (le_s rfl le_n)))
    intro μ14
    refine W_s (s_aload_n dX12_hasSwap_60 rfl rfl) ?_
    refine W_s (s_iconst dX12_hasSwap_61 kci_0) ?_
    refine W_s (pf_RX12_495 rfl dX12_hasSwap_62) ?_
    refine W_letM (fun μ15 => ?_)
    refine W_s (s_aload_n dX12_hasSwap_65 rfl rfl) ?_
    refine W_s (gf_RX12_492 rfl dX12_hasSwap_66) ?_
    refine W_letI (fun x16 => ?_)
    refine W_s (s_istore_n dX12_hasSwap_69 rfl (Nat.le_of_ble_eq_true rfl)) ?_
    refine W_wk (okL_X12_hasSwap_70 ?_ 4000 x16 μ15) (le_s rfl (le_o (le_s rfl le_n)))
    intro μ26
    refine W_s (s_iconst dX12_hasSwap_94 kci_1) ?_
    exact W_r (r := true) (f_int (ty := .boolean) (x := gx_bi true) dX12_hasSwap_95 rfl (gx_bn true))
  · refine W_s (s_if_ne_f dX12_hasSwap_11 rfl (gx_bf h3)) ?_
    refine W_s (s_iconst dX12_hasSwap_14 kci_0) ?_
    exact W_r (r := false) (f_int (ty := .boolean) (x := gx_bi false) dX12_hasSwap_15 rfl (gx_bn false))

def L_X12_anyRun_3 (μ : gx_M) (p1 : Int32) (p2 : Int64) (k2 : Option Bool) : Nat → Int32 → Option Bool
  | 0, _ => none
  | n + 1, v4_1 => if (μ.1 206 25) ≤ v4_1 then k2 else gx_br (f_X12_mayBegin p1 v4_1 μ) (fun (r4 : Bool) => gx_lt (L_X12_anyRun_3 μ p1 p2 k2 n (v4_1 + 1)) (fun J5 => if r4 = true then gx_br (f_X12_runBits p1 v4_1 μ) (fun (r7 : Int64) => if (r7 &&& (p2 ^^^ (-1))) = 0 then some true else J5) else J5))
def f_X12_anyRun (p1 : Int32) (p2 : Int64) (μ : gx_M) : Option Bool := L_X12_anyRun_3 μ p1 p2 (some false) 4000 0
theorem okL_X12_anyRun_3 {E : gx_E} {l : Launch} {μ : gx_M} {p1 : Int32} {p2 : Int64} {k2 : Option Bool} (hk : GoR E l Y_X12_anyRun 3 gx_eB 48 [] [] μ (k2)) : ∀ (n : Nat) (v4_1 : Int32), GoR E l Y_X12_anyRun 3 gx_eB 3 [some (.ref (E.2.2.1 + 206)), some (.int p1), some (.long p2), none, some (.int v4_1)] [] μ (L_X12_anyRun_3 μ p1 p2 k2 n v4_1) := by
  intro n
  induction n with
  | zero => intros; exact R_no
  | succ n ih =>
    intro v4_1
    rw [L_X12_anyRun_3.eq_2]
    refine R_s (s_iload dX12_anyRun_3 rfl) ?_
    refine R_s (s_aload_n dX12_anyRun_5 rfl rfl) ?_
    refine R_s (gf_RX12_283 rfl dX12_anyRun_6) ?_
    refine R_ite (fun h3 => ?_) (fun h3 => ?_)
    · refine R_s (s_icmp_ge_t dX12_anyRun_9 rfl h3) ?_
      exact R_wk (hk) le_n
    · refine R_s (s_icmp_ge_f dX12_anyRun_9 rfl h3) ?_
      refine R_s (s_aload_n dX12_anyRun_12 rfl rfl) ?_
      refine R_s (s_iload_n dX12_anyRun_13 rfl rfl) ?_
      refine R_s (s_iload dX12_anyRun_14 rfl) ?_
      refine R_br (ec := gx_eB) (fun r_ hr_ => s_callV (As := [.int _, .int _]) dX12_anyRun_16 Lk_RX12_325 rfl g_206 (by decide) rfl (Nat.le_of_ble_eq_true rfl) (Nat.le_of_ble_eq_true rfl) (ev_X12_mayBegin p1 v4_1 μ hr_)) (fun r4 => ?_)
      refine R_fun (fun J => GoR E l Y_X12_anyRun 3 gx_eB 42 [some (.ref (E.2.2.1 + 206)), some (.int p1), some (.long p2), none, some (.int v4_1)] [] μ (J)) ?_ (fun J5 hJ5 => ?_)
      · skip
        refine R_s (s_iinc dX12_anyRun_42 rfl (kinc_1 v4_1) (Nat.le_of_ble_eq_true rfl)) ?_
        refine R_s (s_goto dX12_anyRun_45 rfl) ?_
        exact R_wk (ih (v4_1 + 1)) (le_s rfl (le_s rfl (le_s rfl (le_o (le_s rfl le_n)))))
      · skip
        refine R_ite (fun h6 => ?_) (fun h6 => ?_)
        · refine R_s (s_if_eq_f dX12_anyRun_19 rfl (gx_bt h6)) ?_
          refine R_s (s_aload_n dX12_anyRun_22 rfl rfl) ?_
          refine R_s (s_iload_n dX12_anyRun_23 rfl rfl) ?_
          refine R_s (s_iload dX12_anyRun_24 rfl) ?_
          refine R_br (ec := gx_eL) (fun r_ hr_ => s_callV (As := [.int _, .int _]) dX12_anyRun_26 Lk_RX12_415 rfl g_206 (by decide) rfl (Nat.le_of_ble_eq_true rfl) (Nat.le_of_ble_eq_true rfl) (ev_X12_runBits p1 v4_1 μ hr_)) (fun r7 => ?_)
          refine R_s (s_lload_n dX12_anyRun_29 rfl rfl) ?_
          refine R_s (s_ldc2 dX12_anyRun_30 kw_RX12_419) ?_
          refine R_s (s_lxor dX12_anyRun_33) ?_
          refine R_s (s_land dX12_anyRun_34) ?_
          refine R_s (s_lconst dX12_anyRun_35 kcl_0) ?_
          refine R_s (s_lcmp dX12_anyRun_36) ?_
          refine R_ite (fun h8 => ?_) (fun h8 => ?_)
          · refine R_s (s_if_ne_f dX12_anyRun_37 rfl ((lgc_eq (r7 &&& (p2 ^^^ (-1))) 0).mpr h8)) ?_
            refine R_s (s_iconst dX12_anyRun_40 kci_1) ?_
            exact R_r (r := true) (f_int (ty := .boolean) (x := gx_bi true) dX12_anyRun_41 rfl (gx_bn true))
          · refine R_s (s_if_ne_t dX12_anyRun_37 rfl (fun hc => h8 ((lgc_eq (r7 &&& (p2 ^^^ (-1))) 0).mp hc))) ?_
            exact R_wk (hJ5) (le_s rfl (le_s rfl (le_s rfl (le_o (le_s rfl le_n)))))
        · refine R_s (s_if_eq_t dX12_anyRun_19 rfl (gx_bf h6)) ?_
          exact R_wk (hJ5) (le_s rfl (le_s rfl (le_s rfl (le_o (le_s rfl le_n)))))
theorem ev_X12_anyRun {E : gx_E} {l : Launch} (p1 : Int32) (p2 : Int64) (μ : gx_M) {r : Bool} (hr : f_X12_anyRun p1 p2 μ = some r) : gEv E l 3 Y_X12_anyRun [.ref (E.2.2.1 + 206), .int p1, .long p2] gx_G1 μ (gx_eB r) gx_G1 μ := by
  refine R_ev (by decide) (Nat.le_of_ble_eq_true rfl) (em := gx_eB) (T := f_X12_anyRun p1 p2 μ) ?_ hr
  show GoR E l Y_X12_anyRun 3 gx_eB 0 (gx_el [.ref (E.2.2.1 + 206), .int p1, .long p2]) [] μ (f_X12_anyRun p1 p2 μ)
  unfold f_X12_anyRun
  refine R_s (s_iconst dX12_anyRun_0 kci_0) ?_
  refine R_s (s_istore dX12_anyRun_1 (Nat.le_of_ble_eq_true rfl)) ?_
  refine R_wk (okL_X12_anyRun_3 ?_ 4000 0) (le_s rfl (le_s rfl (le_s rfl (le_o (le_s rfl le_n)))))
  refine R_s (s_iconst dX12_anyRun_48 kci_0) ?_
  exact R_r (r := false) (f_int (ty := .boolean) (x := gx_bi false) dX12_anyRun_49 rfl (gx_bn false))

def L_X12_early_107 (v6_9 : Int32) (v7_13 : Int32) (r7 : Int64) (k26 : Int32 → gx_M → Option (Int32 × gx_M)) : Nat → Int32 → Int32 → gx_M → Option (Int32 × gx_M)
  | 0, _, _, _ => none
  | n + 1, v8_23, v9_24, μ25 => if (μ25.1 206 27) ≤ v9_24 then k26 v8_23 μ25 else if (μ25.1 206 25) ≤ v6_9 then k26 v8_23 μ25 else gx_lt (fun (j0_40 : Int32) (μ41 : gx_M) => L_X12_early_107 v6_9 v7_13 r7 k26 n j0_40 (v9_24 + 1) μ41) (fun J29 => if (f_X12_has v7_13 v9_24) = true then gx_br (f_X12_mayBegin v9_24 v6_9 μ25) (fun (r31 : Bool) => if r31 = true then gx_br (f_X12_runBits v9_24 v6_9 μ25) (fun (r33 : Int64) => if (r33 &&& (r7 ^^^ (-1))) = 0 then gx_br (f_X12_lengthOf v9_24 μ25) (fun (r35 : Int32) => gx_br (f_X12_lengthOf v9_24 μ25) (fun (r36 : Int32) => gx_ck (gx_ix (((64 : Int32) * (v6_9 + r36)) + (v7_13 &&& (((1 : Int32) <<< (v9_24 &&& 31)) ^^^ (-1)))) 2624 = true) (gx_lt (f_X12_greater ((v6_9 + r35) - 1) (μ25.1 226 (((64 : Int32) * (v6_9 + r36)) + (v7_13 &&& (((1 : Int32) <<< (v9_24 &&& 31)) ^^^ (-1)))).toNatClampNeg)) (fun (x38 : Int32) => gx_lt (f_X12_lesser v8_23 x38) (fun (x39 : Int32) => J29 x39 μ25))))) else J29 v8_23 μ25) else J29 v8_23 μ25) else J29 v8_23 μ25)
def L_X12_early_52 (v6_9 : Int32) (r7 : Int64) (k15 : gx_M → Option (Int32 × gx_M)) : Nat → Int32 → gx_M → Option (Int32 × gx_M)
  | 0, _, _ => none
  | n + 1, v7_13, μ14 => if ((1 : Int32) <<< ((μ14.1 206 27) &&& 31)) ≤ v7_13 then k15 μ14 else gx_lt (fun (j0_21 : Int32) (μ22 : gx_M) => L_X12_early_107 v6_9 v7_13 r7 (fun (x8_44 : Int32) (μ45 : gx_M) => gx_ck (gx_ix (((64 : Int32) * v6_9) + v7_13) 2624 = true) (gx_lt (gx_uI μ45 226 (((64 : Int32) * v6_9) + v7_13).toNatClampNeg x8_44) (fun (μ47 : gx_M) => L_X12_early_52 v6_9 r7 k15 n (v7_13 + 1) μ47))) 4000 j0_21 0 μ22) (fun J17 => if v7_13 = 0 then J17 0 μ14 else if v6_9 = (μ14.1 206 25) then J17 1000000 μ14 else gx_ck (gx_ix (((64 : Int32) * (v6_9 + 1)) + v7_13) 2624 = true) (J17 (μ14.1 226 (((64 : Int32) * (v6_9 + 1)) + v7_13).toNatClampNeg) μ14))
def L_X12_early_44 (r7 : Int64) (k11 : gx_M → Option (Int32 × gx_M)) : Nat → Int32 → gx_M → Option (Int32 × gx_M)
  | 0, _, _ => none
  | n + 1, v6_9, μ10 => if v6_9 < 0 then k11 μ10 else L_X12_early_52 v6_9 r7 (fun (μ49 : gx_M) => L_X12_early_44 r7 k11 n (v6_9 + (-1)) μ49) 4000 0 μ10
def f_X12_early (p1 : Int32) (p2 : Int32) (p3 : Int32) (μ : gx_M) : Option (Int32 × gx_M) := gx_lt (gx_uI μ 206 0 0) (fun (μ1 : gx_M) => gx_bd (f_X12_hand p1 μ1) (fun (r2 : Bool) (μ3 : gx_M) => if r2 = true then if (f_X12_isPerson p2 μ3) = true then if (f_X12_isSet p3 μ3) = true then gx_br (f_X12_handsOf p2 μ3) (fun (r7 : Int64) => gx_lt (μ3.1 206 25) (fun (x8 : Int32) => L_X12_early_44 r7 (fun (μ51 : gx_M) => gx_ck (gx_ix p3 2624 = true) (if (μ51.1 226 p3.toNatClampNeg) < 1000000 then some ((μ51.1 226 p3.toNatClampNeg), μ51) else some ((-1), μ51))) 4000 x8 μ3)) else some ((-1), μ3) else some ((-1), μ3) else some ((-1), μ3)))
theorem okL_X12_early_107 {E : gx_E} {l : Launch} {v6_9 : Int32} {v7_13 : Int32} {r7 : Int64} {p3 : Int32} {k26 : Int32 → gx_M → Option (Int32 × gx_M)} (hk : ∀ (w42 : Int32) (μ43 : gx_M), GoW E l Y_X12_early 3 gx_eI 224 [some (.ref (E.2.2.1 + 206)), none, none, some (.int p3), some (.long r7), none, some (.int v6_9), some (.int v7_13), some (.int w42)] [] μ43 (k26 w42 μ43)) : ∀ (n : Nat) (v8_23 : Int32) (v9_24 : Int32) (μ25 : gx_M), GoW E l Y_X12_early 3 gx_eI 107 [some (.ref (E.2.2.1 + 206)), none, none, some (.int p3), some (.long r7), none, some (.int v6_9), some (.int v7_13), some (.int v8_23), some (.int v9_24)] [] μ25 (L_X12_early_107 v6_9 v7_13 r7 k26 n v8_23 v9_24 μ25) := by
  intro n
  induction n with
  | zero => intros; exact W_no
  | succ n ih =>
    intro v8_23 v9_24 μ25
    rw [L_X12_early_107.eq_2]
    refine W_s (s_iload dX12_early_107 rfl) ?_
    refine W_s (s_aload_n dX12_early_109 rfl rfl) ?_
    refine W_s (gf_RX12_289 rfl dX12_early_110) ?_
    refine W_ite (fun h27 => ?_) (fun h27 => ?_)
    · refine W_s (s_icmp_ge_t dX12_early_113 rfl h27) ?_
      exact W_wk (hk v8_23 μ25) (le_s rfl (le_o (le_o (le_s rfl (le_s rfl (le_o (le_s rfl (le_s rfl (le_s rfl le_n)))))))))
    · refine W_s (s_icmp_ge_f dX12_early_113 rfl h27) ?_
      refine W_s (s_iload dX12_early_116 rfl) ?_
      refine W_s (s_aload_n dX12_early_118 rfl rfl) ?_
      refine W_s (gf_RX12_283 rfl dX12_early_119) ?_
      refine W_ite (fun h28 => ?_) (fun h28 => ?_)
      · refine W_s (s_icmp_ge_t dX12_early_122 rfl h28) ?_
        exact W_wk (hk v8_23 μ25) (le_s rfl (le_o (le_o (le_s rfl (le_s rfl (le_o (le_s rfl (le_s rfl (le_s rfl le_n)))))))))
      · refine W_s (s_icmp_ge_f dX12_early_122 rfl h28) ?_
        refine W_s (s_iload dX12_early_125 rfl) ?_
        refine W_s (s_iload dX12_early_127 rfl) ?_
        refine W_s (s_callS (As := [.int _, .int _]) dX12_early_129 Lk_RX12_104 rfl (Nat.le_of_ble_eq_true rfl) (Nat.le_of_ble_eq_true rfl) (ev_X12_has v7_13 v9_24 μ25)) ?_
        refine W_fun (fun J => ∀ (j0_40 : Int32) (μ41 : gx_M), GoW E l Y_X12_early 3 gx_eI 218 [some (.ref (E.2.2.1 + 206)), none, none, some (.int p3), some (.long r7), none, some (.int v6_9), some (.int v7_13), some (.int j0_40), some (.int v9_24)] [] μ41 (J j0_40 μ41)) ?_ (fun J29 hJ29 => ?_)
        · intro j0_40 μ41
          refine W_s (s_iinc dX12_early_218 rfl (kinc_1 v9_24) (Nat.le_of_ble_eq_true rfl)) ?_
          refine W_s (s_goto dX12_early_221 rfl) ?_
          exact W_wk (ih j0_40 (v9_24 + 1) μ41) (le_s rfl (le_o (le_o (le_s rfl (le_s rfl (le_o (le_s rfl (le_s rfl (le_s rfl (le_s rfl le_n))))))))))
        · skip
          refine W_ite (fun h30 => ?_) (fun h30 => ?_)
          · refine W_s (s_if_eq_f dX12_early_132 rfl (gx_bt h30)) ?_
            refine W_s (s_aload_n dX12_early_135 rfl rfl) ?_
            refine W_s (s_iload dX12_early_136 rfl) ?_
            refine W_s (s_iload dX12_early_138 rfl) ?_
            refine W_br (ec := gx_eB) (fun r_ hr_ => s_callV (As := [.int _, .int _]) dX12_early_140 Lk_RX12_325 rfl g_206 (by decide) rfl (Nat.le_of_ble_eq_true rfl) (Nat.le_of_ble_eq_true rfl) (ev_X12_mayBegin v9_24 v6_9 μ25 hr_)) (fun r31 => ?_)
            refine W_ite (fun h32 => ?_) (fun h32 => ?_)
            · refine W_s (s_if_eq_f dX12_early_143 rfl (gx_bt h32)) ?_
              refine W_s (s_aload_n dX12_early_146 rfl rfl) ?_
              refine W_s (s_iload dX12_early_147 rfl) ?_
              refine W_s (s_iload dX12_early_149 rfl) ?_
              refine W_br (ec := gx_eL) (fun r_ hr_ => s_callV (As := [.int _, .int _]) dX12_early_151 Lk_RX12_415 rfl g_206 (by decide) rfl (Nat.le_of_ble_eq_true rfl) (Nat.le_of_ble_eq_true rfl) (ev_X12_runBits v9_24 v6_9 μ25 hr_)) (fun r33 => ?_)
              refine W_s (s_lload dX12_early_154 rfl) ?_
              refine W_s (s_ldc2 dX12_early_156 kw_RX12_419) ?_
              refine W_s (s_lxor dX12_early_159) ?_
              refine W_s (s_land dX12_early_160) ?_
              refine W_s (s_lconst dX12_early_161 kcl_0) ?_
              refine W_s (s_lcmp dX12_early_162) ?_
              refine W_ite (fun h34 => ?_) (fun h34 => ?_)
              · refine W_s (s_if_ne_f dX12_early_163 rfl ((lgc_eq (r33 &&& (r7 ^^^ (-1))) 0).mpr h34)) ?_
                refine W_s (s_iload dX12_early_166 rfl) ?_
                refine W_s (s_aload_n dX12_early_168 rfl rfl) ?_
                refine W_s (s_iload dX12_early_169 rfl) ?_
                refine W_br (ec := gx_eI) (fun r_ hr_ => s_callV (As := [.int _]) dX12_early_171 Lk_RX12_295 rfl g_206 (by decide) rfl (Nat.le_of_ble_eq_true rfl) (Nat.le_of_ble_eq_true rfl) (ev_X12_lengthOf v9_24 μ25 hr_)) (fun r35 => ?_)
                refine W_s (s_iadd dX12_early_174) ?_
                refine W_s (s_iconst dX12_early_175 kci_1) ?_
                refine W_s (s_isub dX12_early_176) ?_
                refine W_s (s_aload_n dX12_early_177 rfl rfl) ?_
                refine W_s (gf_RX12_69 rfl dX12_early_178) ?_
                refine W_s (s_bipush dX12_early_181 kcb_64) ?_
                refine W_s (s_iload dX12_early_183 rfl) ?_
                refine W_s (s_aload_n dX12_early_185 rfl rfl) ?_
                refine W_s (s_iload dX12_early_186 rfl) ?_
                refine W_br (ec := gx_eI) (fun r_ hr_ => s_callV (As := [.int _]) dX12_early_188 Lk_RX12_295 rfl g_206 (by decide) rfl (Nat.le_of_ble_eq_true rfl) (Nat.le_of_ble_eq_true rfl) (ev_X12_lengthOf v9_24 μ25 hr_)) (fun r36 => ?_)
                refine W_s (s_iadd dX12_early_191) ?_
                refine W_s (s_imul dX12_early_192) ?_
                refine W_s (s_iload dX12_early_193 rfl) ?_
                refine W_s (s_iconst dX12_early_195 kci_1) ?_
                refine W_s (s_iload dX12_early_196 rfl) ?_
                refine W_s (s_ishl dX12_early_198) ?_
                refine W_s (s_iconst dX12_early_199 kci_m1) ?_
                refine W_s (s_ixor dX12_early_200) ?_
                refine W_s (s_iand dX12_early_201) ?_
                refine W_s (s_iadd dX12_early_202) ?_
                refine W_ck (fun h37 => ?_)
                refine W_s (s_iald dX12_early_203 g_226 (gx_ixv h37)) ?_
                refine W_s (s_callS (As := [.int _, .int _]) dX12_early_204 Lk_RX12_173 rfl (Nat.le_of_ble_eq_true rfl) (Nat.le_of_ble_eq_true rfl) (ev_X12_greater ((v6_9 + r35) - 1) (μ25.1 226 (((64 : Int32) * (v6_9 + r36)) + (v7_13 &&& (((1 : Int32) <<< (v9_24 &&& 31)) ^^^ (-1)))).toNatClampNeg) μ25)) ?_
                refine W_letI (fun x38 => ?_)
                refine W_s (s_istore dX12_early_207 (Nat.le_of_ble_eq_true rfl)) ?_
                refine W_s (s_iload dX12_early_209 rfl) ?_
                refine W_s (s_iload dX12_early_211 rfl) ?_
                refine W_s (s_callS (As := [.int _, .int _]) dX12_early_213 Lk_RX12_375 rfl (Nat.le_of_ble_eq_true rfl) (Nat.le_of_ble_eq_true rfl) (ev_X12_lesser v8_23 x38 μ25)) ?_
                refine W_letI (fun x39 => ?_)
                refine W_s (s_istore dX12_early_216 (Nat.le_of_ble_eq_true rfl)) ?_
                exact W_wk (hJ29 x39 μ25) (le_s rfl (le_o (le_o (le_s rfl (le_s rfl (le_o (le_s rfl (le_s rfl (le_s rfl (le_s rfl le_n))))))))))
              · refine W_s (s_if_ne_t dX12_early_163 rfl (fun hc => h34 ((lgc_eq (r33 &&& (r7 ^^^ (-1))) 0).mp hc))) ?_
                exact W_wk (hJ29 v8_23 μ25) (le_s rfl (le_o (le_o (le_s rfl (le_s rfl (le_o (le_s rfl (le_s rfl (le_s rfl (le_s rfl le_n))))))))))
            · refine W_s (s_if_eq_t dX12_early_143 rfl (gx_bf h32)) ?_
              exact W_wk (hJ29 v8_23 μ25) (le_s rfl (le_o (le_o (le_s rfl (le_s rfl (le_o (le_s rfl (le_s rfl (le_s rfl (le_s rfl le_n))))))))))
          · refine W_s (s_if_eq_t dX12_early_132 rfl (gx_bf h30)) ?_
            exact W_wk (hJ29 v8_23 μ25) (le_s rfl (le_o (le_o (le_s rfl (le_s rfl (le_o (le_s rfl (le_s rfl (le_s rfl (le_s rfl le_n))))))))))
theorem okL_X12_early_52 {E : gx_E} {l : Launch} {v6_9 : Int32} {r7 : Int64} {p3 : Int32} {k15 : gx_M → Option (Int32 × gx_M)} (hk : ∀ (μ48 : gx_M), GoW E l Y_X12_early 3 gx_eI 245 [some (.ref (E.2.2.1 + 206)), none, none, some (.int p3), some (.long r7), none, some (.int v6_9)] [] μ48 (k15 μ48)) : ∀ (n : Nat) (v7_13 : Int32) (μ14 : gx_M), GoW E l Y_X12_early 3 gx_eI 52 [some (.ref (E.2.2.1 + 206)), none, none, some (.int p3), some (.long r7), none, some (.int v6_9), some (.int v7_13)] [] μ14 (L_X12_early_52 v6_9 r7 k15 n v7_13 μ14) := by
  intro n
  induction n with
  | zero => intros; exact W_no
  | succ n ih =>
    intro v7_13 μ14
    rw [L_X12_early_52.eq_2]
    refine W_s (s_iload dX12_early_52 rfl) ?_
    refine W_s (s_iconst dX12_early_54 kci_1) ?_
    refine W_s (s_aload_n dX12_early_55 rfl rfl) ?_
    refine W_s (gf_RX12_289 rfl dX12_early_56) ?_
    refine W_s (s_ishl dX12_early_59) ?_
    refine W_ite (fun h16 => ?_) (fun h16 => ?_)
    · refine W_s (s_icmp_ge_t dX12_early_60 rfl h16) ?_
      exact W_wk (hk μ14) (le_s rfl (le_o (le_o (le_s rfl (le_s rfl (le_o (le_s rfl le_n)))))))
    · refine W_s (s_icmp_ge_f dX12_early_60 rfl h16) ?_
      refine W_s (s_iload dX12_early_63 rfl) ?_
      refine W_fun (fun J => ∀ (j0_21 : Int32) (μ22 : gx_M), GoW E l Y_X12_early 3 gx_eI 102 [some (.ref (E.2.2.1 + 206)), none, none, some (.int p3), some (.long r7), none, some (.int v6_9), some (.int v7_13)] [.int j0_21] μ22 (J j0_21 μ22)) ?_ (fun J17 hJ17 => ?_)
      · intro j0_21 μ22
        refine W_s (s_istore dX12_early_102 (Nat.le_of_ble_eq_true rfl)) ?_
        refine W_s (s_iconst dX12_early_104 kci_0) ?_
        refine W_s (s_istore dX12_early_105 (Nat.le_of_ble_eq_true rfl)) ?_
        refine W_wk (okL_X12_early_107 ?_ 4000 j0_21 0 μ22) (le_s rfl (le_o (le_o (le_s rfl (le_s rfl (le_o (le_s rfl (le_s rfl (le_s rfl (le_s rfl le_n))))))))))
        intro x8_44 μ45
        refine W_s (s_aload_n dX12_early_224 rfl rfl) ?_
        refine W_s (gf_RX12_69 rfl dX12_early_225) ?_
        refine W_s (s_bipush dX12_early_228 kcb_64) ?_
        refine W_s (s_iload dX12_early_230 rfl) ?_
        refine W_s (s_imul dX12_early_232) ?_
        refine W_s (s_iload dX12_early_233 rfl) ?_
        refine W_s (s_iadd dX12_early_235) ?_
        refine W_s (s_iload dX12_early_236 rfl) ?_
        refine W_ck (fun h46 => ?_)
        refine W_s (s_iast dX12_early_238 g_226 (gx_ixv h46)) ?_
        refine W_letM (fun μ47 => ?_)
        refine W_s (s_iinc dX12_early_239 rfl (kinc_1 v7_13) (Nat.le_of_ble_eq_true rfl)) ?_
        refine W_s (s_goto dX12_early_242 rfl) ?_
        exact W_wk (ih (v7_13 + 1) μ47) (le_s rfl (le_o (le_o (le_s rfl (le_s rfl (le_o (le_s rfl (le_s rfl le_n))))))))
      · skip
        refine W_ite (fun h18 => ?_) (fun h18 => ?_)
        · refine W_s (s_if_ne_f dX12_early_65 rfl h18) ?_
          refine W_s (s_iconst dX12_early_68 kci_0) ?_
          refine W_s (s_goto dX12_early_69 rfl) ?_
          exact W_wk (hJ17 0 μ14) (le_s rfl (le_o (le_o (le_s rfl (le_s rfl (le_o (le_s rfl (le_s rfl le_n))))))))
        · refine W_s (s_if_ne_t dX12_early_65 rfl h18) ?_
          refine W_s (s_iload dX12_early_72 rfl) ?_
          refine W_s (s_aload_n dX12_early_74 rfl rfl) ?_
          refine W_s (gf_RX12_283 rfl dX12_early_75) ?_
          refine W_ite (fun h19 => ?_) (fun h19 => ?_)
          · refine W_s (s_icmp_ne_f dX12_early_78 rfl h19) ?_
            refine W_s (s_ldcw dX12_early_81 kw_RX12_371) ?_
            refine W_s (s_goto dX12_early_84 rfl) ?_
            exact W_wk (hJ17 1000000 μ14) (le_s rfl (le_o (le_o (le_s rfl (le_s rfl (le_o (le_s rfl (le_s rfl le_n))))))))
          · refine W_s (s_icmp_ne_t dX12_early_78 rfl h19) ?_
            refine W_s (s_aload_n dX12_early_87 rfl rfl) ?_
            refine W_s (gf_RX12_69 rfl dX12_early_88) ?_
            refine W_s (s_bipush dX12_early_91 kcb_64) ?_
            refine W_s (s_iload dX12_early_93 rfl) ?_
            refine W_s (s_iconst dX12_early_95 kci_1) ?_
            refine W_s (s_iadd dX12_early_96) ?_
            refine W_s (s_imul dX12_early_97) ?_
            refine W_s (s_iload dX12_early_98 rfl) ?_
            refine W_s (s_iadd dX12_early_100) ?_
            refine W_ck (fun h20 => ?_)
            refine W_s (s_iald dX12_early_101 g_226 (gx_ixv h20)) ?_
            exact W_wk (hJ17 (μ14.1 226 (((64 : Int32) * (v6_9 + 1)) + v7_13).toNatClampNeg) μ14) (le_s rfl (le_o (le_o (le_s rfl (le_s rfl (le_o (le_s rfl (le_s rfl le_n))))))))
theorem okL_X12_early_44 {E : gx_E} {l : Launch} {r7 : Int64} {p3 : Int32} {k11 : gx_M → Option (Int32 × gx_M)} (hk : ∀ (μ50 : gx_M), GoW E l Y_X12_early 3 gx_eI 251 [some (.ref (E.2.2.1 + 206)), none, none, some (.int p3)] [] μ50 (k11 μ50)) : ∀ (n : Nat) (v6_9 : Int32) (μ10 : gx_M), GoW E l Y_X12_early 3 gx_eI 44 [some (.ref (E.2.2.1 + 206)), none, none, some (.int p3), some (.long r7), none, some (.int v6_9)] [] μ10 (L_X12_early_44 r7 k11 n v6_9 μ10) := by
  intro n
  induction n with
  | zero => intros; exact W_no
  | succ n ih =>
    intro v6_9 μ10
    rw [L_X12_early_44.eq_2]
    refine W_s (s_iload dX12_early_44 rfl) ?_
    refine W_ite (fun h12 => ?_) (fun h12 => ?_)
    · refine W_s (s_if_lt_t dX12_early_46 rfl h12) ?_
      exact W_wk (hk μ10) (le_s rfl (le_o (le_o (le_s rfl le_n))))
    · refine W_s (s_if_lt_f dX12_early_46 rfl h12) ?_
      refine W_s (s_iconst dX12_early_49 kci_0) ?_
      refine W_s (s_istore dX12_early_50 (Nat.le_of_ble_eq_true rfl)) ?_
      refine W_wk (okL_X12_early_52 ?_ 4000 0 μ10) (le_s rfl (le_o (le_o (le_s rfl (le_s rfl (le_o (le_s rfl (le_s rfl le_n))))))))
      intro μ49
      refine W_s (s_iinc dX12_early_245 rfl (kinc_m1 v6_9) (Nat.le_of_ble_eq_true rfl)) ?_
      refine W_s (s_goto dX12_early_248 rfl) ?_
      exact W_wk (ih (v6_9 + (-1)) μ49) (le_s rfl (le_o (le_o (le_s rfl (le_s rfl (le_o (le_s rfl le_n)))))))
theorem ev_X12_early {E : gx_E} {l : Launch} (p1 : Int32) (p2 : Int32) (p3 : Int32) (μ : gx_M) {r : Int32} {μ' : gx_M} (hr : f_X12_early p1 p2 p3 μ = some (r, μ')) : gEv E l 3 Y_X12_early [.ref (E.2.2.1 + 206), .int p1, .int p2, .int p3] gx_G1 μ (gx_eI r) gx_G1 μ' := by
  refine W_ev (by decide) (Nat.le_of_ble_eq_true rfl) (em := gx_eI) (T := f_X12_early p1 p2 p3 μ) ?_ hr
  show GoW E l Y_X12_early 3 gx_eI 0 (gx_el [.ref (E.2.2.1 + 206), .int p1, .int p2, .int p3]) [] μ (f_X12_early p1 p2 p3 μ)
  unfold f_X12_early
  refine W_s (s_aload_n dX12_early_0 rfl rfl) ?_
  refine W_s (s_iconst dX12_early_1 kci_0) ?_
  refine W_s (pf_RX12_100 rfl dX12_early_2) ?_
  refine W_letM (fun μ1 => ?_)
  refine W_s (s_aload_n dX12_early_5 rfl rfl) ?_
  refine W_s (s_iload_n dX12_early_6 rfl rfl) ?_
  refine W_bd (ec := gx_eB) (fun r_ μ_ hr_ => s_callV (As := [.int _]) dX12_early_7 Lk_RX12_298 rfl g_206 (by decide) rfl (Nat.le_of_ble_eq_true rfl) (Nat.le_of_ble_eq_true rfl) (ev_X12_hand p1 μ1 hr_)) (fun r2 μ3 => ?_)
  refine W_ite (fun h4 => ?_) (fun h4 => ?_)
  · refine W_s (s_if_eq_f dX12_early_10 rfl (gx_bt h4)) ?_
    refine W_s (s_aload_n dX12_early_13 rfl rfl) ?_
    refine W_s (s_iload_n dX12_early_14 rfl rfl) ?_
    refine W_s (s_callV (As := [.int _]) dX12_early_15 Lk_RX12_316 rfl g_206 (by decide) rfl (Nat.le_of_ble_eq_true rfl) (Nat.le_of_ble_eq_true rfl) (ev_X12_isPerson p2 μ3)) ?_
    refine W_ite (fun h5 => ?_) (fun h5 => ?_)
    · refine W_s (s_if_eq_f dX12_early_18 rfl (gx_bt h5)) ?_
      refine W_s (s_aload_n dX12_early_21 rfl rfl) ?_
      refine W_s (s_iload_n dX12_early_22 rfl rfl) ?_
      refine W_s (s_callV (As := [.int _]) dX12_early_23 Lk_RX12_391 rfl g_206 (by decide) rfl (Nat.le_of_ble_eq_true rfl) (Nat.le_of_ble_eq_true rfl) (ev_X12_isSet p3 μ3)) ?_
      refine W_ite (fun h6 => ?_) (fun h6 => ?_)
      · refine W_s (s_if_ne_t dX12_early_26 rfl (gx_bt h6)) ?_
        refine W_s (s_aload_n dX12_early_31 rfl rfl) ?_
        refine W_s (s_iload_n dX12_early_32 rfl rfl) ?_
        refine W_br (ec := gx_eL) (fun r_ hr_ => s_callV (As := [.int _]) dX12_early_33 Lk_RX12_430 rfl g_206 (by decide) rfl (Nat.le_of_ble_eq_true rfl) (Nat.le_of_ble_eq_true rfl) (ev_X12_handsOf p2 μ3 hr_)) (fun r7 => ?_)
        refine W_s (s_lstore dX12_early_36 (Nat.le_of_ble_eq_true rfl)) ?_
        refine W_s (s_aload_n dX12_early_38 rfl rfl) ?_
        refine W_s (gf_RX12_283 rfl dX12_early_39) ?_
        refine W_letI (fun x8 => ?_)
        refine W_s (s_istore dX12_early_42 (Nat.le_of_ble_eq_true rfl)) ?_
        refine W_wk (okL_X12_early_44 ?_ 4000 x8 μ3) (le_s rfl (le_o (le_o (le_s rfl (le_s rfl (le_o (le_s rfl le_n)))))))
        intro μ51
        refine W_s (s_aload_n dX12_early_251 rfl rfl) ?_
        refine W_s (gf_RX12_69 rfl dX12_early_252) ?_
        refine W_s (s_iload_n dX12_early_255 rfl rfl) ?_
        refine W_ck (fun h52 => ?_)
        refine W_s (s_iald dX12_early_256 g_226 (gx_ixv h52)) ?_
        refine W_s (s_ldcw dX12_early_257 kw_RX12_371) ?_
        refine W_ite (fun h53 => ?_) (fun h53 => ?_)
        · refine W_s (s_icmp_lt_t dX12_early_260 rfl h53) ?_
          refine W_s (s_aload_n dX12_early_267 rfl rfl) ?_
          refine W_s (gf_RX12_69 rfl dX12_early_268) ?_
          refine W_s (s_iload_n dX12_early_271 rfl rfl) ?_
          refine W_s (s_iald dX12_early_272 g_226 (gx_ixv h52)) ?_
          exact W_r (r := (μ51.1 226 p3.toNatClampNeg)) (f_int (ty := .int) dX12_early_273 rfl rfl)
        · refine W_s (s_icmp_lt_f dX12_early_260 rfl h53) ?_
          refine W_s (s_iconst dX12_early_263 kci_m1) ?_
          refine W_s (s_goto dX12_early_264 rfl) ?_
          exact W_r (r := (-1)) (f_int (ty := .int) dX12_early_273 rfl rfl)
      · refine W_s (s_if_ne_f dX12_early_26 rfl (gx_bf h6)) ?_
        refine W_s (s_iconst dX12_early_29 kci_m1) ?_
        exact W_r (r := (-1)) (f_int (ty := .int) dX12_early_30 rfl rfl)
    · refine W_s (s_if_eq_t dX12_early_18 rfl (gx_bf h5)) ?_
      refine W_s (s_iconst dX12_early_29 kci_m1) ?_
      exact W_r (r := (-1)) (f_int (ty := .int) dX12_early_30 rfl rfl)
  · refine W_s (s_if_eq_t dX12_early_10 rfl (gx_bf h4)) ?_
    refine W_s (s_iconst dX12_early_29 kci_m1) ?_
    exact W_r (r := (-1)) (f_int (ty := .int) dX12_early_30 rfl rfl)

def L_X12_span_41 (k11 : Int32 → Int32 → gx_M → Option (Int32 × gx_M)) : Nat → Int32 → Int32 → Int32 → gx_M → Option (Int32 × gx_M)
  | 0, _, _, _, _ => none
  | n + 1, v3_7, v4_8, v5_9, μ10 => if (μ10.1 206 48) ≤ v5_9 then k11 v3_7 v4_8 μ10 else gx_ck (gx_ix v5_9 820 = true) (gx_lt ((((μ10.1 231 v5_9.toNatClampNeg) - (μ10.1 231 v5_9.toNatClampNeg) / 40 * 40) - ((μ10.1 231 v5_9.toNatClampNeg) / 40)) + 1) (fun (x14 : Int32) => gx_lt (f_X12_lesser v3_7 x14) (fun (x15 : Int32) => gx_lt (f_X12_greater v4_8 x14) (fun (x16 : Int32) => L_X12_span_41 k11 n x15 x16 (v5_9 + 1) μ10))))
def L_X12_span_106 (k27 : Int32 → Int32 → gx_M → Option (Int32 × gx_M)) : Nat → Int32 → Int32 → Int32 → gx_M → Option (Int32 × gx_M)
  | 0, _, _, _, _ => none
  | n + 1, v5_23, v6_24, v7_25, μ26 => if 40 ≤ v7_25 then k27 v5_23 v6_24 μ26 else gx_br (f_X12_among v7_25 μ26) (fun (r29 : Int32) => gx_lt (fun (j0_32 : Bool) (μ33 : gx_M) => gx_lt (v5_23 + (gx_bi j0_32)) (fun (x34 : Int32) => gx_lt (fun (j0_37 : Bool) (μ38 : gx_M) => gx_lt (v6_24 + (gx_bi j0_37)) (fun (x39 : Int32) => L_X12_span_106 k27 n x34 x39 (v7_25 + 1) μ38)) (fun J35 => if r29 = 0 then J35 true μ33 else J35 false μ33))) (fun J30 => if r29 = (μ26.1 206 48) then J30 true μ26 else J30 false μ26))
def f_X12_span (p1 : Int32) (p2 : Int32) (μ : gx_M) : Option (Int32 × gx_M) := gx_lt (gx_uI μ 206 0 0) (fun (μ1 : gx_M) => gx_bd (f_X12_layLog p1 μ1) (fun (r2 : Bool) (μ3 : gx_M) => if r2 = true then if (μ3.1 206 48) = 0 then some ((-1), μ3) else if (f_X12_in p2 0 3) = true then L_X12_span_41 (fun (x3_20 : Int32) (x4_21 : Int32) (μ22 : gx_M) => L_X12_span_106 (fun (x5_43 : Int32) (x6_44 : Int32) (μ45 : gx_M) => if p2 = 0 then some (x3_20, μ45) else if p2 = 1 then some (x4_21, μ45) else if p2 = 2 then some (x5_43, μ45) else some (x6_44, μ45)) 4000 0 0 0 μ22) 4000 1000000 0 0 μ3 else some ((-1), μ3) else some ((-1), μ3)))
theorem okL_X12_span_41 {E : gx_E} {l : Launch} {p2 : Int32} {k11 : Int32 → Int32 → gx_M → Option (Int32 × gx_M)} (hk : ∀ (w17 : Int32) (w18 : Int32) (μ19 : gx_M), GoW E l Y_X12_span 3 gx_eI 97 [some (.ref (E.2.2.1 + 206)), none, some (.int p2), some (.int w17), some (.int w18)] [] μ19 (k11 w17 w18 μ19)) : ∀ (n : Nat) (v3_7 : Int32) (v4_8 : Int32) (v5_9 : Int32) (μ10 : gx_M), GoW E l Y_X12_span 3 gx_eI 41 [some (.ref (E.2.2.1 + 206)), none, some (.int p2), some (.int v3_7), some (.int v4_8), some (.int v5_9)] [] μ10 (L_X12_span_41 k11 n v3_7 v4_8 v5_9 μ10) := by
  intro n
  induction n with
  | zero => intros; exact W_no
  | succ n ih =>
    intro v3_7 v4_8 v5_9 μ10
    rw [L_X12_span_41.eq_2]
    refine W_s (s_iload dX12_span_41 rfl) ?_
    refine W_s (s_aload_n dX12_span_43 rfl rfl) ?_
    refine W_s (gf_RX12_467 rfl dX12_span_44) ?_
    refine W_ite (fun h12 => ?_) (fun h12 => ?_)
    · refine W_s (s_icmp_ge_t dX12_span_47 rfl h12) ?_
      exact W_wk (hk v3_7 v4_8 μ10) (le_s rfl (le_o (le_s rfl (le_s rfl (le_s rfl le_n)))))
    · refine W_s (s_icmp_ge_f dX12_span_47 rfl h12) ?_
      refine W_s (s_aload_n dX12_span_50 rfl rfl) ?_
      refine W_s (gf_RX12_85 rfl dX12_span_51) ?_
      refine W_s (s_iload dX12_span_54 rfl) ?_
      refine W_ck (fun h13 => ?_)
      refine W_s (s_iald dX12_span_56 g_231 (gx_ixv h13)) ?_
      refine W_s (s_bipush dX12_span_57 kcb_40) ?_
      refine W_s (s_irem dX12_span_59 (by decide)) ?_
      refine W_s (s_aload_n dX12_span_60 rfl rfl) ?_
      refine W_s (gf_RX12_85 rfl dX12_span_61) ?_
      refine W_s (s_iload dX12_span_64 rfl) ?_
      refine W_s (s_iald dX12_span_66 g_231 (gx_ixv h13)) ?_
      refine W_s (s_bipush dX12_span_67 kcb_40) ?_
      refine W_s (s_idiv dX12_span_69 (by decide)) ?_
      refine W_s (s_isub dX12_span_70) ?_
      refine W_s (s_iconst dX12_span_71 kci_1) ?_
      refine W_s (s_iadd dX12_span_72) ?_
      refine W_letI (fun x14 => ?_)
      refine W_s (s_istore dX12_span_73 (Nat.le_of_ble_eq_true rfl)) ?_
      refine W_s (s_iload_n dX12_span_75 rfl rfl) ?_
      refine W_s (s_iload dX12_span_76 rfl) ?_
      refine W_s (s_callS (As := [.int _, .int _]) dX12_span_78 Lk_RX12_375 rfl (Nat.le_of_ble_eq_true rfl) (Nat.le_of_ble_eq_true rfl) (ev_X12_lesser v3_7 x14 μ10)) ?_
      refine W_letI (fun x15 => ?_)
      refine W_s (s_istore_n dX12_span_81 rfl (Nat.le_of_ble_eq_true rfl)) ?_
      refine W_s (s_iload dX12_span_82 rfl) ?_
      refine W_s (s_iload dX12_span_84 rfl) ?_
      refine W_s (s_callS (As := [.int _, .int _]) dX12_span_86 Lk_RX12_173 rfl (Nat.le_of_ble_eq_true rfl) (Nat.le_of_ble_eq_true rfl) (ev_X12_greater v4_8 x14 μ10)) ?_
      refine W_letI (fun x16 => ?_)
      refine W_s (s_istore dX12_span_89 (Nat.le_of_ble_eq_true rfl)) ?_
      refine W_s (s_iinc dX12_span_91 rfl (kinc_1 v5_9) (Nat.le_of_ble_eq_true rfl)) ?_
      refine W_s (s_goto dX12_span_94 rfl) ?_
      exact W_wk (ih x15 x16 (v5_9 + 1) μ10) (le_s rfl (le_o (le_s rfl (le_s rfl (le_s rfl (le_s rfl le_n))))))
theorem okL_X12_span_106 {E : gx_E} {l : Launch} {p2 : Int32} {x3_20 : Int32} {x4_21 : Int32} {k27 : Int32 → Int32 → gx_M → Option (Int32 × gx_M)} (hk : ∀ (w40 : Int32) (w41 : Int32) (μ42 : gx_M), GoW E l Y_X12_span 3 gx_eI 161 [none, none, some (.int p2), some (.int x3_20), some (.int x4_21), some (.int w40), some (.int w41)] [] μ42 (k27 w40 w41 μ42)) : ∀ (n : Nat) (v5_23 : Int32) (v6_24 : Int32) (v7_25 : Int32) (μ26 : gx_M), GoW E l Y_X12_span 3 gx_eI 106 [some (.ref (E.2.2.1 + 206)), none, some (.int p2), some (.int x3_20), some (.int x4_21), some (.int v5_23), some (.int v6_24), some (.int v7_25)] [] μ26 (L_X12_span_106 k27 n v5_23 v6_24 v7_25 μ26) := by
  intro n
  induction n with
  | zero => intros; exact W_no
  | succ n ih =>
    intro v5_23 v6_24 v7_25 μ26
    rw [L_X12_span_106.eq_2]
    refine W_s (s_iload dX12_span_106 rfl) ?_
    refine W_s (s_bipush dX12_span_108 kcb_40) ?_
    refine W_ite (fun h28 => ?_) (fun h28 => ?_)
    · refine W_s (s_icmp_ge_t dX12_span_110 rfl h28) ?_
      exact W_wk (hk v5_23 v6_24 μ26) (le_o (le_o (le_s rfl (le_s rfl (le_s rfl (le_s rfl (le_s rfl le_n)))))))
    · refine W_s (s_icmp_ge_f dX12_span_110 rfl h28) ?_
      refine W_s (s_aload_n dX12_span_113 rfl rfl) ?_
      refine W_s (s_iload dX12_span_114 rfl) ?_
      refine W_br (ec := gx_eI) (fun r_ hr_ => s_callV (As := [.int _]) dX12_span_116 Lk_RX12_476 rfl g_206 (by decide) rfl (Nat.le_of_ble_eq_true rfl) (Nat.le_of_ble_eq_true rfl) (ev_X12_among v7_25 μ26 hr_)) (fun r29 => ?_)
      refine W_s (s_istore dX12_span_119 (Nat.le_of_ble_eq_true rfl)) ?_
      refine W_s (s_iload dX12_span_121 rfl) ?_
      refine W_s (s_iload dX12_span_123 rfl) ?_
      refine W_s (s_aload_n dX12_span_125 rfl rfl) ?_
      refine W_s (gf_RX12_467 rfl dX12_span_126) ?_
      refine W_fun (fun J => ∀ (j0_32 : Bool) (μ33 : gx_M), GoW E l Y_X12_span 3 gx_eI 137 [some (.ref (E.2.2.1 + 206)), none, some (.int p2), some (.int x3_20), some (.int x4_21), none, some (.int v6_24), some (.int v7_25), some (.int r29)] [.int (gx_bi j0_32), .int v5_23] μ33 (J j0_32 μ33)) ?_ (fun J30 hJ30 => ?_)
      · intro j0_32 μ33
        refine W_s (s_iadd dX12_span_137) ?_
        refine W_letI (fun x34 => ?_)
        refine W_s (s_istore dX12_span_138 (Nat.le_of_ble_eq_true rfl)) ?_
        refine W_s (s_iload dX12_span_140 rfl) ?_
        refine W_s (s_iload dX12_span_142 rfl) ?_
        refine W_fun (fun J => ∀ (j0_37 : Bool) (μ38 : gx_M), GoW E l Y_X12_span 3 gx_eI 152 [some (.ref (E.2.2.1 + 206)), none, some (.int p2), some (.int x3_20), some (.int x4_21), some (.int x34), none, some (.int v7_25)] [.int (gx_bi j0_37), .int v6_24] μ38 (J j0_37 μ38)) ?_ (fun J35 hJ35 => ?_)
        · intro j0_37 μ38
          refine W_s (s_iadd dX12_span_152) ?_
          refine W_letI (fun x39 => ?_)
          refine W_s (s_istore dX12_span_153 (Nat.le_of_ble_eq_true rfl)) ?_
          refine W_s (s_iinc dX12_span_155 rfl (kinc_1 v7_25) (Nat.le_of_ble_eq_true rfl)) ?_
          refine W_s (s_goto dX12_span_158 rfl) ?_
          exact W_wk (ih x34 x39 (v7_25 + 1) μ38) (le_s rfl (le_o (le_s rfl (le_s rfl (le_s rfl (le_s rfl (le_s rfl (le_s rfl le_n))))))))
        · skip
          refine W_ite (fun h36 => ?_) (fun h36 => ?_)
          · refine W_s (s_if_ne_f dX12_span_144 rfl h36) ?_
            refine W_s (s_iconst dX12_span_147 kci_1) ?_
            refine W_s (s_goto dX12_span_148 rfl) ?_
            exact W_wk (hJ35 true μ33) (le_s rfl (le_o (le_s rfl (le_s rfl (le_s rfl (le_s rfl (le_o (le_s rfl le_n))))))))
          · refine W_s (s_if_ne_t dX12_span_144 rfl h36) ?_
            refine W_s (s_iconst dX12_span_151 kci_0) ?_
            exact W_wk (hJ35 false μ33) (le_s rfl (le_o (le_s rfl (le_s rfl (le_s rfl (le_s rfl (le_o (le_s rfl le_n))))))))
      · skip
        refine W_ite (fun h31 => ?_) (fun h31 => ?_)
        · refine W_s (s_icmp_ne_f dX12_span_129 rfl h31) ?_
          refine W_s (s_iconst dX12_span_132 kci_1) ?_
          refine W_s (s_goto dX12_span_133 rfl) ?_
          exact W_wk (hJ30 true μ26) (le_s rfl (le_o (le_s rfl (le_s rfl (le_s rfl (le_o (le_s rfl (le_s rfl (le_s rfl le_n)))))))))
        · refine W_s (s_icmp_ne_t dX12_span_129 rfl h31) ?_
          refine W_s (s_iconst dX12_span_136 kci_0) ?_
          exact W_wk (hJ30 false μ26) (le_s rfl (le_o (le_s rfl (le_s rfl (le_s rfl (le_o (le_s rfl (le_s rfl (le_s rfl le_n)))))))))
theorem ev_X12_span {E : gx_E} {l : Launch} (p1 : Int32) (p2 : Int32) (μ : gx_M) {r : Int32} {μ' : gx_M} (hr : f_X12_span p1 p2 μ = some (r, μ')) : gEv E l 3 Y_X12_span [.ref (E.2.2.1 + 206), .int p1, .int p2] gx_G1 μ (gx_eI r) gx_G1 μ' := by
  refine W_ev (by decide) (Nat.le_of_ble_eq_true rfl) (em := gx_eI) (T := f_X12_span p1 p2 μ) ?_ hr
  show GoW E l Y_X12_span 3 gx_eI 0 (gx_el [.ref (E.2.2.1 + 206), .int p1, .int p2]) [] μ (f_X12_span p1 p2 μ)
  unfold f_X12_span
  refine W_s (s_aload_n dX12_span_0 rfl rfl) ?_
  refine W_s (s_iconst dX12_span_1 kci_0) ?_
  refine W_s (pf_RX12_100 rfl dX12_span_2) ?_
  refine W_letM (fun μ1 => ?_)
  refine W_s (s_aload_n dX12_span_5 rfl rfl) ?_
  refine W_s (s_iload_n dX12_span_6 rfl rfl) ?_
  refine W_bd (ec := gx_eB) (fun r_ μ_ hr_ => s_callV (As := [.int _]) dX12_span_7 Lk_RX12_479 rfl g_206 (by decide) rfl (Nat.le_of_ble_eq_true rfl) (Nat.le_of_ble_eq_true rfl) (ev_X12_layLog p1 μ1 hr_)) (fun r2 μ3 => ?_)
  refine W_ite (fun h4 => ?_) (fun h4 => ?_)
  · refine W_s (s_if_eq_f dX12_span_10 rfl (gx_bt h4)) ?_
    refine W_s (s_aload_n dX12_span_13 rfl rfl) ?_
    refine W_s (gf_RX12_467 rfl dX12_span_14) ?_
    refine W_ite (fun h5 => ?_) (fun h5 => ?_)
    · refine W_s (s_if_eq_t dX12_span_17 rfl h5) ?_
      refine W_s (s_iconst dX12_span_29 kci_m1) ?_
      exact W_r (r := (-1)) (f_int (ty := .int) dX12_span_30 rfl rfl)
    · refine W_s (s_if_eq_f dX12_span_17 rfl h5) ?_
      refine W_s (s_iload_n dX12_span_20 rfl rfl) ?_
      refine W_s (s_iconst dX12_span_21 kci_0) ?_
      refine W_s (s_iconst dX12_span_22 kci_3) ?_
      refine W_s (s_callS (As := [.int _, .int _, .int _]) dX12_span_23 Lk_RX12_112 rfl (Nat.le_of_ble_eq_true rfl) (Nat.le_of_ble_eq_true rfl) (ev_X12_in p2 0 3 μ3)) ?_
      refine W_ite (fun h6 => ?_) (fun h6 => ?_)
      · refine W_s (s_if_ne_t dX12_span_26 rfl (gx_bt h6)) ?_
        refine W_s (s_ldcw dX12_span_31 kw_RX12_371) ?_
        refine W_s (s_istore_n dX12_span_34 rfl (Nat.le_of_ble_eq_true rfl)) ?_
        refine W_s (s_iconst dX12_span_35 kci_0) ?_
        refine W_s (s_istore dX12_span_36 (Nat.le_of_ble_eq_true rfl)) ?_
        refine W_s (s_iconst dX12_span_38 kci_0) ?_
        refine W_s (s_istore dX12_span_39 (Nat.le_of_ble_eq_true rfl)) ?_
        refine W_wk (okL_X12_span_41 ?_ 4000 1000000 0 0 μ3) (le_s rfl (le_o (le_s rfl (le_s rfl (le_s rfl (le_s rfl le_n))))))
        intro x3_20 x4_21 μ22
        refine W_s (s_iconst dX12_span_97 kci_0) ?_
        refine W_s (s_istore dX12_span_98 (Nat.le_of_ble_eq_true rfl)) ?_
        refine W_s (s_iconst dX12_span_100 kci_0) ?_
        refine W_s (s_istore dX12_span_101 (Nat.le_of_ble_eq_true rfl)) ?_
        refine W_s (s_iconst dX12_span_103 kci_0) ?_
        refine W_s (s_istore dX12_span_104 (Nat.le_of_ble_eq_true rfl)) ?_
        refine W_wk (okL_X12_span_106 ?_ 4000 0 0 0 μ22) (le_s rfl (le_o (le_s rfl (le_s rfl (le_s rfl (le_s rfl (le_s rfl (le_s rfl le_n))))))))
        intro x5_43 x6_44 μ45
        refine W_s (s_iload_n dX12_span_161 rfl rfl) ?_
        refine W_ite (fun h46 => ?_) (fun h46 => ?_)
        · refine W_s (s_if_ne_f dX12_span_162 rfl h46) ?_
          refine W_s (s_iload_n dX12_span_165 rfl rfl) ?_
          refine W_s (s_goto dX12_span_166 rfl) ?_
          exact W_r (r := x3_20) (f_int (ty := .int) dX12_span_191 rfl rfl)
        · refine W_s (s_if_ne_t dX12_span_162 rfl h46) ?_
          refine W_s (s_iload_n dX12_span_169 rfl rfl) ?_
          refine W_s (s_iconst dX12_span_170 kci_1) ?_
          refine W_ite (fun h47 => ?_) (fun h47 => ?_)
          · refine W_s (s_icmp_ne_f dX12_span_171 rfl h47) ?_
            refine W_s (s_iload dX12_span_174 rfl) ?_
            refine W_s (s_goto dX12_span_176 rfl) ?_
            exact W_r (r := x4_21) (f_int (ty := .int) dX12_span_191 rfl rfl)
          · refine W_s (s_icmp_ne_t dX12_span_171 rfl h47) ?_
            refine W_s (s_iload_n dX12_span_179 rfl rfl) ?_
            refine W_s (s_iconst dX12_span_180 kci_2) ?_
            refine W_ite (fun h48 => ?_) (fun h48 => ?_)
            · refine W_s (s_icmp_ne_f dX12_span_181 rfl h48) ?_
              refine W_s (s_iload dX12_span_184 rfl) ?_
              refine W_s (s_goto dX12_span_186 rfl) ?_
              exact W_r (r := x5_43) (f_int (ty := .int) dX12_span_191 rfl rfl)
            · refine W_s (s_icmp_ne_t dX12_span_181 rfl h48) ?_
              refine W_s (s_iload dX12_span_189 rfl) ?_
              exact W_r (r := x6_44) (f_int (ty := .int) dX12_span_191 rfl rfl)
      · refine W_s (s_if_ne_f dX12_span_26 rfl (gx_bf h6)) ?_
        refine W_s (s_iconst dX12_span_29 kci_m1) ?_
        exact W_r (r := (-1)) (f_int (ty := .int) dX12_span_30 rfl rfl)
  · refine W_s (s_if_eq_t dX12_span_10 rfl (gx_bf h4)) ?_
    refine W_s (s_iconst dX12_span_29 kci_m1) ?_
    exact W_r (r := (-1)) (f_int (ty := .int) dX12_span_30 rfl rfl)

def L_X12_taskLine_62 (x13 : Int32) (k17 : gx_M → Option (Bool × gx_M)) : Nat → Int32 → gx_M → Option (Bool × gx_M)
  | 0, _, _ => none
  | n + 1, v2_15, μ16 => if 4 ≤ v2_15 then k17 μ16 else gx_ck (gx_ix v2_15 5 = true) (gx_ck (gx_ix (((7 : Int32) + ((6 : Int32) * v2_15)) + x13) 161 = true) (gx_lt (gx_uI μ16 216 (((7 : Int32) + ((6 : Int32) * v2_15)) + x13).toNatClampNeg (μ16.1 217 v2_15.toNatClampNeg)) (fun (μ21 : gx_M) => L_X12_taskLine_62 x13 k17 n (v2_15 + 1) μ21)))
def f_X12_taskLine (μ : gx_M) : Option (Bool × gx_M) := gx_bd (f_X12_take 0 1 9 μ) (fun (r1 : Bool) (μ2 : gx_M) => if r1 = true then gx_bd (f_X12_takeMinute 1 0 μ2) (fun (r4 : Bool) (μ5 : gx_M) => if r4 = true then gx_bd (f_X12_takeMinute 2 (μ5.1 217 1) μ5) (fun (r7 : Bool) (μ8 : gx_M) => if r7 = true then gx_bd (f_X12_take 3 0 99 μ8) (fun (r10 : Bool) (μ11 : gx_M) => if r10 = true then gx_lt (μ11.1 216 2) (fun (x13 : Int32) => if 6 ≤ x13 then some (true, μ11) else L_X12_taskLine_62 x13 (fun (μ23 : gx_M) => gx_lt (gx_uI μ23 216 2 ((μ23.1 216 2) + 1)) (fun (μ24 : gx_M) => some (true, μ24))) 4000 0 μ11) else some (false, μ11)) else some (false, μ8)) else some (false, μ5)) else some (false, μ2))
theorem okL_X12_taskLine_62 {E : gx_E} {l : Launch} {x13 : Int32} {k17 : gx_M → Option (Bool × gx_M)} (hk : ∀ (μ22 : gx_M), GoW E l Y_X12_taskLine 4 gx_eB 93 [some (.ref (E.2.2.1 + 206))] [] μ22 (k17 μ22)) : ∀ (n : Nat) (v2_15 : Int32) (μ16 : gx_M), GoW E l Y_X12_taskLine 4 gx_eB 62 [some (.ref (E.2.2.1 + 206)), some (.int x13), some (.int v2_15)] [] μ16 (L_X12_taskLine_62 x13 k17 n v2_15 μ16) := by
  intro n
  induction n with
  | zero => intros; exact W_no
  | succ n ih =>
    intro v2_15 μ16
    rw [L_X12_taskLine_62.eq_2]
    refine W_s (s_iload_n dX12_taskLine_62 rfl rfl) ?_
    refine W_s (s_iconst dX12_taskLine_63 kci_4) ?_
    refine W_ite (fun h18 => ?_) (fun h18 => ?_)
    · refine W_s (s_icmp_ge_t dX12_taskLine_64 rfl h18) ?_
      exact W_wk (hk μ16) (le_s rfl le_n)
    · refine W_s (s_icmp_ge_f dX12_taskLine_64 rfl h18) ?_
      refine W_s (s_aload_n dX12_taskLine_67 rfl rfl) ?_
      refine W_s (gf_RX12_38 rfl dX12_taskLine_68) ?_
      refine W_s (s_bipush dX12_taskLine_71 kcb_7) ?_
      refine W_s (s_bipush dX12_taskLine_73 kcb_6) ?_
      refine W_s (s_iload_n dX12_taskLine_75 rfl rfl) ?_
      refine W_s (s_imul dX12_taskLine_76) ?_
      refine W_s (s_iadd dX12_taskLine_77) ?_
      refine W_s (s_iload_n dX12_taskLine_78 rfl rfl) ?_
      refine W_s (s_iadd dX12_taskLine_79) ?_
      refine W_s (s_aload_n dX12_taskLine_80 rfl rfl) ?_
      refine W_s (gf_RX12_41 rfl dX12_taskLine_81) ?_
      refine W_s (s_iload_n dX12_taskLine_84 rfl rfl) ?_
      refine W_ck (fun h19 => ?_)
      refine W_s (s_iald dX12_taskLine_85 g_217 (gx_ixv h19)) ?_
      refine W_ck (fun h20 => ?_)
      refine W_s (s_iast dX12_taskLine_86 g_216 (gx_ixv h20)) ?_
      refine W_letM (fun μ21 => ?_)
      refine W_s (s_iinc dX12_taskLine_87 rfl (kinc_1 v2_15) (Nat.le_of_ble_eq_true rfl)) ?_
      refine W_s (s_goto dX12_taskLine_90 rfl) ?_
      exact W_wk (ih (v2_15 + 1) μ21) (le_s rfl (le_s rfl (le_s rfl le_n)))
theorem ev_X12_taskLine {E : gx_E} {l : Launch} (μ : gx_M) {r : Bool} {μ' : gx_M} (hr : f_X12_taskLine μ = some (r, μ')) : gEv E l 4 Y_X12_taskLine [.ref (E.2.2.1 + 206)] gx_G1 μ (gx_eB r) gx_G1 μ' := by
  refine W_ev (by decide) (Nat.le_of_ble_eq_true rfl) (em := gx_eB) (T := f_X12_taskLine μ) ?_ hr
  show GoW E l Y_X12_taskLine 4 gx_eB 0 (gx_el [.ref (E.2.2.1 + 206)]) [] μ (f_X12_taskLine μ)
  unfold f_X12_taskLine
  refine W_s (s_aload_n dX12_taskLine_0 rfl rfl) ?_
  refine W_s (s_iconst dX12_taskLine_1 kci_0) ?_
  refine W_s (s_iconst dX12_taskLine_2 kci_1) ?_
  refine W_s (s_bipush dX12_taskLine_3 kcb_9) ?_
  refine W_bd (ec := gx_eB) (fun r_ μ_ hr_ => s_callV (As := [.int _, .int _, .int _]) dX12_taskLine_5 Lk_RX12_167 rfl g_206 (by decide) rfl (Nat.le_of_ble_eq_true rfl) (Nat.le_of_ble_eq_true rfl) (ev_X12_take 0 1 9 μ hr_)) (fun r1 μ2 => ?_)
  refine W_ite (fun h3 => ?_) (fun h3 => ?_)
  · refine W_s (s_if_eq_f dX12_taskLine_8 rfl (gx_bt h3)) ?_
    refine W_s (s_aload_n dX12_taskLine_11 rfl rfl) ?_
    refine W_s (s_iconst dX12_taskLine_12 kci_1) ?_
    refine W_s (s_iconst dX12_taskLine_13 kci_0) ?_
    refine W_bd (ec := gx_eB) (fun r_ μ_ hr_ => s_callV (As := [.int _, .int _]) dX12_taskLine_14 Lk_RX12_180 rfl g_206 (by decide) rfl (Nat.le_of_ble_eq_true rfl) (Nat.le_of_ble_eq_true rfl) (ev_X12_takeMinute 1 0 μ2 hr_)) (fun r4 μ5 => ?_)
    refine W_ite (fun h6 => ?_) (fun h6 => ?_)
    · refine W_s (s_if_eq_f dX12_taskLine_17 rfl (gx_bt h6)) ?_
      refine W_s (s_aload_n dX12_taskLine_20 rfl rfl) ?_
      refine W_s (s_iconst dX12_taskLine_21 kci_2) ?_
      refine W_s (s_aload_n dX12_taskLine_22 rfl rfl) ?_
      refine W_s (gf_RX12_41 rfl dX12_taskLine_23) ?_
      refine W_s (s_iconst dX12_taskLine_26 kci_1) ?_
      refine W_s (s_ialdL (k := 1) dX12_taskLine_27 g_217 (gx_inl (by decide)) (by decide)) ?_
      refine W_bd (ec := gx_eB) (fun r_ μ_ hr_ => s_callV (As := [.int _, .int _]) dX12_taskLine_28 Lk_RX12_180 rfl g_206 (by decide) rfl (Nat.le_of_ble_eq_true rfl) (Nat.le_of_ble_eq_true rfl) (ev_X12_takeMinute 2 (μ5.1 217 1) μ5 hr_)) (fun r7 μ8 => ?_)
      refine W_ite (fun h9 => ?_) (fun h9 => ?_)
      · refine W_s (s_if_eq_f dX12_taskLine_31 rfl (gx_bt h9)) ?_
        refine W_s (s_aload_n dX12_taskLine_34 rfl rfl) ?_
        refine W_s (s_iconst dX12_taskLine_35 kci_3) ?_
        refine W_s (s_iconst dX12_taskLine_36 kci_0) ?_
        refine W_s (s_bipush dX12_taskLine_37 kcb_99) ?_
        refine W_bd (ec := gx_eB) (fun r_ μ_ hr_ => s_callV (As := [.int _, .int _, .int _]) dX12_taskLine_39 Lk_RX12_167 rfl g_206 (by decide) rfl (Nat.le_of_ble_eq_true rfl) (Nat.le_of_ble_eq_true rfl) (ev_X12_take 3 0 99 μ8 hr_)) (fun r10 μ11 => ?_)
        refine W_ite (fun h12 => ?_) (fun h12 => ?_)
        · refine W_s (s_if_ne_t dX12_taskLine_42 rfl (gx_bt h12)) ?_
          refine W_s (s_aload_n dX12_taskLine_47 rfl rfl) ?_
          refine W_s (gf_RX12_38 rfl dX12_taskLine_48) ?_
          refine W_s (s_iconst dX12_taskLine_51 kci_2) ?_
          refine W_s (s_ialdL (k := 2) dX12_taskLine_52 g_216 (gx_inl (by decide)) (by decide)) ?_
          refine W_letI (fun x13 => ?_)
          refine W_s (s_istore_n dX12_taskLine_53 rfl (Nat.le_of_ble_eq_true rfl)) ?_
          refine W_s (s_iload_n dX12_taskLine_54 rfl rfl) ?_
          refine W_s (s_bipush dX12_taskLine_55 kcb_6) ?_
          refine W_ite (fun h14 => ?_) (fun h14 => ?_)
          · refine W_s (s_icmp_ge_t dX12_taskLine_57 rfl h14) ?_
            refine W_s (s_iconst dX12_taskLine_103 kci_1) ?_
            exact W_r (r := true) (f_int (ty := .boolean) (x := gx_bi true) dX12_taskLine_104 rfl (gx_bn true))
          · refine W_s (s_icmp_ge_f dX12_taskLine_57 rfl h14) ?_
            refine W_s (s_iconst dX12_taskLine_60 kci_0) ?_
            refine W_s (s_istore_n dX12_taskLine_61 rfl (Nat.le_of_ble_eq_true rfl)) ?_
            refine W_wk (okL_X12_taskLine_62 ?_ 4000 0 μ11) (le_s rfl (le_s rfl (le_s rfl le_n)))
            intro μ23
            refine W_s (s_aload_n dX12_taskLine_93 rfl rfl) ?_
            refine W_s (gf_RX12_38 rfl dX12_taskLine_94) ?_
            refine W_s (s_iconst dX12_taskLine_97 kci_2) ?_
            refine W_s (s_dup2 dX12_taskLine_98 rfl rfl) ?_
            refine W_s (s_ialdL (k := 2) dX12_taskLine_99 g_216 (gx_inl (by decide)) (by decide)) ?_
            refine W_s (s_iconst dX12_taskLine_100 kci_1) ?_
            refine W_s (s_iadd dX12_taskLine_101) ?_
            refine W_s (s_iastL (k := 2) dX12_taskLine_102 g_216 (gx_inl (by decide)) (by decide)) ?_
            refine W_letM (fun μ24 => ?_)
            refine W_s (s_iconst dX12_taskLine_103 kci_1) ?_
            exact W_r (r := true) (f_int (ty := .boolean) (x := gx_bi true) dX12_taskLine_104 rfl (gx_bn true))
        · refine W_s (s_if_ne_f dX12_taskLine_42 rfl (gx_bf h12)) ?_
          refine W_s (s_iconst dX12_taskLine_45 kci_0) ?_
          exact W_r (r := false) (f_int (ty := .boolean) (x := gx_bi false) dX12_taskLine_46 rfl (gx_bn false))
      · refine W_s (s_if_eq_t dX12_taskLine_31 rfl (gx_bf h9)) ?_
        refine W_s (s_iconst dX12_taskLine_45 kci_0) ?_
        exact W_r (r := false) (f_int (ty := .boolean) (x := gx_bi false) dX12_taskLine_46 rfl (gx_bn false))
    · refine W_s (s_if_eq_t dX12_taskLine_17 rfl (gx_bf h6)) ?_
      refine W_s (s_iconst dX12_taskLine_45 kci_0) ?_
      exact W_r (r := false) (f_int (ty := .boolean) (x := gx_bi false) dX12_taskLine_46 rfl (gx_bn false))
  · refine W_s (s_if_eq_t dX12_taskLine_8 rfl (gx_bf h3)) ?_
    refine W_s (s_iconst dX12_taskLine_45 kci_0) ?_
    exact W_r (r := false) (f_int (ty := .boolean) (x := gx_bi false) dX12_taskLine_46 rfl (gx_bn false))

def f_X12_yearLine (p1 : Int64) (p3 : Int32) (μ : gx_M) : Option (Bool × gx_M) := gx_lt (f_X12_deedBy p1) (fun (x1 : Int32) => if x1 = (-1) then gx_bd (f_X12_fails μ) (fun (r36 : Bool) (μ37 : gx_M) => some (r36, μ37)) else gx_bd (f_X12_full 0 40 p3 μ) (fun (r3 : Unit) (μ4 : gx_M) => gx_bd (f_X12_token μ4) (fun (r5 : Unit) (μ6 : gx_M) => gx_lt (gx_uI μ6 217 2 (-1)) (fun (μ7 : gx_M) => gx_lt (gx_uI μ7 217 3 (-1)) (fun (μ8 : gx_M) => gx_lt (fun (j0_30 : Bool) (μ31 : gx_M) => if j0_30 = true then gx_lt (gx_uI μ31 217 0 x1) (fun (μ33 : gx_M) => gx_bd (f_X12_keepRow 4 40 μ33) (fun (r34 : Unit) (μ35 : gx_M) => some (j0_30, μ35))) else some (j0_30, μ31)) (fun J9 => if x1 < 5 then gx_bd (f_X12_takeOne 1 3 μ8) (fun (r11 : Bool) (μ12 : gx_M) => gx_lt (fun (μ27 : gx_M) => J9 false μ27) (fun J13 => if r11 = true then gx_lt (fun (μ26 : gx_M) => J9 true μ26) (fun J15 => if x1 = 4 then gx_bd (f_X12_take 2 0 5 μ12) (fun (r20 : Bool) (μ21 : gx_M) => if r20 = true then gx_bd (f_X12_takeMinute 3 0 μ21) (fun (r23 : Bool) (μ24 : gx_M) => if r23 = true then J15 μ24 else J13 μ24) else J13 μ21) else gx_bd (f_X12_takeMinute 2 0 μ12) (fun (r17 : Bool) (μ18 : gx_M) => if r17 = true then J15 μ18 else J13 μ18)) else J13 μ12)) else gx_bd (f_X12_takeMinute 1 0 μ8) (fun (r28 : Bool) (μ29 : gx_M) => J9 r28 μ29)))))))
theorem ev_X12_yearLine {E : gx_E} {l : Launch} (p1 : Int64) (p3 : Int32) (μ : gx_M) {r : Bool} {μ' : gx_M} (hr : f_X12_yearLine p1 p3 μ = some (r, μ')) : gEv E l 4 Y_X12_yearLine [.ref (E.2.2.1 + 206), .long p1, .int p3] gx_G1 μ (gx_eB r) gx_G1 μ' := by
  refine W_ev (by decide) (Nat.le_of_ble_eq_true rfl) (em := gx_eB) (T := f_X12_yearLine p1 p3 μ) ?_ hr
  show GoW E l Y_X12_yearLine 4 gx_eB 0 (gx_el [.ref (E.2.2.1 + 206), .long p1, .int p3]) [] μ (f_X12_yearLine p1 p3 μ)
  unfold f_X12_yearLine
  refine W_s (s_lload_n dX12_yearLine_0 rfl rfl) ?_
  refine W_s (s_callS (As := [.long _]) dX12_yearLine_1 Lk_RX12_223 rfl (Nat.le_of_ble_eq_true rfl) (Nat.le_of_ble_eq_true rfl) (ev_X12_deedBy p1 μ)) ?_
  refine W_letI (fun x1 => ?_)
  refine W_s (s_istore dX12_yearLine_4 (Nat.le_of_ble_eq_true rfl)) ?_
  refine W_s (s_iload dX12_yearLine_6 rfl) ?_
  refine W_s (s_iconst dX12_yearLine_8 kci_m1) ?_
  refine W_ite (fun h2 => ?_) (fun h2 => ?_)
  · refine W_s (s_icmp_ne_f dX12_yearLine_9 rfl h2) ?_
    refine W_s (s_aload_n dX12_yearLine_12 rfl rfl) ?_
    refine W_bd (ec := gx_eB) (fun r_ μ_ hr_ => s_callV (As := []) dX12_yearLine_13 Lk_RX12_152 rfl g_206 (by decide) rfl (Nat.le_of_ble_eq_true rfl) (Nat.le_of_ble_eq_true rfl) (ev_X12_fails μ hr_)) (fun r36 μ37 => ?_)
    exact W_r (r := r36) (f_int (ty := .boolean) (x := gx_bi r36) dX12_yearLine_16 rfl (gx_bn r36))
  · refine W_s (s_icmp_ne_t dX12_yearLine_9 rfl h2) ?_
    refine W_s (s_aload_n dX12_yearLine_17 rfl rfl) ?_
    refine W_s (s_iconst dX12_yearLine_18 kci_0) ?_
    refine W_s (s_bipush dX12_yearLine_19 kcb_40) ?_
    refine W_s (s_iload_n dX12_yearLine_21 rfl rfl) ?_
    refine W_bd (ec := gx_eV) (fun r_ μ_ hr_ => s_callV (As := [.int _, .int _, .int _]) dX12_yearLine_22 Lk_RX12_195 rfl g_206 (by decide) rfl (Nat.le_of_ble_eq_true rfl) (Nat.le_of_ble_eq_true rfl) (ev_X12_full 0 40 p3 μ hr_)) (fun r3 μ4 => ?_)
    refine W_s (s_aload_n dX12_yearLine_25 rfl rfl) ?_
    refine W_bd (ec := gx_eV) (fun r_ μ_ hr_ => s_callV (As := []) dX12_yearLine_26 Lk_RX12_164 rfl g_206 (by decide) rfl (Nat.le_of_ble_eq_true rfl) (Nat.le_of_ble_eq_true rfl) (ev_X12_token μ4 hr_)) (fun r5 μ6 => ?_)
    refine W_s (s_aload_n dX12_yearLine_29 rfl rfl) ?_
    refine W_s (gf_RX12_41 rfl dX12_yearLine_30) ?_
    refine W_s (s_iconst dX12_yearLine_33 kci_2) ?_
    refine W_s (s_iconst dX12_yearLine_34 kci_m1) ?_
    refine W_s (s_iastL (k := 2) dX12_yearLine_35 g_217 (gx_inl (by decide)) (by decide)) ?_
    refine W_letM (fun μ7 => ?_)
    refine W_s (s_aload_n dX12_yearLine_36 rfl rfl) ?_
    refine W_s (gf_RX12_41 rfl dX12_yearLine_37) ?_
    refine W_s (s_iconst dX12_yearLine_40 kci_3) ?_
    refine W_s (s_iconst dX12_yearLine_41 kci_m1) ?_
    refine W_s (s_iastL (k := 3) dX12_yearLine_42 g_217 (gx_inl (by decide)) (by decide)) ?_
    refine W_letM (fun μ8 => ?_)
    refine W_s (s_iload dX12_yearLine_43 rfl) ?_
    refine W_s (s_iconst dX12_yearLine_45 kci_5) ?_
    refine W_fun (fun J => ∀ (j0_30 : Bool) (μ31 : gx_M), GoW E l Y_X12_yearLine 4 gx_eB 109 [some (.ref (E.2.2.1 + 206)), none, none, none, some (.int x1)] [.int (gx_bi j0_30)] μ31 (J j0_30 μ31)) ?_ (fun J9 hJ9 => ?_)
    · intro j0_30 μ31
      refine W_s (s_istore dX12_yearLine_109 (Nat.le_of_ble_eq_true rfl)) ?_
      refine W_s (s_iload dX12_yearLine_111 rfl) ?_
      refine W_ite (fun h32 => ?_) (fun h32 => ?_)
      · refine W_s (s_if_eq_f dX12_yearLine_113 rfl (gx_bt h32)) ?_
        refine W_s (s_aload_n dX12_yearLine_116 rfl rfl) ?_
        refine W_s (gf_RX12_41 rfl dX12_yearLine_117) ?_
        refine W_s (s_iconst dX12_yearLine_120 kci_0) ?_
        refine W_s (s_iload dX12_yearLine_121 rfl) ?_
        refine W_s (s_iastL (k := 0) dX12_yearLine_123 g_217 (gx_inl (by decide)) (by decide)) ?_
        refine W_letM (fun μ33 => ?_)
        refine W_s (s_aload_n dX12_yearLine_124 rfl rfl) ?_
        refine W_s (s_iconst dX12_yearLine_125 kci_4) ?_
        refine W_s (s_bipush dX12_yearLine_126 kcb_40) ?_
        refine W_bd (ec := gx_eV) (fun r_ μ_ hr_ => s_callV (As := [.int _, .int _]) dX12_yearLine_128 Lk_RX12_227 rfl g_206 (by decide) rfl (Nat.le_of_ble_eq_true rfl) (Nat.le_of_ble_eq_true rfl) (ev_X12_keepRow 4 40 μ33 hr_)) (fun r34 μ35 => ?_)
        refine W_s (s_iload dX12_yearLine_131 rfl) ?_
        exact W_r (r := j0_30) (f_int (ty := .boolean) (x := gx_bi j0_30) dX12_yearLine_133 rfl (gx_bn j0_30))
      · refine W_s (s_if_eq_t dX12_yearLine_113 rfl (gx_bf h32)) ?_
        refine W_s (s_iload dX12_yearLine_131 rfl) ?_
        exact W_r (r := j0_30) (f_int (ty := .boolean) (x := gx_bi j0_30) dX12_yearLine_133 rfl (gx_bn j0_30))
    · skip
      refine W_ite (fun h10 => ?_) (fun h10 => ?_)
      · refine W_s (s_icmp_lt_t dX12_yearLine_46 rfl h10) ?_
        refine W_s (s_aload_n dX12_yearLine_58 rfl rfl) ?_
        refine W_s (s_iconst dX12_yearLine_59 kci_1) ?_
        refine W_s (s_iconst dX12_yearLine_60 kci_3) ?_
        refine W_bd (ec := gx_eB) (fun r_ μ_ hr_ => s_callV (As := [.int _, .int _]) dX12_yearLine_61 Lk_RX12_202 rfl g_206 (by decide) rfl (Nat.le_of_ble_eq_true rfl) (Nat.le_of_ble_eq_true rfl) (ev_X12_takeOne 1 3 μ8 hr_)) (fun r11 μ12 => ?_)
        refine W_fun (fun J => ∀ (μ27 : gx_M), GoW E l Y_X12_yearLine 4 gx_eB 108 [some (.ref (E.2.2.1 + 206)), none, none, none, some (.int x1)] [] μ27 (J μ27)) ?_ (fun J13 hJ13 => ?_)
        · intro μ27
          refine W_s (s_iconst dX12_yearLine_108 kci_0) ?_
          exact W_wk (hJ9 false μ27) (le_s rfl (le_o (le_o (le_o (le_s rfl le_n)))))
        · skip
          refine W_ite (fun h14 => ?_) (fun h14 => ?_)
          · refine W_s (s_if_eq_f dX12_yearLine_64 rfl (gx_bt h14)) ?_
            refine W_s (s_iload dX12_yearLine_67 rfl) ?_
            refine W_s (s_iconst dX12_yearLine_69 kci_4) ?_
            refine W_fun (fun J => ∀ (μ26 : gx_M), GoW E l Y_X12_yearLine 4 gx_eB 104 [some (.ref (E.2.2.1 + 206)), none, none, none, some (.int x1)] [] μ26 (J μ26)) ?_ (fun J15 hJ15 => ?_)
            · intro μ26
              refine W_s (s_iconst dX12_yearLine_104 kci_1) ?_
              refine W_s (s_goto dX12_yearLine_105 rfl) ?_
              exact W_wk (hJ9 true μ26) (le_s rfl (le_o (le_o (le_o (le_s rfl le_n)))))
            · skip
              refine W_ite (fun h16 => ?_) (fun h16 => ?_)
              · refine W_s (s_icmp_ne_f dX12_yearLine_70 rfl h16) ?_
                refine W_s (s_aload_n dX12_yearLine_73 rfl rfl) ?_
                refine W_s (s_iconst dX12_yearLine_74 kci_2) ?_
                refine W_s (s_iconst dX12_yearLine_75 kci_0) ?_
                refine W_s (s_iconst dX12_yearLine_76 kci_5) ?_
                refine W_bd (ec := gx_eB) (fun r_ μ_ hr_ => s_callV (As := [.int _, .int _, .int _]) dX12_yearLine_77 Lk_RX12_167 rfl g_206 (by decide) rfl (Nat.le_of_ble_eq_true rfl) (Nat.le_of_ble_eq_true rfl) (ev_X12_take 2 0 5 μ12 hr_)) (fun r20 μ21 => ?_)
                refine W_ite (fun h22 => ?_) (fun h22 => ?_)
                · refine W_s (s_if_eq_f dX12_yearLine_80 rfl (gx_bt h22)) ?_
                  refine W_s (s_aload_n dX12_yearLine_83 rfl rfl) ?_
                  refine W_s (s_iconst dX12_yearLine_84 kci_3) ?_
                  refine W_s (s_iconst dX12_yearLine_85 kci_0) ?_
                  refine W_bd (ec := gx_eB) (fun r_ μ_ hr_ => s_callV (As := [.int _, .int _]) dX12_yearLine_86 Lk_RX12_180 rfl g_206 (by decide) rfl (Nat.le_of_ble_eq_true rfl) (Nat.le_of_ble_eq_true rfl) (ev_X12_takeMinute 3 0 μ21 hr_)) (fun r23 μ24 => ?_)
                  refine W_ite (fun h25 => ?_) (fun h25 => ?_)
                  · refine W_s (s_if_eq_f dX12_yearLine_89 rfl (gx_bt h25)) ?_
                    refine W_s (s_goto dX12_yearLine_92 rfl) ?_
                    exact W_wk (hJ15 μ24) (le_s rfl (le_o (le_o (le_o (le_s rfl le_n)))))
                  · refine W_s (s_if_eq_t dX12_yearLine_89 rfl (gx_bf h25)) ?_
                    exact W_wk (hJ13 μ24) (le_s rfl (le_o (le_o (le_o (le_s rfl le_n)))))
                · refine W_s (s_if_eq_t dX12_yearLine_80 rfl (gx_bf h22)) ?_
                  exact W_wk (hJ13 μ21) (le_s rfl (le_o (le_o (le_o (le_s rfl le_n)))))
              · refine W_s (s_icmp_ne_t dX12_yearLine_70 rfl h16) ?_
                refine W_s (s_aload_n dX12_yearLine_95 rfl rfl) ?_
                refine W_s (s_iconst dX12_yearLine_96 kci_2) ?_
                refine W_s (s_iconst dX12_yearLine_97 kci_0) ?_
                refine W_bd (ec := gx_eB) (fun r_ μ_ hr_ => s_callV (As := [.int _, .int _]) dX12_yearLine_98 Lk_RX12_180 rfl g_206 (by decide) rfl (Nat.le_of_ble_eq_true rfl) (Nat.le_of_ble_eq_true rfl) (ev_X12_takeMinute 2 0 μ12 hr_)) (fun r17 μ18 => ?_)
                refine W_ite (fun h19 => ?_) (fun h19 => ?_)
                · refine W_s (s_if_eq_f dX12_yearLine_101 rfl (gx_bt h19)) ?_
                  exact W_wk (hJ15 μ18) (le_s rfl (le_o (le_o (le_o (le_s rfl le_n)))))
                · refine W_s (s_if_eq_t dX12_yearLine_101 rfl (gx_bf h19)) ?_
                  exact W_wk (hJ13 μ18) (le_s rfl (le_o (le_o (le_o (le_s rfl le_n)))))
          · refine W_s (s_if_eq_t dX12_yearLine_64 rfl (gx_bf h14)) ?_
            exact W_wk (hJ13 μ12) (le_s rfl (le_o (le_o (le_o (le_s rfl le_n)))))
      · refine W_s (s_icmp_lt_f dX12_yearLine_46 rfl h10) ?_
        refine W_s (s_aload_n dX12_yearLine_49 rfl rfl) ?_
        refine W_s (s_iconst dX12_yearLine_50 kci_1) ?_
        refine W_s (s_iconst dX12_yearLine_51 kci_0) ?_
        refine W_bd (ec := gx_eB) (fun r_ μ_ hr_ => s_callV (As := [.int _, .int _]) dX12_yearLine_52 Lk_RX12_180 rfl g_206 (by decide) rfl (Nat.le_of_ble_eq_true rfl) (Nat.le_of_ble_eq_true rfl) (ev_X12_takeMinute 1 0 μ8 hr_)) (fun r28 μ29 => ?_)
        refine W_s (s_goto dX12_yearLine_55 rfl) ?_
        exact W_wk (hJ9 r28 μ29) (le_s rfl (le_o (le_o (le_o (le_s rfl le_n)))))

def f_X12_logLine (p1 : Int64) (p3 : Int32) (μ : gx_M) : Option (Bool × gx_M) := gx_lt (fun (μ6 : gx_M) => gx_bd (f_X12_full 0 8 p3 μ6) (fun (r7 : Unit) (μ8 : gx_M) => gx_bd (f_X12_token μ8) (fun (r9 : Unit) (μ10 : gx_M) => gx_bd (f_X12_takeMinute 1 0 μ10) (fun (r11 : Bool) (μ12 : gx_M) => if r11 = true then gx_lt (fun (j0_16 : Bool) (μ17 : gx_M) => gx_lt (gx_uI μ17 217 0 (gx_bi j0_16)) (fun (μ18 : gx_M) => gx_bd (f_X12_keepRow 2 8 μ18) (fun (r19 : Unit) (μ20 : gx_M) => some (true, μ20)))) (fun J14 => if p1 = 1735356005 then J14 true μ12 else J14 false μ12) else some (false, μ12))))) (fun J1 => if p1 = 1735356005 then J1 μ else if p1 = 499967685221 then J1 μ else gx_bd (f_X12_fails μ) (fun (r4 : Bool) (μ5 : gx_M) => some (r4, μ5)))
theorem ev_X12_logLine {E : gx_E} {l : Launch} (p1 : Int64) (p3 : Int32) (μ : gx_M) {r : Bool} {μ' : gx_M} (hr : f_X12_logLine p1 p3 μ = some (r, μ')) : gEv E l 4 Y_X12_logLine [.ref (E.2.2.1 + 206), .long p1, .int p3] gx_G1 μ (gx_eB r) gx_G1 μ' := by
  refine W_ev (by decide) (Nat.le_of_ble_eq_true rfl) (em := gx_eB) (T := f_X12_logLine p1 p3 μ) ?_ hr
  show GoW E l Y_X12_logLine 4 gx_eB 0 (gx_el [.ref (E.2.2.1 + 206), .long p1, .int p3]) [] μ (f_X12_logLine p1 p3 μ)
  unfold f_X12_logLine
  refine W_s (s_lload_n dX12_logLine_0 rfl rfl) ?_
  refine W_s (s_ldc2 dX12_logLine_1 kw_RX12_230) ?_
  refine W_s (s_lcmp dX12_logLine_4) ?_
  refine W_fun (fun J => ∀ (μ6 : gx_M), GoW E l Y_X12_logLine 4 gx_eB 21 [some (.ref (E.2.2.1 + 206)), some (.long p1), none, some (.int p3)] [] μ6 (J μ6)) ?_ (fun J1 hJ1 => ?_)
  · intro μ6
    refine W_s (s_aload_n dX12_logLine_21 rfl rfl) ?_
    refine W_s (s_iconst dX12_logLine_22 kci_0) ?_
    refine W_s (s_bipush dX12_logLine_23 kcb_8) ?_
    refine W_s (s_iload_n dX12_logLine_25 rfl rfl) ?_
    refine W_bd (ec := gx_eV) (fun r_ μ_ hr_ => s_callV (As := [.int _, .int _, .int _]) dX12_logLine_26 Lk_RX12_195 rfl g_206 (by decide) rfl (Nat.le_of_ble_eq_true rfl) (Nat.le_of_ble_eq_true rfl) (ev_X12_full 0 8 p3 μ6 hr_)) (fun r7 μ8 => ?_)
    refine W_s (s_aload_n dX12_logLine_29 rfl rfl) ?_
    refine W_bd (ec := gx_eV) (fun r_ μ_ hr_ => s_callV (As := []) dX12_logLine_30 Lk_RX12_164 rfl g_206 (by decide) rfl (Nat.le_of_ble_eq_true rfl) (Nat.le_of_ble_eq_true rfl) (ev_X12_token μ8 hr_)) (fun r9 μ10 => ?_)
    refine W_s (s_aload_n dX12_logLine_33 rfl rfl) ?_
    refine W_s (s_iconst dX12_logLine_34 kci_1) ?_
    refine W_s (s_iconst dX12_logLine_35 kci_0) ?_
    refine W_bd (ec := gx_eB) (fun r_ μ_ hr_ => s_callV (As := [.int _, .int _]) dX12_logLine_36 Lk_RX12_180 rfl g_206 (by decide) rfl (Nat.le_of_ble_eq_true rfl) (Nat.le_of_ble_eq_true rfl) (ev_X12_takeMinute 1 0 μ10 hr_)) (fun r11 μ12 => ?_)
    refine W_ite (fun h13 => ?_) (fun h13 => ?_)
    · refine W_s (s_if_ne_t dX12_logLine_39 rfl (gx_bt h13)) ?_
      refine W_s (s_aload_n dX12_logLine_44 rfl rfl) ?_
      refine W_s (gf_RX12_41 rfl dX12_logLine_45) ?_
      refine W_s (s_iconst dX12_logLine_48 kci_0) ?_
      refine W_s (s_lload_n dX12_logLine_49 rfl rfl) ?_
      refine W_s (s_ldc2 dX12_logLine_50 kw_RX12_230) ?_
      refine W_s (s_lcmp dX12_logLine_53) ?_
      refine W_fun (fun J => ∀ (j0_16 : Bool) (μ17 : gx_M), GoW E l Y_X12_logLine 4 gx_eB 62 [some (.ref (E.2.2.1 + 206))] [.int (gx_bi j0_16), .int 0, .ref (E.2.2.1 + 217)] μ17 (J j0_16 μ17)) ?_ (fun J14 hJ14 => ?_)
      · intro j0_16 μ17
        refine W_s (s_iastL (k := 0) dX12_logLine_62 g_217 (gx_inl (by decide)) (by decide)) ?_
        refine W_letM (fun μ18 => ?_)
        refine W_s (s_aload_n dX12_logLine_63 rfl rfl) ?_
        refine W_s (s_iconst dX12_logLine_64 kci_2) ?_
        refine W_s (s_bipush dX12_logLine_65 kcb_8) ?_
        refine W_bd (ec := gx_eV) (fun r_ μ_ hr_ => s_callV (As := [.int _, .int _]) dX12_logLine_67 Lk_RX12_227 rfl g_206 (by decide) rfl (Nat.le_of_ble_eq_true rfl) (Nat.le_of_ble_eq_true rfl) (ev_X12_keepRow 2 8 μ18 hr_)) (fun r19 μ20 => ?_)
        refine W_s (s_iconst dX12_logLine_70 kci_1) ?_
        exact W_r (r := true) (f_int (ty := .boolean) (x := gx_bi true) dX12_logLine_71 rfl (gx_bn true))
      · skip
        refine W_ite (fun h15 => ?_) (fun h15 => ?_)
        · refine W_s (s_if_ne_f dX12_logLine_54 rfl ((lgc_eq p1 1735356005).mpr h15)) ?_
          refine W_s (s_iconst dX12_logLine_57 kci_1) ?_
          refine W_s (s_goto dX12_logLine_58 rfl) ?_
          exact W_wk (hJ14 true μ12) (le_s rfl le_n)
        · refine W_s (s_if_ne_t dX12_logLine_54 rfl (fun hc => h15 ((lgc_eq p1 1735356005).mp hc))) ?_
          refine W_s (s_iconst dX12_logLine_61 kci_0) ?_
          exact W_wk (hJ14 false μ12) (le_s rfl le_n)
    · refine W_s (s_if_ne_f dX12_logLine_39 rfl (gx_bf h13)) ?_
      refine W_s (s_iconst dX12_logLine_42 kci_0) ?_
      exact W_r (r := false) (f_int (ty := .boolean) (x := gx_bi false) dX12_logLine_43 rfl (gx_bn false))
  · skip
    refine W_ite (fun h2 => ?_) (fun h2 => ?_)
    · refine W_s (s_if_eq_t dX12_logLine_5 rfl ((lgc_eq p1 1735356005).mpr h2)) ?_
      exact W_wk (hJ1 μ) (le_s rfl (le_s rfl (le_o (le_s rfl le_n))))
    · refine W_s (s_if_eq_f dX12_logLine_5 rfl (fun hc => h2 ((lgc_eq p1 1735356005).mp hc))) ?_
      refine W_s (s_lload_n dX12_logLine_8 rfl rfl) ?_
      refine W_s (s_ldc2 dX12_logLine_9 kw_RX12_232) ?_
      refine W_s (s_lcmp dX12_logLine_12) ?_
      refine W_ite (fun h3 => ?_) (fun h3 => ?_)
      · refine W_s (s_if_eq_t dX12_logLine_13 rfl ((lgc_eq p1 499967685221).mpr h3)) ?_
        exact W_wk (hJ1 μ) (le_s rfl (le_s rfl (le_o (le_s rfl le_n))))
      · refine W_s (s_if_eq_f dX12_logLine_13 rfl (fun hc => h3 ((lgc_eq p1 499967685221).mp hc))) ?_
        refine W_s (s_aload_n dX12_logLine_16 rfl rfl) ?_
        refine W_bd (ec := gx_eB) (fun r_ μ_ hr_ => s_callV (As := []) dX12_logLine_17 Lk_RX12_152 rfl g_206 (by decide) rfl (Nat.le_of_ble_eq_true rfl) (Nat.le_of_ble_eq_true rfl) (ev_X12_fails μ hr_)) (fun r4 μ5 => ?_)
        exact W_r (r := r4) (f_int (ty := .boolean) (x := gx_bi r4) dX12_logLine_20 rfl (gx_bn r4))

def f_X12_swapLine (p1 : Int64) (μ : gx_M) : Option (Bool × gx_M) := gx_lt (fun (μ6 : gx_M) => gx_bd (f_X12_token μ6) (fun (r7 : Unit) (μ8 : gx_M) => if p1 = 448311223411 then gx_bd (f_X12_take 0 2 6 μ8) (fun (r22 : Bool) (μ23 : gx_M) => if r22 = true then gx_lt (gx_uI μ23 216 0 (μ23.1 217 0)) (fun (μ25 : gx_M) => some (true, μ25)) else some (false, μ23)) else gx_bd (f_X12_takeOne 0 5 μ8) (fun (r10 : Bool) (μ11 : gx_M) => if r10 = true then gx_bd (f_X12_takeOne 1 5 μ11) (fun (r13 : Bool) (μ14 : gx_M) => if r13 = true then gx_bd (f_X12_take 2 0 9 μ14) (fun (r16 : Bool) (μ17 : gx_M) => if r16 = true then if (μ17.1 206 23) = 0 then some (true, μ17) else gx_ck (gx_ix (((1 : Int32) + ((6 : Int32) * (μ17.1 217 0))) + (μ17.1 217 1)) 161 = true) (gx_lt (gx_uI μ17 216 (((1 : Int32) + ((6 : Int32) * (μ17.1 217 0))) + (μ17.1 217 1)).toNatClampNeg (μ17.1 217 2)) (fun (μ21 : gx_M) => some (true, μ21))) else some (false, μ17)) else some (false, μ14)) else some (false, μ11)))) (fun J1 => if p1 = 448311223411 then J1 μ else if p1 = 512970880104 then J1 μ else gx_bd (f_X12_fails μ) (fun (r4 : Bool) (μ5 : gx_M) => some (r4, μ5)))
theorem ev_X12_swapLine {E : gx_E} {l : Launch} (p1 : Int64) (μ : gx_M) {r : Bool} {μ' : gx_M} (hr : f_X12_swapLine p1 μ = some (r, μ')) : gEv E l 4 Y_X12_swapLine [.ref (E.2.2.1 + 206), .long p1] gx_G1 μ (gx_eB r) gx_G1 μ' := by
  refine W_ev (by decide) (Nat.le_of_ble_eq_true rfl) (em := gx_eB) (T := f_X12_swapLine p1 μ) ?_ hr
  show GoW E l Y_X12_swapLine 4 gx_eB 0 (gx_el [.ref (E.2.2.1 + 206), .long p1]) [] μ (f_X12_swapLine p1 μ)
  unfold f_X12_swapLine
  refine W_s (s_lload_n dX12_swapLine_0 rfl rfl) ?_
  refine W_s (s_ldc2 dX12_swapLine_1 kw_RX12_234) ?_
  refine W_s (s_lcmp dX12_swapLine_4) ?_
  refine W_fun (fun J => ∀ (μ6 : gx_M), GoW E l Y_X12_swapLine 4 gx_eB 21 [some (.ref (E.2.2.1 + 206)), some (.long p1)] [] μ6 (J μ6)) ?_ (fun J1 hJ1 => ?_)
  · intro μ6
    refine W_s (s_aload_n dX12_swapLine_21 rfl rfl) ?_
    refine W_bd (ec := gx_eV) (fun r_ μ_ hr_ => s_callV (As := []) dX12_swapLine_22 Lk_RX12_164 rfl g_206 (by decide) rfl (Nat.le_of_ble_eq_true rfl) (Nat.le_of_ble_eq_true rfl) (ev_X12_token μ6 hr_)) (fun r7 μ8 => ?_)
    refine W_s (s_lload_n dX12_swapLine_25 rfl rfl) ?_
    refine W_s (s_ldc2 dX12_swapLine_26 kw_RX12_234) ?_
    refine W_s (s_lcmp dX12_swapLine_29) ?_
    refine W_ite (fun h9 => ?_) (fun h9 => ?_)
    · refine W_s (s_if_ne_f dX12_swapLine_30 rfl ((lgc_eq p1 448311223411).mpr h9)) ?_
      refine W_s (s_aload_n dX12_swapLine_33 rfl rfl) ?_
      refine W_s (s_iconst dX12_swapLine_34 kci_0) ?_
      refine W_s (s_iconst dX12_swapLine_35 kci_2) ?_
      refine W_s (s_bipush dX12_swapLine_36 kcb_6) ?_
      refine W_bd (ec := gx_eB) (fun r_ μ_ hr_ => s_callV (As := [.int _, .int _, .int _]) dX12_swapLine_38 Lk_RX12_167 rfl g_206 (by decide) rfl (Nat.le_of_ble_eq_true rfl) (Nat.le_of_ble_eq_true rfl) (ev_X12_take 0 2 6 μ8 hr_)) (fun r22 μ23 => ?_)
      refine W_ite (fun h24 => ?_) (fun h24 => ?_)
      · refine W_s (s_if_ne_t dX12_swapLine_41 rfl (gx_bt h24)) ?_
        refine W_s (s_aload_n dX12_swapLine_46 rfl rfl) ?_
        refine W_s (gf_RX12_38 rfl dX12_swapLine_47) ?_
        refine W_s (s_iconst dX12_swapLine_50 kci_0) ?_
        refine W_s (s_aload_n dX12_swapLine_51 rfl rfl) ?_
        refine W_s (gf_RX12_41 rfl dX12_swapLine_52) ?_
        refine W_s (s_iconst dX12_swapLine_55 kci_0) ?_
        refine W_s (s_ialdL (k := 0) dX12_swapLine_56 g_217 (gx_inl (by decide)) (by decide)) ?_
        refine W_s (s_iastL (k := 0) dX12_swapLine_57 g_216 (gx_inl (by decide)) (by decide)) ?_
        refine W_letM (fun μ25 => ?_)
        refine W_s (s_iconst dX12_swapLine_58 kci_1) ?_
        exact W_r (r := true) (f_int (ty := .boolean) (x := gx_bi true) dX12_swapLine_59 rfl (gx_bn true))
      · refine W_s (s_if_ne_f dX12_swapLine_41 rfl (gx_bf h24)) ?_
        refine W_s (s_iconst dX12_swapLine_44 kci_0) ?_
        exact W_r (r := false) (f_int (ty := .boolean) (x := gx_bi false) dX12_swapLine_45 rfl (gx_bn false))
    · refine W_s (s_if_ne_t dX12_swapLine_30 rfl (fun hc => h9 ((lgc_eq p1 448311223411).mp hc))) ?_
      refine W_s (s_aload_n dX12_swapLine_60 rfl rfl) ?_
      refine W_s (s_iconst dX12_swapLine_61 kci_0) ?_
      refine W_s (s_iconst dX12_swapLine_62 kci_5) ?_
      refine W_bd (ec := gx_eB) (fun r_ μ_ hr_ => s_callV (As := [.int _, .int _]) dX12_swapLine_63 Lk_RX12_202 rfl g_206 (by decide) rfl (Nat.le_of_ble_eq_true rfl) (Nat.le_of_ble_eq_true rfl) (ev_X12_takeOne 0 5 μ8 hr_)) (fun r10 μ11 => ?_)
      refine W_ite (fun h12 => ?_) (fun h12 => ?_)
      · refine W_s (s_if_eq_f dX12_swapLine_66 rfl (gx_bt h12)) ?_
        refine W_s (s_aload_n dX12_swapLine_69 rfl rfl) ?_
        refine W_s (s_iconst dX12_swapLine_70 kci_1) ?_
        refine W_s (s_iconst dX12_swapLine_71 kci_5) ?_
        refine W_bd (ec := gx_eB) (fun r_ μ_ hr_ => s_callV (As := [.int _, .int _]) dX12_swapLine_72 Lk_RX12_202 rfl g_206 (by decide) rfl (Nat.le_of_ble_eq_true rfl) (Nat.le_of_ble_eq_true rfl) (ev_X12_takeOne 1 5 μ11 hr_)) (fun r13 μ14 => ?_)
        refine W_ite (fun h15 => ?_) (fun h15 => ?_)
        · refine W_s (s_if_eq_f dX12_swapLine_75 rfl (gx_bt h15)) ?_
          refine W_s (s_aload_n dX12_swapLine_78 rfl rfl) ?_
          refine W_s (s_iconst dX12_swapLine_79 kci_2) ?_
          refine W_s (s_iconst dX12_swapLine_80 kci_0) ?_
          refine W_s (s_bipush dX12_swapLine_81 kcb_9) ?_
          refine W_bd (ec := gx_eB) (fun r_ μ_ hr_ => s_callV (As := [.int _, .int _, .int _]) dX12_swapLine_83 Lk_RX12_167 rfl g_206 (by decide) rfl (Nat.le_of_ble_eq_true rfl) (Nat.le_of_ble_eq_true rfl) (ev_X12_take 2 0 9 μ14 hr_)) (fun r16 μ17 => ?_)
          refine W_ite (fun h18 => ?_) (fun h18 => ?_)
          · refine W_s (s_if_ne_t dX12_swapLine_86 rfl (gx_bt h18)) ?_
            refine W_s (s_aload_n dX12_swapLine_91 rfl rfl) ?_
            refine W_s (gf_RX12_160 rfl dX12_swapLine_92) ?_
            refine W_ite (fun h19 => ?_) (fun h19 => ?_)
            · refine W_s (s_if_eq_t dX12_swapLine_95 rfl h19) ?_
              refine W_s (s_iconst dX12_swapLine_127 kci_1) ?_
              exact W_r (r := true) (f_int (ty := .boolean) (x := gx_bi true) dX12_swapLine_128 rfl (gx_bn true))
            · refine W_s (s_if_eq_f dX12_swapLine_95 rfl h19) ?_
              refine W_s (s_aload_n dX12_swapLine_98 rfl rfl) ?_
              refine W_s (gf_RX12_38 rfl dX12_swapLine_99) ?_
              refine W_s (s_iconst dX12_swapLine_102 kci_1) ?_
              refine W_s (s_bipush dX12_swapLine_103 kcb_6) ?_
              refine W_s (s_aload_n dX12_swapLine_105 rfl rfl) ?_
              refine W_s (gf_RX12_41 rfl dX12_swapLine_106) ?_
              refine W_s (s_iconst dX12_swapLine_109 kci_0) ?_
              refine W_s (s_ialdL (k := 0) dX12_swapLine_110 g_217 (gx_inl (by decide)) (by decide)) ?_
              refine W_s (s_imul dX12_swapLine_111) ?_
              refine W_s (s_iadd dX12_swapLine_112) ?_
              refine W_s (s_aload_n dX12_swapLine_113 rfl rfl) ?_
              refine W_s (gf_RX12_41 rfl dX12_swapLine_114) ?_
              refine W_s (s_iconst dX12_swapLine_117 kci_1) ?_
              refine W_s (s_ialdL (k := 1) dX12_swapLine_118 g_217 (gx_inl (by decide)) (by decide)) ?_
              refine W_s (s_iadd dX12_swapLine_119) ?_
              refine W_s (s_aload_n dX12_swapLine_120 rfl rfl) ?_
              refine W_s (gf_RX12_41 rfl dX12_swapLine_121) ?_
              refine W_s (s_iconst dX12_swapLine_124 kci_2) ?_
              refine W_s (s_ialdL (k := 2) dX12_swapLine_125 g_217 (gx_inl (by decide)) (by decide)) ?_
              refine W_ck (fun h20 => ?_)
              refine W_s (s_iast dX12_swapLine_126 g_216 (gx_ixv h20)) ?_
              refine W_letM (fun μ21 => ?_)
              refine W_s (s_iconst dX12_swapLine_127 kci_1) ?_
              exact W_r (r := true) (f_int (ty := .boolean) (x := gx_bi true) dX12_swapLine_128 rfl (gx_bn true))
          · refine W_s (s_if_ne_f dX12_swapLine_86 rfl (gx_bf h18)) ?_
            refine W_s (s_iconst dX12_swapLine_89 kci_0) ?_
            exact W_r (r := false) (f_int (ty := .boolean) (x := gx_bi false) dX12_swapLine_90 rfl (gx_bn false))
        · refine W_s (s_if_eq_t dX12_swapLine_75 rfl (gx_bf h15)) ?_
          refine W_s (s_iconst dX12_swapLine_89 kci_0) ?_
          exact W_r (r := false) (f_int (ty := .boolean) (x := gx_bi false) dX12_swapLine_90 rfl (gx_bn false))
      · refine W_s (s_if_eq_t dX12_swapLine_66 rfl (gx_bf h12)) ?_
        refine W_s (s_iconst dX12_swapLine_89 kci_0) ?_
        exact W_r (r := false) (f_int (ty := .boolean) (x := gx_bi false) dX12_swapLine_90 rfl (gx_bn false))
  · skip
    refine W_ite (fun h2 => ?_) (fun h2 => ?_)
    · refine W_s (s_if_eq_t dX12_swapLine_5 rfl ((lgc_eq p1 448311223411).mpr h2)) ?_
      exact W_wk (hJ1 μ) (le_s rfl (le_s rfl le_n))
    · refine W_s (s_if_eq_f dX12_swapLine_5 rfl (fun hc => h2 ((lgc_eq p1 448311223411).mp hc))) ?_
      refine W_s (s_lload_n dX12_swapLine_8 rfl rfl) ?_
      refine W_s (s_ldc2 dX12_swapLine_9 kw_RX12_236) ?_
      refine W_s (s_lcmp dX12_swapLine_12) ?_
      refine W_ite (fun h3 => ?_) (fun h3 => ?_)
      · refine W_s (s_if_eq_t dX12_swapLine_13 rfl ((lgc_eq p1 512970880104).mpr h3)) ?_
        exact W_wk (hJ1 μ) (le_s rfl (le_s rfl le_n))
      · refine W_s (s_if_eq_f dX12_swapLine_13 rfl (fun hc => h3 ((lgc_eq p1 512970880104).mp hc))) ?_
        refine W_s (s_aload_n dX12_swapLine_16 rfl rfl) ?_
        refine W_bd (ec := gx_eB) (fun r_ μ_ hr_ => s_callV (As := []) dX12_swapLine_17 Lk_RX12_152 rfl g_206 (by decide) rfl (Nat.le_of_ble_eq_true rfl) (Nat.le_of_ble_eq_true rfl) (ev_X12_fails μ hr_)) (fun r4 μ5 => ?_)
        exact W_r (r := r4) (f_int (ty := .boolean) (x := gx_bi r4) dX12_swapLine_20 rfl (gx_bn r4))

def f_X12_does (p1 : Int32) (p2 : Int32) (p3 : Int32) (p4 : Int32) (μ : gx_M) : Option (Bool × gx_M) := if p1 = 4 then gx_bd (f_X12_doesTask p2 p3 p4 μ) (fun (r2 : Bool) (μ3 : gx_M) => some (r2, μ3)) else if p1 = 5 then gx_bd (f_X12_prices p2 1 μ) (fun (r5 : Bool) (μ6 : gx_M) => some (r5, μ6)) else if p1 = 6 then gx_bd (f_X12_prices p2 (-1) μ) (fun (r8 : Bool) (μ9 : gx_M) => some (r8, μ9)) else if (f_X12_isPerson p2 μ) = true then if (f_X12_isMinute p3 μ) = true then gx_ck (gx_ix p3 40 = true) (if (μ.1 221 p3.toNatClampNeg) = 0 then if p1 = 0 then gx_bd (f_X12_buys p2 p3 μ) (fun (r23 : Bool) (μ24 : gx_M) => some (r23, μ24)) else if p1 = 2 then gx_bd (f_X12_steals p2 p3 μ) (fun (r21 : Bool) (μ22 : gx_M) => some (r21, μ22)) else if p1 = 3 then gx_bd (f_X12_sells p2 p3 μ) (fun (r19 : Bool) (μ20 : gx_M) => some (r19, μ20)) else gx_bd (f_X12_thinks p2 p3 μ) (fun (r17 : Bool) (μ18 : gx_M) => some (r17, μ18)) else some (false, μ)) else some (false, μ) else some (false, μ)
theorem ev_X12_does {E : gx_E} {l : Launch} (p1 : Int32) (p2 : Int32) (p3 : Int32) (p4 : Int32) (μ : gx_M) {r : Bool} {μ' : gx_M} (hr : f_X12_does p1 p2 p3 p4 μ = some (r, μ')) : gEv E l 4 Y_X12_does [.ref (E.2.2.1 + 206), .int p1, .int p2, .int p3, .int p4] gx_G1 μ (gx_eB r) gx_G1 μ' := by
  refine W_ev (by decide) (Nat.le_of_ble_eq_true rfl) (em := gx_eB) (T := f_X12_does p1 p2 p3 p4 μ) ?_ hr
  show GoW E l Y_X12_does 4 gx_eB 0 (gx_el [.ref (E.2.2.1 + 206), .int p1, .int p2, .int p3, .int p4]) [] μ (f_X12_does p1 p2 p3 p4 μ)
  unfold f_X12_does
  refine W_s (s_iload_n dX12_does_0 rfl rfl) ?_
  refine W_ite (fun h1 => ?_) (fun h1 => ?_)
  · refine W_s (s_tsw_eq (c := 4) dX12_does_1 h1 (by decide) (by decide) rfl rfl) ?_
    refine W_s (s_aload_n dX12_does_28 rfl rfl) ?_
    refine W_s (s_iload_n dX12_does_29 rfl rfl) ?_
    refine W_s (s_iload_n dX12_does_30 rfl rfl) ?_
    refine W_s (s_iload dX12_does_31 rfl) ?_
    refine W_bd (ec := gx_eB) (fun r_ μ_ hr_ => s_callV (As := [.int _, .int _, .int _]) dX12_does_33 Lk_RX12_328 rfl g_206 (by decide) rfl (Nat.le_of_ble_eq_true rfl) (Nat.le_of_ble_eq_true rfl) (ev_X12_doesTask p2 p3 p4 μ hr_)) (fun r2 μ3 => ?_)
    exact W_r (r := r2) (f_int (ty := .boolean) (x := gx_bi r2) dX12_does_36 rfl (gx_bn r2))
  · skip
    refine W_ite (fun h4 => ?_) (fun h4 => ?_)
    · refine W_s (s_tsw_eq (c := 5) dX12_does_1 h4 (by decide) (by decide) rfl rfl) ?_
      refine W_s (s_aload_n dX12_does_37 rfl rfl) ?_
      refine W_s (s_iload_n dX12_does_38 rfl rfl) ?_
      refine W_s (s_iconst dX12_does_39 kci_1) ?_
      refine W_bd (ec := gx_eB) (fun r_ μ_ hr_ => s_callV (As := [.int _, .int _]) dX12_does_40 Lk_RX12_331 rfl g_206 (by decide) rfl (Nat.le_of_ble_eq_true rfl) (Nat.le_of_ble_eq_true rfl) (ev_X12_prices p2 1 μ hr_)) (fun r5 μ6 => ?_)
      exact W_r (r := r5) (f_int (ty := .boolean) (x := gx_bi r5) dX12_does_43 rfl (gx_bn r5))
    · skip
      refine W_ite (fun h7 => ?_) (fun h7 => ?_)
      · refine W_s (s_tsw_eq (c := 6) dX12_does_1 h7 (by decide) (by decide) rfl rfl) ?_
        refine W_s (s_aload_n dX12_does_44 rfl rfl) ?_
        refine W_s (s_iload_n dX12_does_45 rfl rfl) ?_
        refine W_s (s_iconst dX12_does_46 kci_m1) ?_
        refine W_bd (ec := gx_eB) (fun r_ μ_ hr_ => s_callV (As := [.int _, .int _]) dX12_does_47 Lk_RX12_331 rfl g_206 (by decide) rfl (Nat.le_of_ble_eq_true rfl) (Nat.le_of_ble_eq_true rfl) (ev_X12_prices p2 (-1) μ hr_)) (fun r8 μ9 => ?_)
        exact W_r (r := r8) (f_int (ty := .boolean) (x := gx_bi r8) dX12_does_50 rfl (gx_bn r8))
      · skip
        refine W_s (s_tsw_out dX12_does_1 (gx_out_4_3 h1 h4 h7) rfl) ?_
        refine W_s (s_aload_n dX12_does_51 rfl rfl) ?_
        refine W_s (s_iload_n dX12_does_52 rfl rfl) ?_
        refine W_s (s_callV (As := [.int _]) dX12_does_53 Lk_RX12_316 rfl g_206 (by decide) rfl (Nat.le_of_ble_eq_true rfl) (Nat.le_of_ble_eq_true rfl) (ev_X12_isPerson p2 μ)) ?_
        refine W_ite (fun h10 => ?_) (fun h10 => ?_)
        · refine W_s (s_if_eq_f dX12_does_56 rfl (gx_bt h10)) ?_
          refine W_s (s_aload_n dX12_does_59 rfl rfl) ?_
          refine W_s (s_iload_n dX12_does_60 rfl rfl) ?_
          refine W_s (s_callV (As := [.int _]) dX12_does_61 Lk_RX12_322 rfl g_206 (by decide) rfl (Nat.le_of_ble_eq_true rfl) (Nat.le_of_ble_eq_true rfl) (ev_X12_isMinute p3 μ)) ?_
          refine W_ite (fun h11 => ?_) (fun h11 => ?_)
          · refine W_s (s_if_eq_f dX12_does_64 rfl (gx_bt h11)) ?_
            refine W_s (s_aload_n dX12_does_67 rfl rfl) ?_
            refine W_s (gf_RX12_53 rfl dX12_does_68) ?_
            refine W_s (s_iload_n dX12_does_71 rfl rfl) ?_
            refine W_ck (fun h12 => ?_)
            refine W_s (s_zald dX12_does_72 g_221 (gx_ixv h12)) ?_
            refine W_ite (fun h13 => ?_) (fun h13 => ?_)
            · refine W_s (s_if_eq_t dX12_does_73 rfl h13) ?_
              refine W_s (s_iload_n dX12_does_78 rfl rfl) ?_
              refine W_ite (fun h14 => ?_) (fun h14 => ?_)
              · refine W_s (s_if_ne_f dX12_does_79 rfl h14) ?_
                refine W_s (s_aload_n dX12_does_82 rfl rfl) ?_
                refine W_s (s_iload_n dX12_does_83 rfl rfl) ?_
                refine W_s (s_iload_n dX12_does_84 rfl rfl) ?_
                refine W_bd (ec := gx_eB) (fun r_ μ_ hr_ => s_callV (As := [.int _, .int _]) dX12_does_85 Lk_RX12_334 rfl g_206 (by decide) rfl (Nat.le_of_ble_eq_true rfl) (Nat.le_of_ble_eq_true rfl) (ev_X12_buys p2 p3 μ hr_)) (fun r23 μ24 => ?_)
                refine W_s (s_goto dX12_does_88 rfl) ?_
                exact W_r (r := r23) (f_int (ty := .boolean) (x := gx_bi r23) dX12_does_125 rfl (gx_bn r23))
              · refine W_s (s_if_ne_t dX12_does_79 rfl h14) ?_
                refine W_s (s_iload_n dX12_does_91 rfl rfl) ?_
                refine W_s (s_iconst dX12_does_92 kci_2) ?_
                refine W_ite (fun h15 => ?_) (fun h15 => ?_)
                · refine W_s (s_icmp_ne_f dX12_does_93 rfl h15) ?_
                  refine W_s (s_aload_n dX12_does_96 rfl rfl) ?_
                  refine W_s (s_iload_n dX12_does_97 rfl rfl) ?_
                  refine W_s (s_iload_n dX12_does_98 rfl rfl) ?_
                  refine W_bd (ec := gx_eB) (fun r_ μ_ hr_ => s_callV (As := [.int _, .int _]) dX12_does_99 Lk_RX12_337 rfl g_206 (by decide) rfl (Nat.le_of_ble_eq_true rfl) (Nat.le_of_ble_eq_true rfl) (ev_X12_steals p2 p3 μ hr_)) (fun r21 μ22 => ?_)
                  refine W_s (s_goto dX12_does_102 rfl) ?_
                  exact W_r (r := r21) (f_int (ty := .boolean) (x := gx_bi r21) dX12_does_125 rfl (gx_bn r21))
                · refine W_s (s_icmp_ne_t dX12_does_93 rfl h15) ?_
                  refine W_s (s_iload_n dX12_does_105 rfl rfl) ?_
                  refine W_s (s_iconst dX12_does_106 kci_3) ?_
                  refine W_ite (fun h16 => ?_) (fun h16 => ?_)
                  · refine W_s (s_icmp_ne_f dX12_does_107 rfl h16) ?_
                    refine W_s (s_aload_n dX12_does_110 rfl rfl) ?_
                    refine W_s (s_iload_n dX12_does_111 rfl rfl) ?_
                    refine W_s (s_iload_n dX12_does_112 rfl rfl) ?_
                    refine W_bd (ec := gx_eB) (fun r_ μ_ hr_ => s_callV (As := [.int _, .int _]) dX12_does_113 Lk_RX12_340 rfl g_206 (by decide) rfl (Nat.le_of_ble_eq_true rfl) (Nat.le_of_ble_eq_true rfl) (ev_X12_sells p2 p3 μ hr_)) (fun r19 μ20 => ?_)
                    refine W_s (s_goto dX12_does_116 rfl) ?_
                    exact W_r (r := r19) (f_int (ty := .boolean) (x := gx_bi r19) dX12_does_125 rfl (gx_bn r19))
                  · refine W_s (s_icmp_ne_t dX12_does_107 rfl h16) ?_
                    refine W_s (s_aload_n dX12_does_119 rfl rfl) ?_
                    refine W_s (s_iload_n dX12_does_120 rfl rfl) ?_
                    refine W_s (s_iload_n dX12_does_121 rfl rfl) ?_
                    refine W_bd (ec := gx_eB) (fun r_ μ_ hr_ => s_callV (As := [.int _, .int _]) dX12_does_122 Lk_RX12_343 rfl g_206 (by decide) rfl (Nat.le_of_ble_eq_true rfl) (Nat.le_of_ble_eq_true rfl) (ev_X12_thinks p2 p3 μ hr_)) (fun r17 μ18 => ?_)
                    exact W_r (r := r17) (f_int (ty := .boolean) (x := gx_bi r17) dX12_does_125 rfl (gx_bn r17))
            · refine W_s (s_if_eq_f dX12_does_73 rfl h13) ?_
              refine W_s (s_iconst dX12_does_76 kci_0) ?_
              exact W_r (r := false) (f_int (ty := .boolean) (x := gx_bi false) dX12_does_77 rfl (gx_bn false))
          · refine W_s (s_if_eq_t dX12_does_64 rfl (gx_bf h11)) ?_
            refine W_s (s_iconst dX12_does_76 kci_0) ?_
            exact W_r (r := false) (f_int (ty := .boolean) (x := gx_bi false) dX12_does_77 rfl (gx_bn false))
        · refine W_s (s_if_eq_t dX12_does_56 rfl (gx_bf h10)) ?_
          refine W_s (s_iconst dX12_does_76 kci_0) ?_
          exact W_r (r := false) (f_int (ty := .boolean) (x := gx_bi false) dX12_does_77 rfl (gx_bn false))

def L_X12_firstRun_10 (μ : gx_M) (p1 : Int32) (p2 : Int32) (k4 : Int32 → Option Int32) : Nat → Int32 → Int32 → Int32 → Option Int32
  | 0, _, _, _ => none
  | n + 1, v3_1, v4_2, v5_3 => if (μ.1 206 25) ≤ v5_3 then k4 v3_1 else gx_br (f_X12_runCost p1 p2 v5_3 μ) (fun (r6 : Int32) => gx_lt (fun (j0_9 : Int32) => gx_lt (f_X12_lesser v4_2 r6) (fun (x10 : Int32) => L_X12_firstRun_10 μ p1 p2 k4 n j0_9 x10 (v5_3 + 1))) (fun J7 => if v4_2 ≤ r6 then J7 v3_1 else J7 v5_3))
def f_X12_firstRun (p1 : Int32) (p2 : Int32) (μ : gx_M) : Option Int32 := L_X12_firstRun_10 μ p1 p2 (fun (x3_12 : Int32) => some x3_12) 4000 (-1) 1000000 0
theorem okL_X12_firstRun_10 {E : gx_E} {l : Launch} {μ : gx_M} {p1 : Int32} {p2 : Int32} {k4 : Int32 → Option Int32} (hk : ∀ (w11 : Int32), GoR E l Y_X12_firstRun 4 gx_eI 58 [none, none, none, some (.int w11)] [] μ (k4 w11)) : ∀ (n : Nat) (v3_1 : Int32) (v4_2 : Int32) (v5_3 : Int32), GoR E l Y_X12_firstRun 4 gx_eI 10 [some (.ref (E.2.2.1 + 206)), some (.int p1), some (.int p2), some (.int v3_1), some (.int v4_2), some (.int v5_3)] [] μ (L_X12_firstRun_10 μ p1 p2 k4 n v3_1 v4_2 v5_3) := by
  intro n
  induction n with
  | zero => intros; exact R_no
  | succ n ih =>
    intro v3_1 v4_2 v5_3
    rw [L_X12_firstRun_10.eq_2]
    refine R_s (s_iload dX12_firstRun_10 rfl) ?_
    refine R_s (s_aload_n dX12_firstRun_12 rfl rfl) ?_
    refine R_s (gf_RX12_283 rfl dX12_firstRun_13) ?_
    refine R_ite (fun h5 => ?_) (fun h5 => ?_)
    · refine R_s (s_icmp_ge_t dX12_firstRun_16 rfl h5) ?_
      exact R_wk (hk v3_1) (le_o (le_o (le_o (le_s rfl le_n))))
    · refine R_s (s_icmp_ge_f dX12_firstRun_16 rfl h5) ?_
      refine R_s (s_aload_n dX12_firstRun_19 rfl rfl) ?_
      refine R_s (s_iload_n dX12_firstRun_20 rfl rfl) ?_
      refine R_s (s_iload_n dX12_firstRun_21 rfl rfl) ?_
      refine R_s (s_iload dX12_firstRun_22 rfl) ?_
      refine R_br (ec := gx_eI) (fun r_ hr_ => s_callV (As := [.int _, .int _, .int _]) dX12_firstRun_24 Lk_RX12_378 rfl g_206 (by decide) rfl (Nat.le_of_ble_eq_true rfl) (Nat.le_of_ble_eq_true rfl) (ev_X12_runCost p1 p2 v5_3 μ hr_)) (fun r6 => ?_)
      refine R_s (s_istore dX12_firstRun_27 (Nat.le_of_ble_eq_true rfl)) ?_
      refine R_s (s_iload dX12_firstRun_29 rfl) ?_
      refine R_s (s_iload dX12_firstRun_31 rfl) ?_
      refine R_fun (fun J => ∀ (j0_9 : Int32), GoR E l Y_X12_firstRun 4 gx_eI 42 [some (.ref (E.2.2.1 + 206)), some (.int p1), some (.int p2), none, some (.int v4_2), some (.int v5_3), some (.int r6)] [.int j0_9] μ (J j0_9)) ?_ (fun J7 hJ7 => ?_)
      · intro j0_9
        refine R_s (s_istore_n dX12_firstRun_42 rfl (Nat.le_of_ble_eq_true rfl)) ?_
        refine R_s (s_iload dX12_firstRun_43 rfl) ?_
        refine R_s (s_iload dX12_firstRun_45 rfl) ?_
        refine R_s (s_callS (As := [.int _, .int _]) dX12_firstRun_47 Lk_RX12_375 rfl (Nat.le_of_ble_eq_true rfl) (Nat.le_of_ble_eq_true rfl) (ev_X12_lesser v4_2 r6 μ)) ?_
        refine R_letI (fun x10 => ?_)
        refine R_s (s_istore dX12_firstRun_50 (Nat.le_of_ble_eq_true rfl)) ?_
        refine R_s (s_iinc dX12_firstRun_52 rfl (kinc_1 v5_3) (Nat.le_of_ble_eq_true rfl)) ?_
        refine R_s (s_goto dX12_firstRun_55 rfl) ?_
        exact R_wk (ih j0_9 x10 (v5_3 + 1)) (le_s rfl (le_s rfl (le_s rfl (le_s rfl (le_s rfl (le_s rfl le_n))))))
      · skip
        refine R_ite (fun h8 => ?_) (fun h8 => ?_)
        · refine R_s (s_icmp_ge_t dX12_firstRun_33 rfl h8) ?_
          refine R_s (s_iload_n dX12_firstRun_41 rfl rfl) ?_
          exact R_wk (hJ7 v3_1) (le_s rfl (le_s rfl (le_s rfl (le_o (le_s rfl (le_s rfl (le_s rfl le_n)))))))
        · refine R_s (s_icmp_ge_f dX12_firstRun_33 rfl h8) ?_
          refine R_s (s_iload dX12_firstRun_36 rfl) ?_
          refine R_s (s_goto dX12_firstRun_38 rfl) ?_
          exact R_wk (hJ7 v5_3) (le_s rfl (le_s rfl (le_s rfl (le_o (le_s rfl (le_s rfl (le_s rfl le_n)))))))
theorem ev_X12_firstRun {E : gx_E} {l : Launch} (p1 : Int32) (p2 : Int32) (μ : gx_M) {r : Int32} (hr : f_X12_firstRun p1 p2 μ = some r) : gEv E l 4 Y_X12_firstRun [.ref (E.2.2.1 + 206), .int p1, .int p2] gx_G1 μ (gx_eI r) gx_G1 μ := by
  refine R_ev (by decide) (Nat.le_of_ble_eq_true rfl) (em := gx_eI) (T := f_X12_firstRun p1 p2 μ) ?_ hr
  show GoR E l Y_X12_firstRun 4 gx_eI 0 (gx_el [.ref (E.2.2.1 + 206), .int p1, .int p2]) [] μ (f_X12_firstRun p1 p2 μ)
  unfold f_X12_firstRun
  refine R_s (s_iconst dX12_firstRun_0 kci_m1) ?_
  refine R_s (s_istore_n dX12_firstRun_1 rfl (Nat.le_of_ble_eq_true rfl)) ?_
  refine R_s (s_ldcw dX12_firstRun_2 kw_RX12_371) ?_
  refine R_s (s_istore dX12_firstRun_5 (Nat.le_of_ble_eq_true rfl)) ?_
  refine R_s (s_iconst dX12_firstRun_7 kci_0) ?_
  refine R_s (s_istore dX12_firstRun_8 (Nat.le_of_ble_eq_true rfl)) ?_
  refine R_wk (okL_X12_firstRun_10 ?_ 4000 (-1) 1000000 0) (le_s rfl (le_s rfl (le_s rfl (le_s rfl (le_s rfl (le_s rfl le_n))))))
  intro x3_12
  refine R_s (s_iload_n dX12_firstRun_58 rfl rfl) ?_
  exact R_r (r := x3_12) (f_int (ty := .int) dX12_firstRun_59 rfl rfl)

def L_X12_findCosts_2 (p1 : Int32) (k3 : gx_M → Option (Unit × gx_M)) : Nat → Int32 → gx_M → Option (Unit × gx_M)
  | 0, _, _ => none
  | n + 1, v2_1, μ2 => if ((40 : Int32) * (μ2.1 206 27)) ≤ v2_1 then k3 μ2 else gx_lt (fun (j0_8 : Int32) (μ9 : gx_M) => gx_ck (gx_ix v2_1 240 = true) (gx_lt (gx_uI μ9 227 v2_1.toNatClampNeg j0_8) (fun (μ11 : gx_M) => L_X12_findCosts_2 p1 k3 n (v2_1 + 1) μ11))) (fun J5 => if (μ2.1 206 25) ≤ (v2_1 - v2_1 / 40 * 40) then J5 1000000 μ2 else gx_br (f_X12_runCost p1 (v2_1 / 40) (v2_1 - v2_1 / 40 * 40) μ2) (fun (r7 : Int32) => J5 r7 μ2))
def L_X12_findCosts_116 (v2_15 : Int32) (v3_19 : Int32) (k32 : Int32 → gx_M → Option (Unit × gx_M)) : Nat → Int32 → Int32 → gx_M → Option (Unit × gx_M)
  | 0, _, _, _ => none
  | n + 1, v4_29, v5_30, μ31 => if (μ31.1 206 27) ≤ v5_30 then k32 v4_29 μ31 else if (μ31.1 206 25) ≤ v2_15 then k32 v4_29 μ31 else gx_lt (fun (j0_38 : Int32) (μ39 : gx_M) => gx_lt (fun (j0_44 : Int32) (μ45 : gx_M) => L_X12_findCosts_116 v2_15 v3_19 k32 n j0_44 (v5_30 + 1) μ45) (fun J40 => if 1000000 ≤ j0_38 then J40 v4_29 μ39 else gx_br (f_X12_lengthOf v5_30 μ39) (fun (r42 : Int32) => gx_ck (gx_ix (((64 : Int32) * (v2_15 + r42)) + (v3_19 &&& (((1 : Int32) <<< (v5_30 &&& 31)) ^^^ (-1)))) 2624 = true) (J40 (f_X12_lesser v4_29 (j0_38 + (μ39.1 226 (((64 : Int32) * (v2_15 + r42)) + (v3_19 &&& (((1 : Int32) <<< (v5_30 &&& 31)) ^^^ (-1)))).toNatClampNeg))) μ39)))) (fun J35 => if (f_X12_has v3_19 v5_30) = true then gx_ck (gx_ix (((40 : Int32) * v5_30) + v2_15) 240 = true) (J35 (μ31.1 227 (((40 : Int32) * v5_30) + v2_15).toNatClampNeg) μ31) else J35 1000000 μ31)
def L_X12_findCosts_66 (v2_15 : Int32) (k21 : gx_M → Option (Unit × gx_M)) : Nat → Int32 → gx_M → Option (Unit × gx_M)
  | 0, _, _ => none
  | n + 1, v3_19, μ20 => if ((1 : Int32) <<< ((μ20.1 206 27) &&& 31)) ≤ v3_19 then k21 μ20 else gx_lt (fun (j0_27 : Int32) (μ28 : gx_M) => L_X12_findCosts_116 v2_15 v3_19 (fun (x4_48 : Int32) (μ49 : gx_M) => gx_ck (gx_ix (((64 : Int32) * v2_15) + v3_19) 2624 = true) (gx_lt (gx_uI μ49 226 (((64 : Int32) * v2_15) + v3_19).toNatClampNeg (f_X12_lesser x4_48 1000000)) (fun (μ51 : gx_M) => L_X12_findCosts_66 v2_15 k21 n (v3_19 + 1) μ51))) 4000 j0_27 0 μ28) (fun J23 => if v3_19 = 0 then J23 0 μ20 else if v2_15 = (μ20.1 206 25) then J23 1000000 μ20 else gx_ck (gx_ix (((64 : Int32) * (v2_15 + 1)) + v3_19) 2624 = true) (J23 (μ20.1 226 (((64 : Int32) * (v2_15 + 1)) + v3_19).toNatClampNeg) μ20))
def L_X12_findCosts_60 (k17 : gx_M → Option (Unit × gx_M)) : Nat → Int32 → gx_M → Option (Unit × gx_M)
  | 0, _, _ => none
  | n + 1, v2_15, μ16 => if v2_15 < 0 then k17 μ16 else L_X12_findCosts_66 v2_15 (fun (μ53 : gx_M) => L_X12_findCosts_60 k17 n (v2_15 + (-1)) μ53) 4000 0 μ16
def f_X12_findCosts (p1 : Int32) (μ : gx_M) : Option (Unit × gx_M) := L_X12_findCosts_2 p1 (fun (μ13 : gx_M) => gx_lt (μ13.1 206 25) (fun (x14 : Int32) => L_X12_findCosts_60 (fun (μ55 : gx_M) => some ((), μ55)) 4000 x14 μ13)) 4000 0 μ
theorem okL_X12_findCosts_2 {E : gx_E} {l : Launch} {p1 : Int32} {k3 : gx_M → Option (Unit × gx_M)} (hk : ∀ (μ12 : gx_M), GoW E l Y_X12_findCosts 4 gx_eV 55 [some (.ref (E.2.2.1 + 206))] [] μ12 (k3 μ12)) : ∀ (n : Nat) (v2_1 : Int32) (μ2 : gx_M), GoW E l Y_X12_findCosts 4 gx_eV 2 [some (.ref (E.2.2.1 + 206)), some (.int p1), some (.int v2_1)] [] μ2 (L_X12_findCosts_2 p1 k3 n v2_1 μ2) := by
  intro n
  induction n with
  | zero => intros; exact W_no
  | succ n ih =>
    intro v2_1 μ2
    rw [L_X12_findCosts_2.eq_2]
    refine W_s (s_iload_n dX12_findCosts_2 rfl rfl) ?_
    refine W_s (s_bipush dX12_findCosts_3 kcb_40) ?_
    refine W_s (s_aload_n dX12_findCosts_5 rfl rfl) ?_
    refine W_s (gf_RX12_289 rfl dX12_findCosts_6) ?_
    refine W_s (s_imul dX12_findCosts_9) ?_
    refine W_ite (fun h4 => ?_) (fun h4 => ?_)
    · refine W_s (s_icmp_ge_t dX12_findCosts_10 rfl h4) ?_
      exact W_wk (hk μ2) (le_s rfl le_n)
    · refine W_s (s_icmp_ge_f dX12_findCosts_10 rfl h4) ?_
      refine W_s (s_aload_n dX12_findCosts_13 rfl rfl) ?_
      refine W_s (gf_RX12_72 rfl dX12_findCosts_14) ?_
      refine W_s (s_iload_n dX12_findCosts_17 rfl rfl) ?_
      refine W_s (s_iload_n dX12_findCosts_18 rfl rfl) ?_
      refine W_s (s_bipush dX12_findCosts_19 kcb_40) ?_
      refine W_s (s_irem dX12_findCosts_21 (by decide)) ?_
      refine W_s (s_aload_n dX12_findCosts_22 rfl rfl) ?_
      refine W_s (gf_RX12_283 rfl dX12_findCosts_23) ?_
      refine W_fun (fun J => ∀ (j0_8 : Int32) (μ9 : gx_M), GoW E l Y_X12_findCosts 4 gx_eV 48 [some (.ref (E.2.2.1 + 206)), some (.int p1), some (.int v2_1)] [.int j0_8, .int v2_1, .ref (E.2.2.1 + 227)] μ9 (J j0_8 μ9)) ?_ (fun J5 hJ5 => ?_)
      · intro j0_8 μ9
        refine W_ck (fun h10 => ?_)
        refine W_s (s_iast dX12_findCosts_48 g_227 (gx_ixv h10)) ?_
        refine W_letM (fun μ11 => ?_)
        refine W_s (s_iinc dX12_findCosts_49 rfl (kinc_1 v2_1) (Nat.le_of_ble_eq_true rfl)) ?_
        refine W_s (s_goto dX12_findCosts_52 rfl) ?_
        exact W_wk (ih (v2_1 + 1) μ11) (le_s rfl (le_s rfl (le_s rfl le_n)))
      · skip
        refine W_ite (fun h6 => ?_) (fun h6 => ?_)
        · refine W_s (s_icmp_ge_t dX12_findCosts_26 rfl h6) ?_
          refine W_s (s_ldcw dX12_findCosts_45 kw_RX12_371) ?_
          exact W_wk (hJ5 1000000 μ2) (le_s rfl (le_s rfl (le_s rfl le_n)))
        · refine W_s (s_icmp_ge_f dX12_findCosts_26 rfl h6) ?_
          refine W_s (s_aload_n dX12_findCosts_29 rfl rfl) ?_
          refine W_s (s_iload_n dX12_findCosts_30 rfl rfl) ?_
          refine W_s (s_iload_n dX12_findCosts_31 rfl rfl) ?_
          refine W_s (s_bipush dX12_findCosts_32 kcb_40) ?_
          refine W_s (s_idiv dX12_findCosts_34 (by decide)) ?_
          refine W_s (s_iload_n dX12_findCosts_35 rfl rfl) ?_
          refine W_s (s_bipush dX12_findCosts_36 kcb_40) ?_
          refine W_s (s_irem dX12_findCosts_38 (by decide)) ?_
          refine W_br (ec := gx_eI) (fun r_ hr_ => s_callV (As := [.int _, .int _, .int _]) dX12_findCosts_39 Lk_RX12_378 rfl g_206 (by decide) rfl (Nat.le_of_ble_eq_true rfl) (Nat.le_of_ble_eq_true rfl) (ev_X12_runCost p1 (v2_1 / 40) (v2_1 - v2_1 / 40 * 40) μ2 hr_)) (fun r7 => ?_)
          refine W_s (s_goto dX12_findCosts_42 rfl) ?_
          exact W_wk (hJ5 r7 μ2) (le_s rfl (le_s rfl (le_s rfl le_n)))
theorem okL_X12_findCosts_116 {E : gx_E} {l : Launch} {v2_15 : Int32} {v3_19 : Int32} {k32 : Int32 → gx_M → Option (Unit × gx_M)} (hk : ∀ (w46 : Int32) (μ47 : gx_M), GoW E l Y_X12_findCosts 4 gx_eV 216 [some (.ref (E.2.2.1 + 206)), none, some (.int v2_15), some (.int v3_19), some (.int w46)] [] μ47 (k32 w46 μ47)) : ∀ (n : Nat) (v4_29 : Int32) (v5_30 : Int32) (μ31 : gx_M), GoW E l Y_X12_findCosts 4 gx_eV 116 [some (.ref (E.2.2.1 + 206)), none, some (.int v2_15), some (.int v3_19), some (.int v4_29), some (.int v5_30)] [] μ31 (L_X12_findCosts_116 v2_15 v3_19 k32 n v4_29 v5_30 μ31) := by
  intro n
  induction n with
  | zero => intros; exact W_no
  | succ n ih =>
    intro v4_29 v5_30 μ31
    rw [L_X12_findCosts_116.eq_2]
    refine W_s (s_iload dX12_findCosts_116 rfl) ?_
    refine W_s (s_aload_n dX12_findCosts_118 rfl rfl) ?_
    refine W_s (gf_RX12_289 rfl dX12_findCosts_119) ?_
    refine W_ite (fun h33 => ?_) (fun h33 => ?_)
    · refine W_s (s_icmp_ge_t dX12_findCosts_122 rfl h33) ?_
      exact W_wk (hk v4_29 μ31) (le_s rfl (le_o (le_s rfl (le_s rfl (le_s rfl le_n)))))
    · refine W_s (s_icmp_ge_f dX12_findCosts_122 rfl h33) ?_
      refine W_s (s_iload_n dX12_findCosts_125 rfl rfl) ?_
      refine W_s (s_aload_n dX12_findCosts_126 rfl rfl) ?_
      refine W_s (gf_RX12_283 rfl dX12_findCosts_127) ?_
      refine W_ite (fun h34 => ?_) (fun h34 => ?_)
      · refine W_s (s_icmp_ge_t dX12_findCosts_130 rfl h34) ?_
        exact W_wk (hk v4_29 μ31) (le_s rfl (le_o (le_s rfl (le_s rfl (le_s rfl le_n)))))
      · refine W_s (s_icmp_ge_f dX12_findCosts_130 rfl h34) ?_
        refine W_s (s_iload_n dX12_findCosts_133 rfl rfl) ?_
        refine W_s (s_iload dX12_findCosts_134 rfl) ?_
        refine W_s (s_callS (As := [.int _, .int _]) dX12_findCosts_136 Lk_RX12_104 rfl (Nat.le_of_ble_eq_true rfl) (Nat.le_of_ble_eq_true rfl) (ev_X12_has v3_19 v5_30 μ31)) ?_
        refine W_fun (fun J => ∀ (j0_38 : Int32) (μ39 : gx_M), GoW E l Y_X12_findCosts 4 gx_eV 160 [some (.ref (E.2.2.1 + 206)), none, some (.int v2_15), some (.int v3_19), some (.int v4_29), some (.int v5_30)] [.int j0_38] μ39 (J j0_38 μ39)) ?_ (fun J35 hJ35 => ?_)
        · intro j0_38 μ39
          refine W_s (s_istore dX12_findCosts_160 (Nat.le_of_ble_eq_true rfl)) ?_
          refine W_s (s_iload dX12_findCosts_162 rfl) ?_
          refine W_s (s_ldcw dX12_findCosts_164 kw_RX12_371) ?_
          refine W_fun (fun J => ∀ (j0_44 : Int32) (μ45 : gx_M), GoW E l Y_X12_findCosts 4 gx_eV 208 [some (.ref (E.2.2.1 + 206)), none, some (.int v2_15), some (.int v3_19), none, some (.int v5_30)] [.int j0_44] μ45 (J j0_44 μ45)) ?_ (fun J40 hJ40 => ?_)
          · intro j0_44 μ45
            refine W_s (s_istore dX12_findCosts_208 (Nat.le_of_ble_eq_true rfl)) ?_
            refine W_s (s_iinc dX12_findCosts_210 rfl (kinc_1 v5_30) (Nat.le_of_ble_eq_true rfl)) ?_
            refine W_s (s_goto dX12_findCosts_213 rfl) ?_
            exact W_wk (ih j0_44 (v5_30 + 1) μ45) (le_s rfl (le_o (le_s rfl (le_s rfl (le_s rfl (le_s rfl le_n))))))
          · skip
            refine W_ite (fun h41 => ?_) (fun h41 => ?_)
            · refine W_s (s_icmp_ge_t dX12_findCosts_167 rfl h41) ?_
              refine W_s (s_iload dX12_findCosts_206 rfl) ?_
              exact W_wk (hJ40 v4_29 μ39) (le_s rfl (le_o (le_s rfl (le_s rfl (le_o (le_s rfl le_n))))))
            · refine W_s (s_icmp_ge_f dX12_findCosts_167 rfl h41) ?_
              refine W_s (s_iload dX12_findCosts_170 rfl) ?_
              refine W_s (s_iload dX12_findCosts_172 rfl) ?_
              refine W_s (s_aload_n dX12_findCosts_174 rfl rfl) ?_
              refine W_s (gf_RX12_69 rfl dX12_findCosts_175) ?_
              refine W_s (s_bipush dX12_findCosts_178 kcb_64) ?_
              refine W_s (s_iload_n dX12_findCosts_180 rfl rfl) ?_
              refine W_s (s_aload_n dX12_findCosts_181 rfl rfl) ?_
              refine W_s (s_iload dX12_findCosts_182 rfl) ?_
              refine W_br (ec := gx_eI) (fun r_ hr_ => s_callV (As := [.int _]) dX12_findCosts_184 Lk_RX12_295 rfl g_206 (by decide) rfl (Nat.le_of_ble_eq_true rfl) (Nat.le_of_ble_eq_true rfl) (ev_X12_lengthOf v5_30 μ39 hr_)) (fun r42 => ?_)
              refine W_s (s_iadd dX12_findCosts_187) ?_
              refine W_s (s_imul dX12_findCosts_188) ?_
              refine W_s (s_iload_n dX12_findCosts_189 rfl rfl) ?_
              refine W_s (s_iconst dX12_findCosts_190 kci_1) ?_
              refine W_s (s_iload dX12_findCosts_191 rfl) ?_
              refine W_s (s_ishl dX12_findCosts_193) ?_
              refine W_s (s_iconst dX12_findCosts_194 kci_m1) ?_
              refine W_s (s_ixor dX12_findCosts_195) ?_
              refine W_s (s_iand dX12_findCosts_196) ?_
              refine W_s (s_iadd dX12_findCosts_197) ?_
              refine W_ck (fun h43 => ?_)
              refine W_s (s_iald dX12_findCosts_198 g_226 (gx_ixv h43)) ?_
              refine W_s (s_iadd dX12_findCosts_199) ?_
              refine W_s (s_callS (As := [.int _, .int _]) dX12_findCosts_200 Lk_RX12_375 rfl (Nat.le_of_ble_eq_true rfl) (Nat.le_of_ble_eq_true rfl) (ev_X12_lesser v4_29 (j0_38 + (μ39.1 226 (((64 : Int32) * (v2_15 + r42)) + (v3_19 &&& (((1 : Int32) <<< (v5_30 &&& 31)) ^^^ (-1)))).toNatClampNeg)) μ39)) ?_
              refine W_s (s_goto dX12_findCosts_203 rfl) ?_
              exact W_wk (hJ40 (f_X12_lesser v4_29 (j0_38 + (μ39.1 226 (((64 : Int32) * (v2_15 + r42)) + (v3_19 &&& (((1 : Int32) <<< (v5_30 &&& 31)) ^^^ (-1)))).toNatClampNeg))) μ39) (le_s rfl (le_o (le_s rfl (le_s rfl (le_o (le_s rfl le_n))))))
        · skip
          refine W_ite (fun h36 => ?_) (fun h36 => ?_)
          · refine W_s (s_if_eq_f dX12_findCosts_139 rfl (gx_bt h36)) ?_
            refine W_s (s_aload_n dX12_findCosts_142 rfl rfl) ?_
            refine W_s (gf_RX12_72 rfl dX12_findCosts_143) ?_
            refine W_s (s_bipush dX12_findCosts_146 kcb_40) ?_
            refine W_s (s_iload dX12_findCosts_148 rfl) ?_
            refine W_s (s_imul dX12_findCosts_150) ?_
            refine W_s (s_iload_n dX12_findCosts_151 rfl rfl) ?_
            refine W_s (s_iadd dX12_findCosts_152) ?_
            refine W_ck (fun h37 => ?_)
            refine W_s (s_iald dX12_findCosts_153 g_227 (gx_ixv h37)) ?_
            refine W_s (s_goto dX12_findCosts_154 rfl) ?_
            exact W_wk (hJ35 (μ31.1 227 (((40 : Int32) * v5_30) + v2_15).toNatClampNeg) μ31) (le_s rfl (le_o (le_s rfl (le_s rfl (le_s rfl (le_s rfl le_n))))))
          · refine W_s (s_if_eq_t dX12_findCosts_139 rfl (gx_bf h36)) ?_
            refine W_s (s_ldcw dX12_findCosts_157 kw_RX12_371) ?_
            exact W_wk (hJ35 1000000 μ31) (le_s rfl (le_o (le_s rfl (le_s rfl (le_s rfl (le_s rfl le_n))))))
theorem okL_X12_findCosts_66 {E : gx_E} {l : Launch} {v2_15 : Int32} {k21 : gx_M → Option (Unit × gx_M)} (hk : ∀ (μ52 : gx_M), GoW E l Y_X12_findCosts 4 gx_eV 241 [some (.ref (E.2.2.1 + 206)), none, some (.int v2_15)] [] μ52 (k21 μ52)) : ∀ (n : Nat) (v3_19 : Int32) (μ20 : gx_M), GoW E l Y_X12_findCosts 4 gx_eV 66 [some (.ref (E.2.2.1 + 206)), none, some (.int v2_15), some (.int v3_19)] [] μ20 (L_X12_findCosts_66 v2_15 k21 n v3_19 μ20) := by
  intro n
  induction n with
  | zero => intros; exact W_no
  | succ n ih =>
    intro v3_19 μ20
    rw [L_X12_findCosts_66.eq_2]
    refine W_s (s_iload_n dX12_findCosts_66 rfl rfl) ?_
    refine W_s (s_iconst dX12_findCosts_67 kci_1) ?_
    refine W_s (s_aload_n dX12_findCosts_68 rfl rfl) ?_
    refine W_s (gf_RX12_289 rfl dX12_findCosts_69) ?_
    refine W_s (s_ishl dX12_findCosts_72) ?_
    refine W_ite (fun h22 => ?_) (fun h22 => ?_)
    · refine W_s (s_icmp_ge_t dX12_findCosts_73 rfl h22) ?_
      exact W_wk (hk μ20) (le_s rfl (le_o (le_s rfl le_n)))
    · refine W_s (s_icmp_ge_f dX12_findCosts_73 rfl h22) ?_
      refine W_s (s_iload_n dX12_findCosts_76 rfl rfl) ?_
      refine W_fun (fun J => ∀ (j0_27 : Int32) (μ28 : gx_M), GoW E l Y_X12_findCosts 4 gx_eV 111 [some (.ref (E.2.2.1 + 206)), none, some (.int v2_15), some (.int v3_19)] [.int j0_27] μ28 (J j0_27 μ28)) ?_ (fun J23 hJ23 => ?_)
      · intro j0_27 μ28
        refine W_s (s_istore dX12_findCosts_111 (Nat.le_of_ble_eq_true rfl)) ?_
        refine W_s (s_iconst dX12_findCosts_113 kci_0) ?_
        refine W_s (s_istore dX12_findCosts_114 (Nat.le_of_ble_eq_true rfl)) ?_
        refine W_wk (okL_X12_findCosts_116 ?_ 4000 j0_27 0 μ28) (le_s rfl (le_o (le_s rfl (le_s rfl (le_s rfl (le_s rfl le_n))))))
        intro x4_48 μ49
        refine W_s (s_aload_n dX12_findCosts_216 rfl rfl) ?_
        refine W_s (gf_RX12_69 rfl dX12_findCosts_217) ?_
        refine W_s (s_bipush dX12_findCosts_220 kcb_64) ?_
        refine W_s (s_iload_n dX12_findCosts_222 rfl rfl) ?_
        refine W_s (s_imul dX12_findCosts_223) ?_
        refine W_s (s_iload_n dX12_findCosts_224 rfl rfl) ?_
        refine W_s (s_iadd dX12_findCosts_225) ?_
        refine W_s (s_iload dX12_findCosts_226 rfl) ?_
        refine W_s (s_ldcw dX12_findCosts_228 kw_RX12_371) ?_
        refine W_s (s_callS (As := [.int _, .int _]) dX12_findCosts_231 Lk_RX12_375 rfl (Nat.le_of_ble_eq_true rfl) (Nat.le_of_ble_eq_true rfl) (ev_X12_lesser x4_48 1000000 μ49)) ?_
        refine W_ck (fun h50 => ?_)
        refine W_s (s_iast dX12_findCosts_234 g_226 (gx_ixv h50)) ?_
        refine W_letM (fun μ51 => ?_)
        refine W_s (s_iinc dX12_findCosts_235 rfl (kinc_1 v3_19) (Nat.le_of_ble_eq_true rfl)) ?_
        refine W_s (s_goto dX12_findCosts_238 rfl) ?_
        exact W_wk (ih (v3_19 + 1) μ51) (le_s rfl (le_o (le_s rfl (le_s rfl le_n))))
      · skip
        refine W_ite (fun h24 => ?_) (fun h24 => ?_)
        · refine W_s (s_if_ne_f dX12_findCosts_77 rfl h24) ?_
          refine W_s (s_iconst dX12_findCosts_80 kci_0) ?_
          refine W_s (s_goto dX12_findCosts_81 rfl) ?_
          exact W_wk (hJ23 0 μ20) (le_s rfl (le_o (le_s rfl (le_s rfl le_n))))
        · refine W_s (s_if_ne_t dX12_findCosts_77 rfl h24) ?_
          refine W_s (s_iload_n dX12_findCosts_84 rfl rfl) ?_
          refine W_s (s_aload_n dX12_findCosts_85 rfl rfl) ?_
          refine W_s (gf_RX12_283 rfl dX12_findCosts_86) ?_
          refine W_ite (fun h25 => ?_) (fun h25 => ?_)
          · refine W_s (s_icmp_ne_f dX12_findCosts_89 rfl h25) ?_
            refine W_s (s_ldcw dX12_findCosts_92 kw_RX12_371) ?_
            refine W_s (s_goto dX12_findCosts_95 rfl) ?_
            exact W_wk (hJ23 1000000 μ20) (le_s rfl (le_o (le_s rfl (le_s rfl le_n))))
          · refine W_s (s_icmp_ne_t dX12_findCosts_89 rfl h25) ?_
            refine W_s (s_aload_n dX12_findCosts_98 rfl rfl) ?_
            refine W_s (gf_RX12_69 rfl dX12_findCosts_99) ?_
            refine W_s (s_bipush dX12_findCosts_102 kcb_64) ?_
            refine W_s (s_iload_n dX12_findCosts_104 rfl rfl) ?_
            refine W_s (s_iconst dX12_findCosts_105 kci_1) ?_
            refine W_s (s_iadd dX12_findCosts_106) ?_
            refine W_s (s_imul dX12_findCosts_107) ?_
            refine W_s (s_iload_n dX12_findCosts_108 rfl rfl) ?_
            refine W_s (s_iadd dX12_findCosts_109) ?_
            refine W_ck (fun h26 => ?_)
            refine W_s (s_iald dX12_findCosts_110 g_226 (gx_ixv h26)) ?_
            exact W_wk (hJ23 (μ20.1 226 (((64 : Int32) * (v2_15 + 1)) + v3_19).toNatClampNeg) μ20) (le_s rfl (le_o (le_s rfl (le_s rfl le_n))))
theorem okL_X12_findCosts_60 {E : gx_E} {l : Launch} {k17 : gx_M → Option (Unit × gx_M)} (hk : ∀ (μ54 : gx_M), GoW E l Y_X12_findCosts 4 gx_eV 247 [] [] μ54 (k17 μ54)) : ∀ (n : Nat) (v2_15 : Int32) (μ16 : gx_M), GoW E l Y_X12_findCosts 4 gx_eV 60 [some (.ref (E.2.2.1 + 206)), none, some (.int v2_15)] [] μ16 (L_X12_findCosts_60 k17 n v2_15 μ16) := by
  intro n
  induction n with
  | zero => intros; exact W_no
  | succ n ih =>
    intro v2_15 μ16
    rw [L_X12_findCosts_60.eq_2]
    refine W_s (s_iload_n dX12_findCosts_60 rfl rfl) ?_
    refine W_ite (fun h18 => ?_) (fun h18 => ?_)
    · refine W_s (s_if_lt_t dX12_findCosts_61 rfl h18) ?_
      exact W_wk (hk μ16) le_n
    · refine W_s (s_if_lt_f dX12_findCosts_61 rfl h18) ?_
      refine W_s (s_iconst dX12_findCosts_64 kci_0) ?_
      refine W_s (s_istore_n dX12_findCosts_65 rfl (Nat.le_of_ble_eq_true rfl)) ?_
      refine W_wk (okL_X12_findCosts_66 ?_ 4000 0 μ16) (le_s rfl (le_o (le_s rfl (le_s rfl le_n))))
      intro μ53
      refine W_s (s_iinc dX12_findCosts_241 rfl (kinc_m1 v2_15) (Nat.le_of_ble_eq_true rfl)) ?_
      refine W_s (s_goto dX12_findCosts_244 rfl) ?_
      exact W_wk (ih (v2_15 + (-1)) μ53) (le_s rfl (le_o (le_s rfl le_n)))
theorem ev_X12_findCosts {E : gx_E} {l : Launch} (p1 : Int32) (μ : gx_M) {r : Unit} {μ' : gx_M} (hr : f_X12_findCosts p1 μ = some (r, μ')) : gEv E l 4 Y_X12_findCosts [.ref (E.2.2.1 + 206), .int p1] gx_G1 μ (gx_eV r) gx_G1 μ' := by
  refine W_ev (by decide) (Nat.le_of_ble_eq_true rfl) (em := gx_eV) (T := f_X12_findCosts p1 μ) ?_ hr
  show GoW E l Y_X12_findCosts 4 gx_eV 0 (gx_el [.ref (E.2.2.1 + 206), .int p1]) [] μ (f_X12_findCosts p1 μ)
  unfold f_X12_findCosts
  refine W_s (s_iconst dX12_findCosts_0 kci_0) ?_
  refine W_s (s_istore_n dX12_findCosts_1 rfl (Nat.le_of_ble_eq_true rfl)) ?_
  refine W_wk (okL_X12_findCosts_2 ?_ 4000 0 μ) (le_s rfl (le_s rfl (le_s rfl le_n)))
  intro μ13
  refine W_s (s_aload_n dX12_findCosts_55 rfl rfl) ?_
  refine W_s (gf_RX12_283 rfl dX12_findCosts_56) ?_
  refine W_letI (fun x14 => ?_)
  refine W_s (s_istore_n dX12_findCosts_59 rfl (Nat.le_of_ble_eq_true rfl)) ?_
  refine W_wk (okL_X12_findCosts_60 ?_ 4000 x14 μ13) (le_s rfl (le_o (le_s rfl le_n)))
  intro μ55
  exact W_r (r := ()) (f_void dX12_findCosts_247 rfl)

def f_X12_corner (p1 : Int32) (p2 : Int32) (p3 : Int32) (μ : gx_M) : Option (Int32 × gx_M) := gx_lt (gx_uI μ 206 0 0) (fun (μ1 : gx_M) => gx_bd (f_X12_hand p1 μ1) (fun (r2 : Bool) (μ3 : gx_M) => if r2 = true then if (f_X12_isPerson p2 μ3) = true then gx_br (f_X12_handsOf p2 μ3) (fun (r6 : Int64) => gx_bd (f_X12_findRuns r6 (f_X12_allMinutes μ3) μ3) (fun (r7 : Unit) (μ8 : gx_M) => gx_br (f_X12_handsOf p2 μ8) (fun (r9 : Int64) => gx_bd (f_X12_hitOf ((f_X12_allMinutes μ8) &&& (r9 ^^^ (-1))) p3 μ8) (fun (r10 : Int32) (μ11 : gx_M) => some (r10, μ11))))) else some ((-1), μ3) else some ((-1), μ3)))
theorem ev_X12_corner {E : gx_E} {l : Launch} (p1 : Int32) (p2 : Int32) (p3 : Int32) (μ : gx_M) {r : Int32} {μ' : gx_M} (hr : f_X12_corner p1 p2 p3 μ = some (r, μ')) : gEv E l 4 Y_X12_corner [.ref (E.2.2.1 + 206), .int p1, .int p2, .int p3] gx_G1 μ (gx_eI r) gx_G1 μ' := by
  refine W_ev (by decide) (Nat.le_of_ble_eq_true rfl) (em := gx_eI) (T := f_X12_corner p1 p2 p3 μ) ?_ hr
  show GoW E l Y_X12_corner 4 gx_eI 0 (gx_el [.ref (E.2.2.1 + 206), .int p1, .int p2, .int p3]) [] μ (f_X12_corner p1 p2 p3 μ)
  unfold f_X12_corner
  refine W_s (s_aload_n dX12_corner_0 rfl rfl) ?_
  refine W_s (s_iconst dX12_corner_1 kci_0) ?_
  refine W_s (pf_RX12_100 rfl dX12_corner_2) ?_
  refine W_letM (fun μ1 => ?_)
  refine W_s (s_aload_n dX12_corner_5 rfl rfl) ?_
  refine W_s (s_iload_n dX12_corner_6 rfl rfl) ?_
  refine W_bd (ec := gx_eB) (fun r_ μ_ hr_ => s_callV (As := [.int _]) dX12_corner_7 Lk_RX12_298 rfl g_206 (by decide) rfl (Nat.le_of_ble_eq_true rfl) (Nat.le_of_ble_eq_true rfl) (ev_X12_hand p1 μ1 hr_)) (fun r2 μ3 => ?_)
  refine W_ite (fun h4 => ?_) (fun h4 => ?_)
  · refine W_s (s_if_eq_f dX12_corner_10 rfl (gx_bt h4)) ?_
    refine W_s (s_aload_n dX12_corner_13 rfl rfl) ?_
    refine W_s (s_iload_n dX12_corner_14 rfl rfl) ?_
    refine W_s (s_callV (As := [.int _]) dX12_corner_15 Lk_RX12_316 rfl g_206 (by decide) rfl (Nat.le_of_ble_eq_true rfl) (Nat.le_of_ble_eq_true rfl) (ev_X12_isPerson p2 μ3)) ?_
    refine W_ite (fun h5 => ?_) (fun h5 => ?_)
    · refine W_s (s_if_ne_t dX12_corner_18 rfl (gx_bt h5)) ?_
      refine W_s (s_aload_n dX12_corner_23 rfl rfl) ?_
      refine W_s (s_aload_n dX12_corner_24 rfl rfl) ?_
      refine W_s (s_iload_n dX12_corner_25 rfl rfl) ?_
      refine W_br (ec := gx_eL) (fun r_ hr_ => s_callV (As := [.int _]) dX12_corner_26 Lk_RX12_430 rfl g_206 (by decide) rfl (Nat.le_of_ble_eq_true rfl) (Nat.le_of_ble_eq_true rfl) (ev_X12_handsOf p2 μ3 hr_)) (fun r6 => ?_)
      refine W_s (s_aload_n dX12_corner_29 rfl rfl) ?_
      refine W_s (s_callV (As := []) dX12_corner_30 Lk_RX12_434 rfl g_206 (by decide) rfl (Nat.le_of_ble_eq_true rfl) (Nat.le_of_ble_eq_true rfl) (ev_X12_allMinutes μ3)) ?_
      refine W_bd (ec := gx_eV) (fun r_ μ_ hr_ => s_callV (As := [.long _, .long _]) dX12_corner_33 Lk_RX12_438 rfl g_206 (by decide) rfl (Nat.le_of_ble_eq_true rfl) (Nat.le_of_ble_eq_true rfl) (ev_X12_findRuns r6 (f_X12_allMinutes μ3) μ3 hr_)) (fun r7 μ8 => ?_)
      refine W_s (s_aload_n dX12_corner_36 rfl rfl) ?_
      refine W_s (s_aload_n dX12_corner_37 rfl rfl) ?_
      refine W_s (s_callV (As := []) dX12_corner_38 Lk_RX12_434 rfl g_206 (by decide) rfl (Nat.le_of_ble_eq_true rfl) (Nat.le_of_ble_eq_true rfl) (ev_X12_allMinutes μ8)) ?_
      refine W_s (s_aload_n dX12_corner_41 rfl rfl) ?_
      refine W_s (s_iload_n dX12_corner_42 rfl rfl) ?_
      refine W_br (ec := gx_eL) (fun r_ hr_ => s_callV (As := [.int _]) dX12_corner_43 Lk_RX12_430 rfl g_206 (by decide) rfl (Nat.le_of_ble_eq_true rfl) (Nat.le_of_ble_eq_true rfl) (ev_X12_handsOf p2 μ8 hr_)) (fun r9 => ?_)
      refine W_s (s_ldc2 dX12_corner_46 kw_RX12_419) ?_
      refine W_s (s_lxor dX12_corner_49) ?_
      refine W_s (s_land dX12_corner_50) ?_
      refine W_s (s_iload_n dX12_corner_51 rfl rfl) ?_
      refine W_bd (ec := gx_eI) (fun r_ μ_ hr_ => s_callV (As := [.long _, .int _]) dX12_corner_52 Lk_RX12_442 rfl g_206 (by decide) rfl (Nat.le_of_ble_eq_true rfl) (Nat.le_of_ble_eq_true rfl) (ev_X12_hitOf ((f_X12_allMinutes μ8) &&& (r9 ^^^ (-1))) p3 μ8 hr_)) (fun r10 μ11 => ?_)
      exact W_r (r := r10) (f_int (ty := .int) dX12_corner_55 rfl rfl)
    · refine W_s (s_if_ne_f dX12_corner_18 rfl (gx_bf h5)) ?_
      refine W_s (s_iconst dX12_corner_21 kci_m1) ?_
      exact W_r (r := (-1)) (f_int (ty := .int) dX12_corner_22 rfl rfl)
  · refine W_s (s_if_eq_t dX12_corner_10 rfl (gx_bf h4)) ?_
    refine W_s (s_iconst dX12_corner_21 kci_m1) ?_
    exact W_r (r := (-1)) (f_int (ty := .int) dX12_corner_22 rfl rfl)

def f_X12_swap (p1 : Int32) (p2 : Int32) (μ : gx_M) : Option (Int32 × gx_M) := gx_lt (gx_uI μ 206 0 0) (fun (μ1 : gx_M) => gx_bd (f_X12_hasSwap p1 μ1) (fun (r2 : Bool) (μ3 : gx_M) => if r2 = true then gx_lt (p2 - p2 / 10 * 10) (fun (x5 : Int32) => if (f_X12_in p2 10 29) = true then if x5 < (μ3.1 206 50) then if 20 ≤ p2 then gx_ck (gx_ix x5 6 = true) (some ((μ3.1 233 x5.toNatClampNeg), μ3)) else gx_ck (gx_ix x5 6 = true) (some ((μ3.1 232 x5.toNatClampNeg), μ3)) else some ((-1000), μ3) else if (f_X12_in p2 100 135) = true then gx_lt ((p2 - 100) / 6) (fun (x12 : Int32) => gx_lt ((p2 - 100) - (p2 - 100) / 6 * 6) (fun (x13 : Int32) => if (μ3.1 206 50) ≤ x12 then some ((-1000), μ3) else if (μ3.1 206 50) ≤ x13 then some ((-1000), μ3) else gx_br (f_X12_worthTo x12 x13 μ3) (fun (r16 : Int32) => some (r16, μ3)))) else if p2 = 0 then some ((μ3.1 206 50), μ3) else if p2 = 1 then gx_br (f_X12_gain μ3) (fun (r20 : Int32) => some (r20, μ3)) else if p2 = 2 then some ((μ3.1 206 51), μ3) else some ((-1000), μ3)) else some ((-1000), μ3)))
theorem ev_X12_swap {E : gx_E} {l : Launch} (p1 : Int32) (p2 : Int32) (μ : gx_M) {r : Int32} {μ' : gx_M} (hr : f_X12_swap p1 p2 μ = some (r, μ')) : gEv E l 4 Y_X12_swap [.ref (E.2.2.1 + 206), .int p1, .int p2] gx_G1 μ (gx_eI r) gx_G1 μ' := by
  refine W_ev (by decide) (Nat.le_of_ble_eq_true rfl) (em := gx_eI) (T := f_X12_swap p1 p2 μ) ?_ hr
  show GoW E l Y_X12_swap 4 gx_eI 0 (gx_el [.ref (E.2.2.1 + 206), .int p1, .int p2]) [] μ (f_X12_swap p1 p2 μ)
  unfold f_X12_swap
  refine W_s (s_aload_n dX12_swap_0 rfl rfl) ?_
  refine W_s (s_iconst dX12_swap_1 kci_0) ?_
  refine W_s (pf_RX12_100 rfl dX12_swap_2) ?_
  refine W_letM (fun μ1 => ?_)
  refine W_s (s_aload_n dX12_swap_5 rfl rfl) ?_
  refine W_s (s_iload_n dX12_swap_6 rfl rfl) ?_
  refine W_bd (ec := gx_eB) (fun r_ μ_ hr_ => s_callV (As := [.int _]) dX12_swap_7 Lk_RX12_510 rfl g_206 (by decide) rfl (Nat.le_of_ble_eq_true rfl) (Nat.le_of_ble_eq_true rfl) (ev_X12_hasSwap p1 μ1 hr_)) (fun r2 μ3 => ?_)
  refine W_ite (fun h4 => ?_) (fun h4 => ?_)
  · refine W_s (s_if_ne_t dX12_swap_10 rfl (gx_bt h4)) ?_
    refine W_s (s_iload_n dX12_swap_17 rfl rfl) ?_
    refine W_s (s_bipush dX12_swap_18 kcb_10) ?_
    refine W_s (s_irem dX12_swap_20 (by decide)) ?_
    refine W_letI (fun x5 => ?_)
    refine W_s (s_istore_n dX12_swap_21 rfl (Nat.le_of_ble_eq_true rfl)) ?_
    refine W_s (s_iload_n dX12_swap_22 rfl rfl) ?_
    refine W_s (s_bipush dX12_swap_23 kcb_10) ?_
    refine W_s (s_bipush dX12_swap_25 kcb_29) ?_
    refine W_s (s_callS (As := [.int _, .int _, .int _]) dX12_swap_27 Lk_RX12_112 rfl (Nat.le_of_ble_eq_true rfl) (Nat.le_of_ble_eq_true rfl) (ev_X12_in p2 10 29 μ3)) ?_
    refine W_ite (fun h6 => ?_) (fun h6 => ?_)
    · refine W_s (s_if_eq_f dX12_swap_30 rfl (gx_bt h6)) ?_
      refine W_s (s_iload_n dX12_swap_33 rfl rfl) ?_
      refine W_s (s_aload_n dX12_swap_34 rfl rfl) ?_
      refine W_s (gf_RX12_492 rfl dX12_swap_35) ?_
      refine W_ite (fun h7 => ?_) (fun h7 => ?_)
      · refine W_s (s_icmp_lt_t dX12_swap_38 rfl h7) ?_
        refine W_s (s_iload_n dX12_swap_47 rfl rfl) ?_
        refine W_s (s_bipush dX12_swap_48 kcb_20) ?_
        refine W_ite (fun h8 => ?_) (fun h8 => ?_)
        · refine W_s (s_icmp_ge_t dX12_swap_50 rfl h8) ?_
          refine W_s (s_aload_n dX12_swap_62 rfl rfl) ?_
          refine W_s (gf_RX12_91 rfl dX12_swap_63) ?_
          refine W_s (s_iload_n dX12_swap_66 rfl rfl) ?_
          refine W_ck (fun h9 => ?_)
          refine W_s (s_iald dX12_swap_67 g_233 (gx_ixv h9)) ?_
          exact W_r (r := (μ3.1 233 x5.toNatClampNeg)) (f_int (ty := .int) dX12_swap_68 rfl rfl)
        · refine W_s (s_icmp_ge_f dX12_swap_50 rfl h8) ?_
          refine W_s (s_aload_n dX12_swap_53 rfl rfl) ?_
          refine W_s (gf_RX12_88 rfl dX12_swap_54) ?_
          refine W_s (s_iload_n dX12_swap_57 rfl rfl) ?_
          refine W_ck (fun h10 => ?_)
          refine W_s (s_iald dX12_swap_58 g_232 (gx_ixv h10)) ?_
          refine W_s (s_goto dX12_swap_59 rfl) ?_
          exact W_r (r := (μ3.1 232 x5.toNatClampNeg)) (f_int (ty := .int) dX12_swap_68 rfl rfl)
      · refine W_s (s_icmp_lt_f dX12_swap_38 rfl h7) ?_
        refine W_s (s_sipush dX12_swap_41 kcs_m1000) ?_
        refine W_s (s_goto dX12_swap_44 rfl) ?_
        exact W_r (r := (-1000)) (f_int (ty := .int) dX12_swap_68 rfl rfl)
    · refine W_s (s_if_eq_t dX12_swap_30 rfl (gx_bf h6)) ?_
      refine W_s (s_iload_n dX12_swap_69 rfl rfl) ?_
      refine W_s (s_bipush dX12_swap_70 kcb_100) ?_
      refine W_s (s_sipush dX12_swap_72 kcs_135) ?_
      refine W_s (s_callS (As := [.int _, .int _, .int _]) dX12_swap_75 Lk_RX12_112 rfl (Nat.le_of_ble_eq_true rfl) (Nat.le_of_ble_eq_true rfl) (ev_X12_in p2 100 135 μ3)) ?_
      refine W_ite (fun h11 => ?_) (fun h11 => ?_)
      · refine W_s (s_if_eq_f dX12_swap_78 rfl (gx_bt h11)) ?_
        refine W_s (s_iload_n dX12_swap_81 rfl rfl) ?_
        refine W_s (s_bipush dX12_swap_82 kcb_100) ?_
        refine W_s (s_isub dX12_swap_84) ?_
        refine W_s (s_bipush dX12_swap_85 kcb_6) ?_
        refine W_s (s_idiv dX12_swap_87 (by decide)) ?_
        refine W_letI (fun x12 => ?_)
        refine W_s (s_istore dX12_swap_88 (Nat.le_of_ble_eq_true rfl)) ?_
        refine W_s (s_iload_n dX12_swap_90 rfl rfl) ?_
        refine W_s (s_bipush dX12_swap_91 kcb_100) ?_
        refine W_s (s_isub dX12_swap_93) ?_
        refine W_s (s_bipush dX12_swap_94 kcb_6) ?_
        refine W_s (s_irem dX12_swap_96 (by decide)) ?_
        refine W_letI (fun x13 => ?_)
        refine W_s (s_istore dX12_swap_97 (Nat.le_of_ble_eq_true rfl)) ?_
        refine W_s (s_iload dX12_swap_99 rfl) ?_
        refine W_s (s_aload_n dX12_swap_101 rfl rfl) ?_
        refine W_s (gf_RX12_492 rfl dX12_swap_102) ?_
        refine W_ite (fun h14 => ?_) (fun h14 => ?_)
        · refine W_s (s_icmp_ge_t dX12_swap_105 rfl h14) ?_
          refine W_s (s_sipush dX12_swap_128 kcs_m1000) ?_
          exact W_r (r := (-1000)) (f_int (ty := .int) dX12_swap_131 rfl rfl)
        · refine W_s (s_icmp_ge_f dX12_swap_105 rfl h14) ?_
          refine W_s (s_iload dX12_swap_108 rfl) ?_
          refine W_s (s_aload_n dX12_swap_110 rfl rfl) ?_
          refine W_s (gf_RX12_492 rfl dX12_swap_111) ?_
          refine W_ite (fun h15 => ?_) (fun h15 => ?_)
          · refine W_s (s_icmp_ge_t dX12_swap_114 rfl h15) ?_
            refine W_s (s_sipush dX12_swap_128 kcs_m1000) ?_
            exact W_r (r := (-1000)) (f_int (ty := .int) dX12_swap_131 rfl rfl)
          · refine W_s (s_icmp_ge_f dX12_swap_114 rfl h15) ?_
            refine W_s (s_aload_n dX12_swap_117 rfl rfl) ?_
            refine W_s (s_iload dX12_swap_118 rfl) ?_
            refine W_s (s_iload dX12_swap_120 rfl) ?_
            refine W_br (ec := gx_eI) (fun r_ hr_ => s_callV (As := [.int _, .int _]) dX12_swap_122 Lk_RX12_501 rfl g_206 (by decide) rfl (Nat.le_of_ble_eq_true rfl) (Nat.le_of_ble_eq_true rfl) (ev_X12_worthTo x12 x13 μ3 hr_)) (fun r16 => ?_)
            refine W_s (s_goto dX12_swap_125 rfl) ?_
            exact W_r (r := r16) (f_int (ty := .int) dX12_swap_131 rfl rfl)
      · refine W_s (s_if_eq_t dX12_swap_78 rfl (gx_bf h11)) ?_
        refine W_s (s_iload_n dX12_swap_132 rfl rfl) ?_
        refine W_ite (fun h17 => ?_) (fun h17 => ?_)
        · refine W_s (s_if_ne_f dX12_swap_133 rfl h17) ?_
          refine W_s (s_aload_n dX12_swap_136 rfl rfl) ?_
          refine W_s (gf_RX12_492 rfl dX12_swap_137) ?_
          refine W_s (s_goto dX12_swap_140 rfl) ?_
          exact W_r (r := (μ3.1 206 50)) (f_int (ty := .int) dX12_swap_170 rfl rfl)
        · refine W_s (s_if_ne_t dX12_swap_133 rfl h17) ?_
          refine W_s (s_iload_n dX12_swap_143 rfl rfl) ?_
          refine W_s (s_iconst dX12_swap_144 kci_1) ?_
          refine W_ite (fun h18 => ?_) (fun h18 => ?_)
          · refine W_s (s_icmp_ne_f dX12_swap_145 rfl h18) ?_
            refine W_s (s_aload_n dX12_swap_148 rfl rfl) ?_
            refine W_br (ec := gx_eI) (fun r_ hr_ => s_callV (As := []) dX12_swap_149 Lk_RX12_513 rfl g_206 (by decide) rfl (Nat.le_of_ble_eq_true rfl) (Nat.le_of_ble_eq_true rfl) (ev_X12_gain μ3 hr_)) (fun r20 => ?_)
            refine W_s (s_goto dX12_swap_152 rfl) ?_
            exact W_r (r := r20) (f_int (ty := .int) dX12_swap_170 rfl rfl)
          · refine W_s (s_icmp_ne_t dX12_swap_145 rfl h18) ?_
            refine W_s (s_iload_n dX12_swap_155 rfl rfl) ?_
            refine W_s (s_iconst dX12_swap_156 kci_2) ?_
            refine W_ite (fun h19 => ?_) (fun h19 => ?_)
            · refine W_s (s_icmp_ne_f dX12_swap_157 rfl h19) ?_
              refine W_s (s_aload_n dX12_swap_160 rfl rfl) ?_
              refine W_s (gf_RX12_495 rfl dX12_swap_161) ?_
              refine W_s (s_goto dX12_swap_164 rfl) ?_
              exact W_r (r := (μ3.1 206 51)) (f_int (ty := .int) dX12_swap_170 rfl rfl)
            · refine W_s (s_icmp_ne_t dX12_swap_157 rfl h19) ?_
              refine W_s (s_sipush dX12_swap_167 kcs_m1000) ?_
              exact W_r (r := (-1000)) (f_int (ty := .int) dX12_swap_170 rfl rfl)
  · refine W_s (s_if_ne_f dX12_swap_10 rfl (gx_bf h4)) ?_
    refine W_s (s_sipush dX12_swap_13 kcs_m1000) ?_
    exact W_r (r := (-1000)) (f_int (ty := .int) dX12_swap_16 rfl rfl)

def f_X12_robbed (p1 : Int32) (p2 : Int32) (p3 : Int32) (μ : gx_M) : Option (Int32 × gx_M) := gx_lt (gx_uI μ 206 0 0) (fun (μ1 : gx_M) => gx_bd (f_X12_hand p1 μ1) (fun (r2 : Bool) (μ3 : gx_M) => if r2 = true then if (f_X12_isPerson p2 μ3) = true then gx_br (f_X12_handsOf p2 μ3) (fun (r6 : Int64) => gx_bd (f_X12_findRuns 0 r6 μ3) (fun (r7 : Unit) (μ8 : gx_M) => gx_br (f_X12_handsOf p2 μ8) (fun (r9 : Int64) => gx_bd (f_X12_hitOf r9 p3 μ8) (fun (r10 : Int32) (μ11 : gx_M) => some (r10, μ11))))) else some ((-1), μ3) else some ((-1), μ3)))
theorem ev_X12_robbed {E : gx_E} {l : Launch} (p1 : Int32) (p2 : Int32) (p3 : Int32) (μ : gx_M) {r : Int32} {μ' : gx_M} (hr : f_X12_robbed p1 p2 p3 μ = some (r, μ')) : gEv E l 4 Y_X12_robbed [.ref (E.2.2.1 + 206), .int p1, .int p2, .int p3] gx_G1 μ (gx_eI r) gx_G1 μ' := by
  refine W_ev (by decide) (Nat.le_of_ble_eq_true rfl) (em := gx_eI) (T := f_X12_robbed p1 p2 p3 μ) ?_ hr
  show GoW E l Y_X12_robbed 4 gx_eI 0 (gx_el [.ref (E.2.2.1 + 206), .int p1, .int p2, .int p3]) [] μ (f_X12_robbed p1 p2 p3 μ)
  unfold f_X12_robbed
  refine W_s (s_aload_n dX12_robbed_0 rfl rfl) ?_
  refine W_s (s_iconst dX12_robbed_1 kci_0) ?_
  refine W_s (pf_RX12_100 rfl dX12_robbed_2) ?_
  refine W_letM (fun μ1 => ?_)
  refine W_s (s_aload_n dX12_robbed_5 rfl rfl) ?_
  refine W_s (s_iload_n dX12_robbed_6 rfl rfl) ?_
  refine W_bd (ec := gx_eB) (fun r_ μ_ hr_ => s_callV (As := [.int _]) dX12_robbed_7 Lk_RX12_298 rfl g_206 (by decide) rfl (Nat.le_of_ble_eq_true rfl) (Nat.le_of_ble_eq_true rfl) (ev_X12_hand p1 μ1 hr_)) (fun r2 μ3 => ?_)
  refine W_ite (fun h4 => ?_) (fun h4 => ?_)
  · refine W_s (s_if_eq_f dX12_robbed_10 rfl (gx_bt h4)) ?_
    refine W_s (s_aload_n dX12_robbed_13 rfl rfl) ?_
    refine W_s (s_iload_n dX12_robbed_14 rfl rfl) ?_
    refine W_s (s_callV (As := [.int _]) dX12_robbed_15 Lk_RX12_316 rfl g_206 (by decide) rfl (Nat.le_of_ble_eq_true rfl) (Nat.le_of_ble_eq_true rfl) (ev_X12_isPerson p2 μ3)) ?_
    refine W_ite (fun h5 => ?_) (fun h5 => ?_)
    · refine W_s (s_if_ne_t dX12_robbed_18 rfl (gx_bt h5)) ?_
      refine W_s (s_aload_n dX12_robbed_23 rfl rfl) ?_
      refine W_s (s_lconst dX12_robbed_24 kcl_0) ?_
      refine W_s (s_aload_n dX12_robbed_25 rfl rfl) ?_
      refine W_s (s_iload_n dX12_robbed_26 rfl rfl) ?_
      refine W_br (ec := gx_eL) (fun r_ hr_ => s_callV (As := [.int _]) dX12_robbed_27 Lk_RX12_430 rfl g_206 (by decide) rfl (Nat.le_of_ble_eq_true rfl) (Nat.le_of_ble_eq_true rfl) (ev_X12_handsOf p2 μ3 hr_)) (fun r6 => ?_)
      refine W_bd (ec := gx_eV) (fun r_ μ_ hr_ => s_callV (As := [.long _, .long _]) dX12_robbed_30 Lk_RX12_438 rfl g_206 (by decide) rfl (Nat.le_of_ble_eq_true rfl) (Nat.le_of_ble_eq_true rfl) (ev_X12_findRuns 0 r6 μ3 hr_)) (fun r7 μ8 => ?_)
      refine W_s (s_aload_n dX12_robbed_33 rfl rfl) ?_
      refine W_s (s_aload_n dX12_robbed_34 rfl rfl) ?_
      refine W_s (s_iload_n dX12_robbed_35 rfl rfl) ?_
      refine W_br (ec := gx_eL) (fun r_ hr_ => s_callV (As := [.int _]) dX12_robbed_36 Lk_RX12_430 rfl g_206 (by decide) rfl (Nat.le_of_ble_eq_true rfl) (Nat.le_of_ble_eq_true rfl) (ev_X12_handsOf p2 μ8 hr_)) (fun r9 => ?_)
      refine W_s (s_iload_n dX12_robbed_39 rfl rfl) ?_
      refine W_bd (ec := gx_eI) (fun r_ μ_ hr_ => s_callV (As := [.long _, .int _]) dX12_robbed_40 Lk_RX12_442 rfl g_206 (by decide) rfl (Nat.le_of_ble_eq_true rfl) (Nat.le_of_ble_eq_true rfl) (ev_X12_hitOf r9 p3 μ8 hr_)) (fun r10 μ11 => ?_)
      exact W_r (r := r10) (f_int (ty := .int) dX12_robbed_43 rfl rfl)
    · refine W_s (s_if_ne_f dX12_robbed_18 rfl (gx_bf h5)) ?_
      refine W_s (s_iconst dX12_robbed_21 kci_m1) ?_
      exact W_r (r := (-1)) (f_int (ty := .int) dX12_robbed_22 rfl rfl)
  · refine W_s (s_if_eq_t dX12_robbed_10 rfl (gx_bf h4)) ?_
    refine W_s (s_iconst dX12_robbed_21 kci_m1) ?_
    exact W_r (r := (-1)) (f_int (ty := .int) dX12_robbed_22 rfl rfl)

def L_X12_shared_42 (p2 : Int32) (p3 : Int32) (k11 : Int32 → gx_M → Option (Int32 × gx_M)) : Nat → Int32 → Int32 → gx_M → Option (Int32 × gx_M)
  | 0, _, _, _ => none
  | n + 1, v4_8, v5_9, μ10 => if (μ10.1 206 27) ≤ v5_9 then k11 v4_8 μ10 else gx_br (f_X12_handsOf p2 μ10) (fun (r13 : Int64) => gx_br (f_X12_handsOf p3 μ10) (fun (r14 : Int64) => gx_br (f_X12_anyRun v5_9 (r13 ||| r14) μ10) (fun (r15 : Bool) => gx_lt (fun (j0_26 : Bool) (μ27 : gx_M) => gx_lt (fun (j0_30 : Int32) (μ31 : gx_M) => gx_lt (v4_8 ||| j0_30) (fun (x32 : Int32) => L_X12_shared_42 p2 p3 k11 n x32 (v5_9 + 1) μ31)) (fun J28 => if j0_26 = true then J28 ((1 : Int32) <<< (v5_9 &&& 31)) μ27 else J28 0 μ27)) (fun J16 => gx_lt (fun (μ25 : gx_M) => J16 false μ25) (fun J17 => if r15 = true then gx_br (f_X12_handsOf p2 μ10) (fun (r19 : Int64) => gx_br (f_X12_anyRun v5_9 r19 μ10) (fun (r20 : Bool) => if r20 = true then J17 μ10 else gx_br (f_X12_handsOf p3 μ10) (fun (r22 : Int64) => gx_br (f_X12_anyRun v5_9 r22 μ10) (fun (r23 : Bool) => if r23 = true then J17 μ10 else J16 true μ10)))) else J17 μ10)))))
def f_X12_shared (p1 : Int32) (p2 : Int32) (p3 : Int32) (μ : gx_M) : Option (Int32 × gx_M) := gx_lt (gx_uI μ 206 0 0) (fun (μ1 : gx_M) => gx_bd (f_X12_hand p1 μ1) (fun (r2 : Bool) (μ3 : gx_M) => if r2 = true then if (f_X12_isPerson p2 μ3) = true then if (f_X12_isPerson p3 μ3) = true then if p2 = p3 then some ((-1), μ3) else L_X12_shared_42 p2 p3 (fun (x4_35 : Int32) (μ36 : gx_M) => some (x4_35, μ36)) 4000 0 0 μ3 else some ((-1), μ3) else some ((-1), μ3) else some ((-1), μ3)))
theorem okL_X12_shared_42 {E : gx_E} {l : Launch} {p2 : Int32} {p3 : Int32} {k11 : Int32 → gx_M → Option (Int32 × gx_M)} (hk : ∀ (w33 : Int32) (μ34 : gx_M), GoW E l Y_X12_shared 4 gx_eI 130 [none, none, none, none, some (.int w33)] [] μ34 (k11 w33 μ34)) : ∀ (n : Nat) (v4_8 : Int32) (v5_9 : Int32) (μ10 : gx_M), GoW E l Y_X12_shared 4 gx_eI 42 [some (.ref (E.2.2.1 + 206)), none, some (.int p2), some (.int p3), some (.int v4_8), some (.int v5_9)] [] μ10 (L_X12_shared_42 p2 p3 k11 n v4_8 v5_9 μ10) := by
  intro n
  induction n with
  | zero => intros; exact W_no
  | succ n ih =>
    intro v4_8 v5_9 μ10
    rw [L_X12_shared_42.eq_2]
    refine W_s (s_iload dX12_shared_42 rfl) ?_
    refine W_s (s_aload_n dX12_shared_44 rfl rfl) ?_
    refine W_s (gf_RX12_289 rfl dX12_shared_45) ?_
    refine W_ite (fun h12 => ?_) (fun h12 => ?_)
    · refine W_s (s_icmp_ge_t dX12_shared_48 rfl h12) ?_
      exact W_wk (hk v4_8 μ10) (le_o (le_o (le_o (le_o (le_s rfl le_n)))))
    · refine W_s (s_icmp_ge_f dX12_shared_48 rfl h12) ?_
      refine W_s (s_aload_n dX12_shared_51 rfl rfl) ?_
      refine W_s (s_iload dX12_shared_52 rfl) ?_
      refine W_s (s_aload_n dX12_shared_54 rfl rfl) ?_
      refine W_s (s_iload_n dX12_shared_55 rfl rfl) ?_
      refine W_br (ec := gx_eL) (fun r_ hr_ => s_callV (As := [.int _]) dX12_shared_56 Lk_RX12_430 rfl g_206 (by decide) rfl (Nat.le_of_ble_eq_true rfl) (Nat.le_of_ble_eq_true rfl) (ev_X12_handsOf p2 μ10 hr_)) (fun r13 => ?_)
      refine W_s (s_aload_n dX12_shared_59 rfl rfl) ?_
      refine W_s (s_iload_n dX12_shared_60 rfl rfl) ?_
      refine W_br (ec := gx_eL) (fun r_ hr_ => s_callV (As := [.int _]) dX12_shared_61 Lk_RX12_430 rfl g_206 (by decide) rfl (Nat.le_of_ble_eq_true rfl) (Nat.le_of_ble_eq_true rfl) (ev_X12_handsOf p3 μ10 hr_)) (fun r14 => ?_)
      refine W_s (s_lor dX12_shared_64) ?_
      refine W_br (ec := gx_eB) (fun r_ hr_ => s_callV (As := [.int _, .long _]) dX12_shared_65 Lk_RX12_526 rfl g_206 (by decide) rfl (Nat.le_of_ble_eq_true rfl) (Nat.le_of_ble_eq_true rfl) (ev_X12_anyRun v5_9 (r13 ||| r14) μ10 hr_)) (fun r15 => ?_)
      refine W_fun (fun J => ∀ (j0_26 : Bool) (μ27 : gx_M), GoW E l Y_X12_shared 4 gx_eI 104 [some (.ref (E.2.2.1 + 206)), none, some (.int p2), some (.int p3), some (.int v4_8), some (.int v5_9)] [.int (gx_bi j0_26)] μ27 (J j0_26 μ27)) ?_ (fun J16 hJ16 => ?_)
      · intro j0_26 μ27
        refine W_s (s_istore dX12_shared_104 (Nat.le_of_ble_eq_true rfl)) ?_
        refine W_s (s_iload dX12_shared_106 rfl) ?_
        refine W_s (s_iload dX12_shared_108 rfl) ?_
        refine W_fun (fun J => ∀ (j0_30 : Int32) (μ31 : gx_M), GoW E l Y_X12_shared 4 gx_eI 121 [some (.ref (E.2.2.1 + 206)), none, some (.int p2), some (.int p3), none, some (.int v5_9)] [.int j0_30, .int v4_8] μ31 (J j0_30 μ31)) ?_ (fun J28 hJ28 => ?_)
        · intro j0_30 μ31
          refine W_s (s_ior dX12_shared_121) ?_
          refine W_letI (fun x32 => ?_)
          refine W_s (s_istore dX12_shared_122 (Nat.le_of_ble_eq_true rfl)) ?_
          refine W_s (s_iinc dX12_shared_124 rfl (kinc_1 v5_9) (Nat.le_of_ble_eq_true rfl)) ?_
          refine W_s (s_goto dX12_shared_127 rfl) ?_
          exact W_wk (ih x32 (v5_9 + 1) μ31) (le_s rfl (le_o (le_s rfl (le_s rfl (le_s rfl (le_s rfl le_n))))))
        · skip
          refine W_ite (fun h29 => ?_) (fun h29 => ?_)
          · refine W_s (s_if_eq_f dX12_shared_110 rfl (gx_bt h29)) ?_
            refine W_s (s_iconst dX12_shared_113 kci_1) ?_
            refine W_s (s_iload dX12_shared_114 rfl) ?_
            refine W_s (s_ishl dX12_shared_116) ?_
            refine W_s (s_goto dX12_shared_117 rfl) ?_
            exact W_wk (hJ28 ((1 : Int32) <<< (v5_9 &&& 31)) μ27) (le_s rfl (le_o (le_s rfl (le_s rfl (le_o (le_s rfl le_n))))))
          · refine W_s (s_if_eq_t dX12_shared_110 rfl (gx_bf h29)) ?_
            refine W_s (s_iconst dX12_shared_120 kci_0) ?_
            exact W_wk (hJ28 0 μ27) (le_s rfl (le_o (le_s rfl (le_s rfl (le_o (le_s rfl le_n))))))
      · skip
        refine W_fun (fun J => ∀ (μ25 : gx_M), GoW E l Y_X12_shared 4 gx_eI 103 [some (.ref (E.2.2.1 + 206)), none, some (.int p2), some (.int p3), some (.int v4_8), some (.int v5_9)] [] μ25 (J μ25)) ?_ (fun J17 hJ17 => ?_)
        · intro μ25
          refine W_s (s_iconst dX12_shared_103 kci_0) ?_
          exact W_wk (hJ16 false μ25) (le_s rfl (le_o (le_s rfl (le_s rfl (le_s rfl (le_s rfl le_n))))))
        · skip
          refine W_ite (fun h18 => ?_) (fun h18 => ?_)
          · refine W_s (s_if_eq_f dX12_shared_68 rfl (gx_bt h18)) ?_
            refine W_s (s_aload_n dX12_shared_71 rfl rfl) ?_
            refine W_s (s_iload dX12_shared_72 rfl) ?_
            refine W_s (s_aload_n dX12_shared_74 rfl rfl) ?_
            refine W_s (s_iload_n dX12_shared_75 rfl rfl) ?_
            refine W_br (ec := gx_eL) (fun r_ hr_ => s_callV (As := [.int _]) dX12_shared_76 Lk_RX12_430 rfl g_206 (by decide) rfl (Nat.le_of_ble_eq_true rfl) (Nat.le_of_ble_eq_true rfl) (ev_X12_handsOf p2 μ10 hr_)) (fun r19 => ?_)
            refine W_br (ec := gx_eB) (fun r_ hr_ => s_callV (As := [.int _, .long _]) dX12_shared_79 Lk_RX12_526 rfl g_206 (by decide) rfl (Nat.le_of_ble_eq_true rfl) (Nat.le_of_ble_eq_true rfl) (ev_X12_anyRun v5_9 r19 μ10 hr_)) (fun r20 => ?_)
            refine W_ite (fun h21 => ?_) (fun h21 => ?_)
            · refine W_s (s_if_ne_t dX12_shared_82 rfl (gx_bt h21)) ?_
              exact W_wk (hJ17 μ10) (le_s rfl (le_o (le_s rfl (le_s rfl (le_s rfl (le_s rfl le_n))))))
            · refine W_s (s_if_ne_f dX12_shared_82 rfl (gx_bf h21)) ?_
              refine W_s (s_aload_n dX12_shared_85 rfl rfl) ?_
              refine W_s (s_iload dX12_shared_86 rfl) ?_
              refine W_s (s_aload_n dX12_shared_88 rfl rfl) ?_
              refine W_s (s_iload_n dX12_shared_89 rfl rfl) ?_
              refine W_br (ec := gx_eL) (fun r_ hr_ => s_callV (As := [.int _]) dX12_shared_90 Lk_RX12_430 rfl g_206 (by decide) rfl (Nat.le_of_ble_eq_true rfl) (Nat.le_of_ble_eq_true rfl) (ev_X12_handsOf p3 μ10 hr_)) (fun r22 => ?_)
              refine W_br (ec := gx_eB) (fun r_ hr_ => s_callV (As := [.int _, .long _]) dX12_shared_93 Lk_RX12_526 rfl g_206 (by decide) rfl (Nat.le_of_ble_eq_true rfl) (Nat.le_of_ble_eq_true rfl) (ev_X12_anyRun v5_9 r22 μ10 hr_)) (fun r23 => ?_)
              refine W_ite (fun h24 => ?_) (fun h24 => ?_)
              · refine W_s (s_if_ne_t dX12_shared_96 rfl (gx_bt h24)) ?_
                exact W_wk (hJ17 μ10) (le_s rfl (le_o (le_s rfl (le_s rfl (le_s rfl (le_s rfl le_n))))))
              · refine W_s (s_if_ne_f dX12_shared_96 rfl (gx_bf h24)) ?_
                refine W_s (s_iconst dX12_shared_99 kci_1) ?_
                refine W_s (s_goto dX12_shared_100 rfl) ?_
                exact W_wk (hJ16 true μ10) (le_s rfl (le_o (le_s rfl (le_s rfl (le_s rfl (le_s rfl le_n))))))
          · refine W_s (s_if_eq_t dX12_shared_68 rfl (gx_bf h18)) ?_
            exact W_wk (hJ17 μ10) (le_s rfl (le_o (le_s rfl (le_s rfl (le_s rfl (le_s rfl le_n))))))
theorem ev_X12_shared {E : gx_E} {l : Launch} (p1 : Int32) (p2 : Int32) (p3 : Int32) (μ : gx_M) {r : Int32} {μ' : gx_M} (hr : f_X12_shared p1 p2 p3 μ = some (r, μ')) : gEv E l 4 Y_X12_shared [.ref (E.2.2.1 + 206), .int p1, .int p2, .int p3] gx_G1 μ (gx_eI r) gx_G1 μ' := by
  refine W_ev (by decide) (Nat.le_of_ble_eq_true rfl) (em := gx_eI) (T := f_X12_shared p1 p2 p3 μ) ?_ hr
  show GoW E l Y_X12_shared 4 gx_eI 0 (gx_el [.ref (E.2.2.1 + 206), .int p1, .int p2, .int p3]) [] μ (f_X12_shared p1 p2 p3 μ)
  unfold f_X12_shared
  refine W_s (s_aload_n dX12_shared_0 rfl rfl) ?_
  refine W_s (s_iconst dX12_shared_1 kci_0) ?_
  refine W_s (pf_RX12_100 rfl dX12_shared_2) ?_
  refine W_letM (fun μ1 => ?_)
  refine W_s (s_aload_n dX12_shared_5 rfl rfl) ?_
  refine W_s (s_iload_n dX12_shared_6 rfl rfl) ?_
  refine W_bd (ec := gx_eB) (fun r_ μ_ hr_ => s_callV (As := [.int _]) dX12_shared_7 Lk_RX12_298 rfl g_206 (by decide) rfl (Nat.le_of_ble_eq_true rfl) (Nat.le_of_ble_eq_true rfl) (ev_X12_hand p1 μ1 hr_)) (fun r2 μ3 => ?_)
  refine W_ite (fun h4 => ?_) (fun h4 => ?_)
  · refine W_s (s_if_eq_f dX12_shared_10 rfl (gx_bt h4)) ?_
    refine W_s (s_aload_n dX12_shared_13 rfl rfl) ?_
    refine W_s (s_iload_n dX12_shared_14 rfl rfl) ?_
    refine W_s (s_callV (As := [.int _]) dX12_shared_15 Lk_RX12_316 rfl g_206 (by decide) rfl (Nat.le_of_ble_eq_true rfl) (Nat.le_of_ble_eq_true rfl) (ev_X12_isPerson p2 μ3)) ?_
    refine W_ite (fun h5 => ?_) (fun h5 => ?_)
    · refine W_s (s_if_eq_f dX12_shared_18 rfl (gx_bt h5)) ?_
      refine W_s (s_aload_n dX12_shared_21 rfl rfl) ?_
      refine W_s (s_iload_n dX12_shared_22 rfl rfl) ?_
      refine W_s (s_callV (As := [.int _]) dX12_shared_23 Lk_RX12_316 rfl g_206 (by decide) rfl (Nat.le_of_ble_eq_true rfl) (Nat.le_of_ble_eq_true rfl) (ev_X12_isPerson p3 μ3)) ?_
      refine W_ite (fun h6 => ?_) (fun h6 => ?_)
      · refine W_s (s_if_eq_f dX12_shared_26 rfl (gx_bt h6)) ?_
        refine W_s (s_iload_n dX12_shared_29 rfl rfl) ?_
        refine W_s (s_iload_n dX12_shared_30 rfl rfl) ?_
        refine W_ite (fun h7 => ?_) (fun h7 => ?_)
        · refine W_s (s_icmp_ne_f dX12_shared_31 rfl h7) ?_
          refine W_s (s_iconst dX12_shared_34 kci_m1) ?_
          exact W_r (r := (-1)) (f_int (ty := .int) dX12_shared_35 rfl rfl)
        · refine W_s (s_icmp_ne_t dX12_shared_31 rfl h7) ?_
          refine W_s (s_iconst dX12_shared_36 kci_0) ?_
          refine W_s (s_istore dX12_shared_37 (Nat.le_of_ble_eq_true rfl)) ?_
          refine W_s (s_iconst dX12_shared_39 kci_0) ?_
          refine W_s (s_istore dX12_shared_40 (Nat.le_of_ble_eq_true rfl)) ?_
          refine W_wk (okL_X12_shared_42 ?_ 4000 0 0 μ3) (le_s rfl (le_o (le_s rfl (le_s rfl (le_s rfl (le_s rfl le_n))))))
          intro x4_35 μ36
          refine W_s (s_iload dX12_shared_130 rfl) ?_
          exact W_r (r := x4_35) (f_int (ty := .int) dX12_shared_132 rfl rfl)
      · refine W_s (s_if_eq_t dX12_shared_26 rfl (gx_bf h6)) ?_
        refine W_s (s_iconst dX12_shared_34 kci_m1) ?_
        exact W_r (r := (-1)) (f_int (ty := .int) dX12_shared_35 rfl rfl)
    · refine W_s (s_if_eq_t dX12_shared_18 rfl (gx_bf h5)) ?_
      refine W_s (s_iconst dX12_shared_34 kci_m1) ?_
      exact W_r (r := (-1)) (f_int (ty := .int) dX12_shared_35 rfl rfl)
  · refine W_s (s_if_eq_t dX12_shared_10 rfl (gx_bf h4)) ?_
    refine W_s (s_iconst dX12_shared_34 kci_m1) ?_
    exact W_r (r := (-1)) (f_int (ty := .int) dX12_shared_35 rfl rfl)

def L_X12_wanted_48 (v5_9 : Int32) (k16 : Int32 → gx_M → Option (Int32 × gx_M)) : Nat → Int32 → Int32 → gx_M → Option (Int32 × gx_M)
  | 0, _, _, _ => none
  | n + 1, v6_13, v7_14, μ15 => if (μ15.1 206 44) ≤ v7_14 then k16 v6_13 μ15 else gx_ck (gx_ix v7_14 240 = true) (gx_lt (fun (j0_21 : Bool) (μ22 : gx_M) => gx_lt (v6_13 + (gx_bi j0_21)) (fun (x23 : Int32) => L_X12_wanted_48 v5_9 k16 n x23 (v7_14 + 1) μ22)) (fun J19 => if (f_X12_hasBit (μ15.2 229 v7_14.toNatClampNeg) v5_9) = true then J19 true μ15 else J19 false μ15))
def L_X12_wanted_33 (k11 : Int32 → Int32 → gx_M → Option (Int32 × gx_M)) : Nat → Int32 → Int32 → Int32 → gx_M → Option (Int32 × gx_M)
  | 0, _, _, _, _ => none
  | n + 1, v3_7, v4_8, v5_9, μ10 => if (μ10.1 206 25) ≤ v5_9 then k11 v3_7 v4_8 μ10 else L_X12_wanted_48 v5_9 (fun (x6_26 : Int32) (μ27 : gx_M) => gx_lt (fun (j0_30 : Int32) (μ31 : gx_M) => gx_lt (f_X12_greater v4_8 x6_26) (fun (x32 : Int32) => L_X12_wanted_33 k11 n j0_30 x32 (v5_9 + 1) μ31)) (fun J28 => if x6_26 ≤ v4_8 then J28 v3_7 μ27 else J28 v5_9 μ27)) 4000 0 0 μ10
def f_X12_wanted (p1 : Int32) (p2 : Bool) (μ : gx_M) : Option (Int32 × gx_M) := gx_lt (gx_uI μ 206 0 0) (fun (μ1 : gx_M) => gx_bd (f_X12_hand p1 μ1) (fun (r2 : Bool) (μ3 : gx_M) => if r2 = true then gx_bd (f_X12_findRuns 0 (f_X12_allMinutes μ3) μ3) (fun (r5 : Unit) (μ6 : gx_M) => L_X12_wanted_33 (fun (x3_36 : Int32) (x4_37 : Int32) (μ38 : gx_M) => if p2 = true then some (x4_37, μ38) else some (x3_36, μ38)) 4000 (-1) 0 0 μ6) else some ((-2), μ3)))
theorem okL_X12_wanted_48 {E : gx_E} {l : Launch} {v5_9 : Int32} {p2 : Bool} {v3_7 : Int32} {v4_8 : Int32} {k16 : Int32 → gx_M → Option (Int32 × gx_M)} (hk : ∀ (w24 : Int32) (μ25 : gx_M), GoW E l Y_X12_wanted 4 gx_eI 88 [some (.ref (E.2.2.1 + 206)), none, some (.int (gx_bi p2)), some (.int v3_7), some (.int v4_8), some (.int v5_9), some (.int w24)] [] μ25 (k16 w24 μ25)) : ∀ (n : Nat) (v6_13 : Int32) (v7_14 : Int32) (μ15 : gx_M), GoW E l Y_X12_wanted 4 gx_eI 48 [some (.ref (E.2.2.1 + 206)), none, some (.int (gx_bi p2)), some (.int v3_7), some (.int v4_8), some (.int v5_9), some (.int v6_13), some (.int v7_14)] [] μ15 (L_X12_wanted_48 v5_9 k16 n v6_13 v7_14 μ15) := by
  intro n
  induction n with
  | zero => intros; exact W_no
  | succ n ih =>
    intro v6_13 v7_14 μ15
    rw [L_X12_wanted_48.eq_2]
    refine W_s (s_iload dX12_wanted_48 rfl) ?_
    refine W_s (s_aload_n dX12_wanted_50 rfl rfl) ?_
    refine W_s (gf_RX12_412 rfl dX12_wanted_51) ?_
    refine W_ite (fun h17 => ?_) (fun h17 => ?_)
    · refine W_s (s_icmp_ge_t dX12_wanted_54 rfl h17) ?_
      exact W_wk (hk v6_13 μ15) (le_s rfl (le_o (le_s rfl (le_s rfl (le_s rfl (le_s rfl (le_s rfl le_n)))))))
    · refine W_s (s_icmp_ge_f dX12_wanted_54 rfl h17) ?_
      refine W_s (s_iload dX12_wanted_57 rfl) ?_
      refine W_s (s_aload_n dX12_wanted_59 rfl rfl) ?_
      refine W_s (gf_RX12_78 rfl dX12_wanted_60) ?_
      refine W_s (s_iload dX12_wanted_63 rfl) ?_
      refine W_ck (fun h18 => ?_)
      refine W_s (s_lald dX12_wanted_65 g_229 (gx_ixv h18)) ?_
      refine W_s (s_iload dX12_wanted_66 rfl) ?_
      refine W_s (s_callS (As := [.long _, .int _]) dX12_wanted_68 Lk_RX12_424 rfl (Nat.le_of_ble_eq_true rfl) (Nat.le_of_ble_eq_true rfl) (ev_X12_hasBit (μ15.2 229 v7_14.toNatClampNeg) v5_9 μ15)) ?_
      refine W_fun (fun J => ∀ (j0_21 : Bool) (μ22 : gx_M), GoW E l Y_X12_wanted 4 gx_eI 79 [some (.ref (E.2.2.1 + 206)), none, some (.int (gx_bi p2)), some (.int v3_7), some (.int v4_8), some (.int v5_9), none, some (.int v7_14)] [.int (gx_bi j0_21), .int v6_13] μ22 (J j0_21 μ22)) ?_ (fun J19 hJ19 => ?_)
      · intro j0_21 μ22
        refine W_s (s_iadd dX12_wanted_79) ?_
        refine W_letI (fun x23 => ?_)
        refine W_s (s_istore dX12_wanted_80 (Nat.le_of_ble_eq_true rfl)) ?_
        refine W_s (s_iinc dX12_wanted_82 rfl (kinc_1 v7_14) (Nat.le_of_ble_eq_true rfl)) ?_
        refine W_s (s_goto dX12_wanted_85 rfl) ?_
        exact W_wk (ih x23 (v7_14 + 1) μ22) (le_s rfl (le_o (le_s rfl (le_s rfl (le_s rfl (le_s rfl (le_s rfl (le_s rfl le_n))))))))
      · skip
        refine W_ite (fun h20 => ?_) (fun h20 => ?_)
        · refine W_s (s_if_eq_f dX12_wanted_71 rfl (gx_bt h20)) ?_
          refine W_s (s_iconst dX12_wanted_74 kci_1) ?_
          refine W_s (s_goto dX12_wanted_75 rfl) ?_
          exact W_wk (hJ19 true μ15) (le_s rfl (le_o (le_s rfl (le_s rfl (le_s rfl (le_s rfl (le_o (le_s rfl le_n))))))))
        · refine W_s (s_if_eq_t dX12_wanted_71 rfl (gx_bf h20)) ?_
          refine W_s (s_iconst dX12_wanted_78 kci_0) ?_
          exact W_wk (hJ19 false μ15) (le_s rfl (le_o (le_s rfl (le_s rfl (le_s rfl (le_s rfl (le_o (le_s rfl le_n))))))))
theorem okL_X12_wanted_33 {E : gx_E} {l : Launch} {p2 : Bool} {k11 : Int32 → Int32 → gx_M → Option (Int32 × gx_M)} (hk : ∀ (w33 : Int32) (w34 : Int32) (μ35 : gx_M), GoW E l Y_X12_wanted 4 gx_eI 117 [none, none, some (.int (gx_bi p2)), some (.int w33), some (.int w34)] [] μ35 (k11 w33 w34 μ35)) : ∀ (n : Nat) (v3_7 : Int32) (v4_8 : Int32) (v5_9 : Int32) (μ10 : gx_M), GoW E l Y_X12_wanted 4 gx_eI 33 [some (.ref (E.2.2.1 + 206)), none, some (.int (gx_bi p2)), some (.int v3_7), some (.int v4_8), some (.int v5_9)] [] μ10 (L_X12_wanted_33 k11 n v3_7 v4_8 v5_9 μ10) := by
  intro n
  induction n with
  | zero => intros; exact W_no
  | succ n ih =>
    intro v3_7 v4_8 v5_9 μ10
    rw [L_X12_wanted_33.eq_2]
    refine W_s (s_iload dX12_wanted_33 rfl) ?_
    refine W_s (s_aload_n dX12_wanted_35 rfl rfl) ?_
    refine W_s (gf_RX12_283 rfl dX12_wanted_36) ?_
    refine W_ite (fun h12 => ?_) (fun h12 => ?_)
    · refine W_s (s_icmp_ge_t dX12_wanted_39 rfl h12) ?_
      exact W_wk (hk v3_7 v4_8 μ10) (le_o (le_o (le_s rfl (le_s rfl (le_s rfl le_n)))))
    · refine W_s (s_icmp_ge_f dX12_wanted_39 rfl h12) ?_
      refine W_s (s_iconst dX12_wanted_42 kci_0) ?_
      refine W_s (s_istore dX12_wanted_43 (Nat.le_of_ble_eq_true rfl)) ?_
      refine W_s (s_iconst dX12_wanted_45 kci_0) ?_
      refine W_s (s_istore dX12_wanted_46 (Nat.le_of_ble_eq_true rfl)) ?_
      refine W_wk (okL_X12_wanted_48 ?_ 4000 0 0 μ10) (le_s rfl (le_o (le_s rfl (le_s rfl (le_s rfl (le_s rfl (le_s rfl (le_s rfl le_n))))))))
      intro x6_26 μ27
      refine W_s (s_iload dX12_wanted_88 rfl) ?_
      refine W_s (s_iload dX12_wanted_90 rfl) ?_
      refine W_fun (fun J => ∀ (j0_30 : Int32) (μ31 : gx_M), GoW E l Y_X12_wanted 4 gx_eI 101 [some (.ref (E.2.2.1 + 206)), none, some (.int (gx_bi p2)), none, some (.int v4_8), some (.int v5_9), some (.int x6_26)] [.int j0_30] μ31 (J j0_30 μ31)) ?_ (fun J28 hJ28 => ?_)
      · intro j0_30 μ31
        refine W_s (s_istore_n dX12_wanted_101 rfl (Nat.le_of_ble_eq_true rfl)) ?_
        refine W_s (s_iload dX12_wanted_102 rfl) ?_
        refine W_s (s_iload dX12_wanted_104 rfl) ?_
        refine W_s (s_callS (As := [.int _, .int _]) dX12_wanted_106 Lk_RX12_173 rfl (Nat.le_of_ble_eq_true rfl) (Nat.le_of_ble_eq_true rfl) (ev_X12_greater v4_8 x6_26 μ31)) ?_
        refine W_letI (fun x32 => ?_)
        refine W_s (s_istore dX12_wanted_109 (Nat.le_of_ble_eq_true rfl)) ?_
        refine W_s (s_iinc dX12_wanted_111 rfl (kinc_1 v5_9) (Nat.le_of_ble_eq_true rfl)) ?_
        refine W_s (s_goto dX12_wanted_114 rfl) ?_
        exact W_wk (ih j0_30 x32 (v5_9 + 1) μ31) (le_s rfl (le_o (le_s rfl (le_s rfl (le_s rfl (le_s rfl le_n))))))
      · skip
        refine W_ite (fun h29 => ?_) (fun h29 => ?_)
        · refine W_s (s_icmp_le_t dX12_wanted_92 rfl h29) ?_
          refine W_s (s_iload_n dX12_wanted_100 rfl rfl) ?_
          exact W_wk (hJ28 v3_7 μ27) (le_s rfl (le_o (le_s rfl (le_o (le_s rfl (le_s rfl (le_s rfl le_n)))))))
        · refine W_s (s_icmp_le_f dX12_wanted_92 rfl h29) ?_
          refine W_s (s_iload dX12_wanted_95 rfl) ?_
          refine W_s (s_goto dX12_wanted_97 rfl) ?_
          exact W_wk (hJ28 v5_9 μ27) (le_s rfl (le_o (le_s rfl (le_o (le_s rfl (le_s rfl (le_s rfl le_n)))))))
theorem ev_X12_wanted {E : gx_E} {l : Launch} (p1 : Int32) (p2 : Bool) (μ : gx_M) {r : Int32} {μ' : gx_M} (hr : f_X12_wanted p1 p2 μ = some (r, μ')) : gEv E l 4 Y_X12_wanted [.ref (E.2.2.1 + 206), .int p1, .int (gx_bi p2)] gx_G1 μ (gx_eI r) gx_G1 μ' := by
  refine W_ev (by decide) (Nat.le_of_ble_eq_true rfl) (em := gx_eI) (T := f_X12_wanted p1 p2 μ) ?_ hr
  show GoW E l Y_X12_wanted 4 gx_eI 0 (gx_el [.ref (E.2.2.1 + 206), .int p1, .int (gx_bi p2)]) [] μ (f_X12_wanted p1 p2 μ)
  unfold f_X12_wanted
  refine W_s (s_aload_n dX12_wanted_0 rfl rfl) ?_
  refine W_s (s_iconst dX12_wanted_1 kci_0) ?_
  refine W_s (pf_RX12_100 rfl dX12_wanted_2) ?_
  refine W_letM (fun μ1 => ?_)
  refine W_s (s_aload_n dX12_wanted_5 rfl rfl) ?_
  refine W_s (s_iload_n dX12_wanted_6 rfl rfl) ?_
  refine W_bd (ec := gx_eB) (fun r_ μ_ hr_ => s_callV (As := [.int _]) dX12_wanted_7 Lk_RX12_298 rfl g_206 (by decide) rfl (Nat.le_of_ble_eq_true rfl) (Nat.le_of_ble_eq_true rfl) (ev_X12_hand p1 μ1 hr_)) (fun r2 μ3 => ?_)
  refine W_ite (fun h4 => ?_) (fun h4 => ?_)
  · refine W_s (s_if_ne_t dX12_wanted_10 rfl (gx_bt h4)) ?_
    refine W_s (s_aload_n dX12_wanted_16 rfl rfl) ?_
    refine W_s (s_lconst dX12_wanted_17 kcl_0) ?_
    refine W_s (s_aload_n dX12_wanted_18 rfl rfl) ?_
    refine W_s (s_callV (As := []) dX12_wanted_19 Lk_RX12_434 rfl g_206 (by decide) rfl (Nat.le_of_ble_eq_true rfl) (Nat.le_of_ble_eq_true rfl) (ev_X12_allMinutes μ3)) ?_
    refine W_bd (ec := gx_eV) (fun r_ μ_ hr_ => s_callV (As := [.long _, .long _]) dX12_wanted_22 Lk_RX12_438 rfl g_206 (by decide) rfl (Nat.le_of_ble_eq_true rfl) (Nat.le_of_ble_eq_true rfl) (ev_X12_findRuns 0 (f_X12_allMinutes μ3) μ3 hr_)) (fun r5 μ6 => ?_)
    refine W_s (s_iconst dX12_wanted_25 kci_m1) ?_
    refine W_s (s_istore_n dX12_wanted_26 rfl (Nat.le_of_ble_eq_true rfl)) ?_
    refine W_s (s_iconst dX12_wanted_27 kci_0) ?_
    refine W_s (s_istore dX12_wanted_28 (Nat.le_of_ble_eq_true rfl)) ?_
    refine W_s (s_iconst dX12_wanted_30 kci_0) ?_
    refine W_s (s_istore dX12_wanted_31 (Nat.le_of_ble_eq_true rfl)) ?_
    refine W_wk (okL_X12_wanted_33 ?_ 4000 (-1) 0 0 μ6) (le_s rfl (le_o (le_s rfl (le_s rfl (le_s rfl (le_s rfl le_n))))))
    intro x3_36 x4_37 μ38
    refine W_s (s_iload_n dX12_wanted_117 rfl rfl) ?_
    refine W_ite (fun h39 => ?_) (fun h39 => ?_)
    · refine W_s (s_if_eq_f dX12_wanted_118 rfl (gx_bt h39)) ?_
      refine W_s (s_iload dX12_wanted_121 rfl) ?_
      refine W_s (s_goto dX12_wanted_123 rfl) ?_
      exact W_r (r := x4_37) (f_int (ty := .int) dX12_wanted_127 rfl rfl)
    · refine W_s (s_if_eq_t dX12_wanted_118 rfl (gx_bf h39)) ?_
      refine W_s (s_iload_n dX12_wanted_126 rfl rfl) ?_
      exact W_r (r := x3_36) (f_int (ty := .int) dX12_wanted_127 rfl rfl)
  · refine W_s (s_if_ne_f dX12_wanted_10 rfl (gx_bf h4)) ?_
    refine W_s (s_bipush dX12_wanted_13 kcb_m2) ?_
    exact W_r (r := (-2)) (f_int (ty := .int) dX12_wanted_15 rfl rfl)

def L_X12_happy_29 (p2 : Int32) (k9 : Int32 → gx_M → Option (Int32 × gx_M)) : Nat → Int32 → Int32 → gx_M → Option (Int32 × gx_M)
  | 0, _, _, _ => none
  | n + 1, v3_6, v4_7, μ8 => if 36 ≤ v4_7 then k9 v3_6 μ8 else gx_lt (v4_7 / 6) (fun (x11 : Int32) => gx_lt (v4_7 - v4_7 / 6 * 6) (fun (x12 : Int32) => gx_lt (fun (j0_48 : Int32) (μ49 : gx_M) => L_X12_happy_29 p2 k9 n j0_48 (v4_7 + 1) μ49) (fun J13 => if (μ8.1 206 50) ≤ x11 then J13 v3_6 μ8 else if (μ8.1 206 50) ≤ x12 then J13 v3_6 μ8 else if x11 = x12 then J13 v3_6 μ8 else gx_lt (fun (j0_27 : Bool) (μ28 : gx_M) => gx_ck (gx_ix x12 6 = true) (gx_br (f_X12_worthTo x11 (μ28.1 232 x12.toNatClampNeg) μ28) (fun (r30 : Int32) => gx_ck (gx_ix x11 6 = true) (gx_br (f_X12_worthTo x11 (μ28.1 232 x11.toNatClampNeg) μ28) (fun (r32 : Int32) => gx_lt (fun (j0_35 : Bool) (μ36 : gx_M) => gx_lt (fun (j0_45 : Bool) (μ46 : gx_M) => gx_lt (v3_6 + (gx_bi j0_45)) (fun (x47 : Int32) => J13 x47 μ46)) (fun J37 => gx_lt (fun (μ44 : gx_M) => J37 false μ44) (fun J39 => gx_lt (fun (μ43 : gx_M) => J37 true μ43) (fun J38 => if p2 = 1 then if j0_27 = true then J38 μ36 else J39 μ36 else if j0_35 = true then J38 μ36 else J39 μ36)))) (fun J33 => if r30 ≤ r32 then J33 false μ28 else J33 true μ28)))))) (fun J17 => gx_lt (fun (μ26 : gx_M) => J17 false μ26) (fun J18 => if x12 ≤ x11 then J18 μ8 else gx_br (f_X12_worthTo x11 x12 μ8) (fun (r20 : Int32) => gx_br (f_X12_worthTo x11 x11 μ8) (fun (r21 : Int32) => if r20 ≤ r21 then J18 μ8 else gx_br (f_X12_worthTo x12 x11 μ8) (fun (r23 : Int32) => gx_br (f_X12_worthTo x12 x12 μ8) (fun (r24 : Int32) => if r23 ≤ r24 then J18 μ8 else J17 true μ8)))))))))
def f_X12_happy (p1 : Int32) (p2 : Int32) (μ : gx_M) : Option (Int32 × gx_M) := gx_lt (gx_uI μ 206 0 0) (fun (μ1 : gx_M) => gx_bd (f_X12_hasSwap p1 μ1) (fun (r2 : Bool) (μ3 : gx_M) => if r2 = true then if (f_X12_in p2 0 2) = true then L_X12_happy_29 p2 (fun (x3_52 : Int32) (μ53 : gx_M) => if p2 = 0 then gx_br (f_X12_happyOnes μ53) (fun (r55 : Int32) => some (r55, μ53)) else some (x3_52, μ53)) 4000 0 0 μ3 else some ((-1), μ3) else some ((-1), μ3)))
theorem okL_X12_happy_29 {E : gx_E} {l : Launch} {p2 : Int32} {k9 : Int32 → gx_M → Option (Int32 × gx_M)} (hk : ∀ (w50 : Int32) (μ51 : gx_M), GoW E l Y_X12_happy 4 gx_eI 195 [some (.ref (E.2.2.1 + 206)), none, some (.int p2), some (.int w50)] [] μ51 (k9 w50 μ51)) : ∀ (n : Nat) (v3_6 : Int32) (v4_7 : Int32) (μ8 : gx_M), GoW E l Y_X12_happy 4 gx_eI 29 [some (.ref (E.2.2.1 + 206)), none, some (.int p2), some (.int v3_6), some (.int v4_7)] [] μ8 (L_X12_happy_29 p2 k9 n v3_6 v4_7 μ8) := by
  intro n
  induction n with
  | zero => intros; exact W_no
  | succ n ih =>
    intro v3_6 v4_7 μ8
    rw [L_X12_happy_29.eq_2]
    refine W_s (s_iload dX12_happy_29 rfl) ?_
    refine W_s (s_bipush dX12_happy_31 kcb_36) ?_
    refine W_ite (fun h10 => ?_) (fun h10 => ?_)
    · refine W_s (s_icmp_ge_t dX12_happy_33 rfl h10) ?_
      exact W_wk (hk v3_6 μ8) (le_s rfl (le_o (le_s rfl (le_s rfl le_n))))
    · refine W_s (s_icmp_ge_f dX12_happy_33 rfl h10) ?_
      refine W_s (s_iload dX12_happy_36 rfl) ?_
      refine W_s (s_bipush dX12_happy_38 kcb_6) ?_
      refine W_s (s_idiv dX12_happy_40 (by decide)) ?_
      refine W_letI (fun x11 => ?_)
      refine W_s (s_istore dX12_happy_41 (Nat.le_of_ble_eq_true rfl)) ?_
      refine W_s (s_iload dX12_happy_43 rfl) ?_
      refine W_s (s_bipush dX12_happy_45 kcb_6) ?_
      refine W_s (s_irem dX12_happy_47 (by decide)) ?_
      refine W_letI (fun x12 => ?_)
      refine W_s (s_istore dX12_happy_48 (Nat.le_of_ble_eq_true rfl)) ?_
      refine W_s (s_iload dX12_happy_50 rfl) ?_
      refine W_s (s_aload_n dX12_happy_52 rfl rfl) ?_
      refine W_s (gf_RX12_492 rfl dX12_happy_53) ?_
      refine W_fun (fun J => ∀ (j0_48 : Int32) (μ49 : gx_M), GoW E l Y_X12_happy 4 gx_eI 189 [some (.ref (E.2.2.1 + 206)), none, some (.int p2), some (.int j0_48), some (.int v4_7)] [] μ49 (J j0_48 μ49)) ?_ (fun J13 hJ13 => ?_)
      · intro j0_48 μ49
        refine W_s (s_iinc dX12_happy_189 rfl (kinc_1 v4_7) (Nat.le_of_ble_eq_true rfl)) ?_
        refine W_s (s_goto dX12_happy_192 rfl) ?_
        exact W_wk (ih j0_48 (v4_7 + 1) μ49) (le_s rfl (le_o (le_s rfl (le_s rfl (le_s rfl le_n)))))
      · skip
        refine W_ite (fun h14 => ?_) (fun h14 => ?_)
        · refine W_s (s_icmp_ge_t dX12_happy_56 rfl h14) ?_
          exact W_wk (hJ13 v3_6 μ8) (le_s rfl (le_o (le_s rfl (le_s rfl (le_s rfl le_n)))))
        · refine W_s (s_icmp_ge_f dX12_happy_56 rfl h14) ?_
          refine W_s (s_iload dX12_happy_59 rfl) ?_
          refine W_s (s_aload_n dX12_happy_61 rfl rfl) ?_
          refine W_s (gf_RX12_492 rfl dX12_happy_62) ?_
          refine W_ite (fun h15 => ?_) (fun h15 => ?_)
          · refine W_s (s_icmp_ge_t dX12_happy_65 rfl h15) ?_
            exact W_wk (hJ13 v3_6 μ8) (le_s rfl (le_o (le_s rfl (le_s rfl (le_s rfl le_n)))))
          · refine W_s (s_icmp_ge_f dX12_happy_65 rfl h15) ?_
            refine W_s (s_iload dX12_happy_68 rfl) ?_
            refine W_s (s_iload dX12_happy_70 rfl) ?_
            refine W_ite (fun h16 => ?_) (fun h16 => ?_)
            · refine W_s (s_icmp_eq_t dX12_happy_72 rfl h16) ?_
              exact W_wk (hJ13 v3_6 μ8) (le_s rfl (le_o (le_s rfl (le_s rfl (le_s rfl le_n)))))
            · refine W_s (s_icmp_eq_f dX12_happy_72 rfl h16) ?_
              refine W_s (s_iload dX12_happy_75 rfl) ?_
              refine W_s (s_iload dX12_happy_77 rfl) ?_
              refine W_fun (fun J => ∀ (j0_27 : Bool) (μ28 : gx_M), GoW E l Y_X12_happy 4 gx_eI 125 [some (.ref (E.2.2.1 + 206)), none, some (.int p2), some (.int v3_6), some (.int v4_7), some (.int x11), some (.int x12)] [.int (gx_bi j0_27)] μ28 (J j0_27 μ28)) ?_ (fun J17 hJ17 => ?_)
              · intro j0_27 μ28
                refine W_s (s_istore dX12_happy_125 (Nat.le_of_ble_eq_true rfl)) ?_
                refine W_s (s_aload_n dX12_happy_127 rfl rfl) ?_
                refine W_s (s_iload dX12_happy_128 rfl) ?_
                refine W_s (s_aload_n dX12_happy_130 rfl rfl) ?_
                refine W_s (gf_RX12_88 rfl dX12_happy_131) ?_
                refine W_s (s_iload dX12_happy_134 rfl) ?_
                refine W_ck (fun h29 => ?_)
                refine W_s (s_iald dX12_happy_136 g_232 (gx_ixv h29)) ?_
                refine W_br (ec := gx_eI) (fun r_ hr_ => s_callV (As := [.int _, .int _]) dX12_happy_137 Lk_RX12_501 rfl g_206 (by decide) rfl (Nat.le_of_ble_eq_true rfl) (Nat.le_of_ble_eq_true rfl) (ev_X12_worthTo x11 (μ28.1 232 x12.toNatClampNeg) μ28 hr_)) (fun r30 => ?_)
                refine W_s (s_aload_n dX12_happy_140 rfl rfl) ?_
                refine W_s (s_iload dX12_happy_141 rfl) ?_
                refine W_s (s_aload_n dX12_happy_143 rfl rfl) ?_
                refine W_s (gf_RX12_88 rfl dX12_happy_144) ?_
                refine W_s (s_iload dX12_happy_147 rfl) ?_
                refine W_ck (fun h31 => ?_)
                refine W_s (s_iald dX12_happy_149 g_232 (gx_ixv h31)) ?_
                refine W_br (ec := gx_eI) (fun r_ hr_ => s_callV (As := [.int _, .int _]) dX12_happy_150 Lk_RX12_501 rfl g_206 (by decide) rfl (Nat.le_of_ble_eq_true rfl) (Nat.le_of_ble_eq_true rfl) (ev_X12_worthTo x11 (μ28.1 232 x11.toNatClampNeg) μ28 hr_)) (fun r32 => ?_)
                refine W_fun (fun J => ∀ (j0_35 : Bool) (μ36 : gx_M), GoW E l Y_X12_happy 4 gx_eI 161 [some (.ref (E.2.2.1 + 206)), none, some (.int p2), some (.int v3_6), some (.int v4_7), none, none, some (.int (gx_bi j0_27))] [.int (gx_bi j0_35)] μ36 (J j0_35 μ36)) ?_ (fun J33 hJ33 => ?_)
                · intro j0_35 μ36
                  refine W_s (s_istore dX12_happy_161 (Nat.le_of_ble_eq_true rfl)) ?_
                  refine W_s (s_iload_n dX12_happy_163 rfl rfl) ?_
                  refine W_s (s_iload_n dX12_happy_164 rfl rfl) ?_
                  refine W_s (s_iconst dX12_happy_165 kci_1) ?_
                  refine W_fun (fun J => ∀ (j0_45 : Bool) (μ46 : gx_M), GoW E l Y_X12_happy 4 gx_eI 187 [some (.ref (E.2.2.1 + 206)), none, some (.int p2), none, some (.int v4_7)] [.int (gx_bi j0_45), .int v3_6] μ46 (J j0_45 μ46)) ?_ (fun J37 hJ37 => ?_)
                  · intro j0_45 μ46
                    refine W_s (s_iadd dX12_happy_187) ?_
                    refine W_letI (fun x47 => ?_)
                    refine W_s (s_istore_n dX12_happy_188 rfl (Nat.le_of_ble_eq_true rfl)) ?_
                    exact W_wk (hJ13 x47 μ46) (le_s rfl (le_o (le_s rfl (le_s rfl (le_s rfl le_n)))))
                  · skip
                    refine W_fun (fun J => ∀ (μ44 : gx_M), GoW E l Y_X12_happy 4 gx_eI 186 [some (.ref (E.2.2.1 + 206)), none, some (.int p2), none, some (.int v4_7)] [.int v3_6] μ44 (J μ44)) ?_ (fun J39 hJ39 => ?_)
                    · intro μ44
                      refine W_s (s_iconst dX12_happy_186 kci_0) ?_
                      exact W_wk (hJ37 false μ44) (le_s rfl (le_o (le_s rfl (le_o (le_s rfl le_n)))))
                    · skip
                      refine W_fun (fun J => ∀ (μ43 : gx_M), GoW E l Y_X12_happy 4 gx_eI 182 [some (.ref (E.2.2.1 + 206)), none, some (.int p2), none, some (.int v4_7)] [.int v3_6] μ43 (J μ43)) ?_ (fun J38 hJ38 => ?_)
                      · intro μ43
                        refine W_s (s_iconst dX12_happy_182 kci_1) ?_
                        refine W_s (s_goto dX12_happy_183 rfl) ?_
                        exact W_wk (hJ37 true μ43) (le_s rfl (le_o (le_s rfl (le_o (le_s rfl le_n)))))
                      · skip
                        refine W_ite (fun h40 => ?_) (fun h40 => ?_)
                        · refine W_s (s_icmp_ne_f dX12_happy_166 rfl h40) ?_
                          refine W_s (s_iload dX12_happy_169 rfl) ?_
                          refine W_ite (fun h42 => ?_) (fun h42 => ?_)
                          · refine W_s (s_if_eq_f dX12_happy_171 rfl (gx_bt h42)) ?_
                            refine W_s (s_goto dX12_happy_174 rfl) ?_
                            exact W_wk (hJ38 μ36) (le_s rfl (le_o (le_s rfl (le_o (le_s rfl le_n)))))
                          · refine W_s (s_if_eq_t dX12_happy_171 rfl (gx_bf h42)) ?_
                            exact W_wk (hJ39 μ36) (le_s rfl (le_o (le_s rfl (le_o (le_s rfl le_n)))))
                        · refine W_s (s_icmp_ne_t dX12_happy_166 rfl h40) ?_
                          refine W_s (s_iload dX12_happy_177 rfl) ?_
                          refine W_ite (fun h41 => ?_) (fun h41 => ?_)
                          · refine W_s (s_if_eq_f dX12_happy_179 rfl (gx_bt h41)) ?_
                            exact W_wk (hJ38 μ36) (le_s rfl (le_o (le_s rfl (le_o (le_s rfl le_n)))))
                          · refine W_s (s_if_eq_t dX12_happy_179 rfl (gx_bf h41)) ?_
                            exact W_wk (hJ39 μ36) (le_s rfl (le_o (le_s rfl (le_o (le_s rfl le_n)))))
                · skip
                  refine W_ite (fun h34 => ?_) (fun h34 => ?_)
                  · refine W_s (s_icmp_le_t dX12_happy_153 rfl h34) ?_
                    refine W_s (s_iconst dX12_happy_160 kci_0) ?_
                    exact W_wk (hJ33 false μ28) (le_s rfl (le_o (le_s rfl (le_s rfl (le_s rfl (le_o (le_o (le_s rfl le_n))))))))
                  · refine W_s (s_icmp_le_f dX12_happy_153 rfl h34) ?_
                    refine W_s (s_iconst dX12_happy_156 kci_1) ?_
                    refine W_s (s_goto dX12_happy_157 rfl) ?_
                    exact W_wk (hJ33 true μ28) (le_s rfl (le_o (le_s rfl (le_s rfl (le_s rfl (le_o (le_o (le_s rfl le_n))))))))
              · skip
                refine W_fun (fun J => ∀ (μ26 : gx_M), GoW E l Y_X12_happy 4 gx_eI 124 [some (.ref (E.2.2.1 + 206)), none, some (.int p2), some (.int v3_6), some (.int v4_7), some (.int x11), some (.int x12)] [] μ26 (J μ26)) ?_ (fun J18 hJ18 => ?_)
                · intro μ26
                  refine W_s (s_iconst dX12_happy_124 kci_0) ?_
                  exact W_wk (hJ17 false μ26) (le_s rfl (le_o (le_s rfl (le_s rfl (le_s rfl (le_s rfl (le_s rfl le_n)))))))
                · skip
                  refine W_ite (fun h19 => ?_) (fun h19 => ?_)
                  · refine W_s (s_icmp_ge_t dX12_happy_79 rfl h19) ?_
                    exact W_wk (hJ18 μ8) (le_s rfl (le_o (le_s rfl (le_s rfl (le_s rfl (le_s rfl (le_s rfl le_n)))))))
                  · refine W_s (s_icmp_ge_f dX12_happy_79 rfl h19) ?_
                    refine W_s (s_aload_n dX12_happy_82 rfl rfl) ?_
                    refine W_s (s_iload dX12_happy_83 rfl) ?_
                    refine W_s (s_iload dX12_happy_85 rfl) ?_
                    refine W_br (ec := gx_eI) (fun r_ hr_ => s_callV (As := [.int _, .int _]) dX12_happy_87 Lk_RX12_501 rfl g_206 (by decide) rfl (Nat.le_of_ble_eq_true rfl) (Nat.le_of_ble_eq_true rfl) (ev_X12_worthTo x11 x12 μ8 hr_)) (fun r20 => ?_)
                    refine W_s (s_aload_n dX12_happy_90 rfl rfl) ?_
                    refine W_s (s_iload dX12_happy_91 rfl) ?_
                    refine W_s (s_iload dX12_happy_93 rfl) ?_
                    refine W_br (ec := gx_eI) (fun r_ hr_ => s_callV (As := [.int _, .int _]) dX12_happy_95 Lk_RX12_501 rfl g_206 (by decide) rfl (Nat.le_of_ble_eq_true rfl) (Nat.le_of_ble_eq_true rfl) (ev_X12_worthTo x11 x11 μ8 hr_)) (fun r21 => ?_)
                    refine W_ite (fun h22 => ?_) (fun h22 => ?_)
                    · refine W_s (s_icmp_le_t dX12_happy_98 rfl h22) ?_
                      exact W_wk (hJ18 μ8) (le_s rfl (le_o (le_s rfl (le_s rfl (le_s rfl (le_s rfl (le_s rfl le_n)))))))
                    · refine W_s (s_icmp_le_f dX12_happy_98 rfl h22) ?_
                      refine W_s (s_aload_n dX12_happy_101 rfl rfl) ?_
                      refine W_s (s_iload dX12_happy_102 rfl) ?_
                      refine W_s (s_iload dX12_happy_104 rfl) ?_
                      refine W_br (ec := gx_eI) (fun r_ hr_ => s_callV (As := [.int _, .int _]) dX12_happy_106 Lk_RX12_501 rfl g_206 (by decide) rfl (Nat.le_of_ble_eq_true rfl) (Nat.le_of_ble_eq_true rfl) (ev_X12_worthTo x12 x11 μ8 hr_)) (fun r23 => ?_)
                      refine W_s (s_aload_n dX12_happy_109 rfl rfl) ?_
                      refine W_s (s_iload dX12_happy_110 rfl) ?_
                      refine W_s (s_iload dX12_happy_112 rfl) ?_
                      refine W_br (ec := gx_eI) (fun r_ hr_ => s_callV (As := [.int _, .int _]) dX12_happy_114 Lk_RX12_501 rfl g_206 (by decide) rfl (Nat.le_of_ble_eq_true rfl) (Nat.le_of_ble_eq_true rfl) (ev_X12_worthTo x12 x12 μ8 hr_)) (fun r24 => ?_)
                      refine W_ite (fun h25 => ?_) (fun h25 => ?_)
                      · refine W_s (s_icmp_le_t dX12_happy_117 rfl h25) ?_
                        exact W_wk (hJ18 μ8) (le_s rfl (le_o (le_s rfl (le_s rfl (le_s rfl (le_s rfl (le_s rfl le_n)))))))
                      · refine W_s (s_icmp_le_f dX12_happy_117 rfl h25) ?_
                        refine W_s (s_iconst dX12_happy_120 kci_1) ?_
                        refine W_s (s_goto dX12_happy_121 rfl) ?_
                        exact W_wk (hJ17 true μ8) (le_s rfl (le_o (le_s rfl (le_s rfl (le_s rfl (le_s rfl (le_s rfl le_n)))))))
theorem ev_X12_happy {E : gx_E} {l : Launch} (p1 : Int32) (p2 : Int32) (μ : gx_M) {r : Int32} {μ' : gx_M} (hr : f_X12_happy p1 p2 μ = some (r, μ')) : gEv E l 4 Y_X12_happy [.ref (E.2.2.1 + 206), .int p1, .int p2] gx_G1 μ (gx_eI r) gx_G1 μ' := by
  refine W_ev (by decide) (Nat.le_of_ble_eq_true rfl) (em := gx_eI) (T := f_X12_happy p1 p2 μ) ?_ hr
  show GoW E l Y_X12_happy 4 gx_eI 0 (gx_el [.ref (E.2.2.1 + 206), .int p1, .int p2]) [] μ (f_X12_happy p1 p2 μ)
  unfold f_X12_happy
  refine W_s (s_aload_n dX12_happy_0 rfl rfl) ?_
  refine W_s (s_iconst dX12_happy_1 kci_0) ?_
  refine W_s (pf_RX12_100 rfl dX12_happy_2) ?_
  refine W_letM (fun μ1 => ?_)
  refine W_s (s_aload_n dX12_happy_5 rfl rfl) ?_
  refine W_s (s_iload_n dX12_happy_6 rfl rfl) ?_
  refine W_bd (ec := gx_eB) (fun r_ μ_ hr_ => s_callV (As := [.int _]) dX12_happy_7 Lk_RX12_510 rfl g_206 (by decide) rfl (Nat.le_of_ble_eq_true rfl) (Nat.le_of_ble_eq_true rfl) (ev_X12_hasSwap p1 μ1 hr_)) (fun r2 μ3 => ?_)
  refine W_ite (fun h4 => ?_) (fun h4 => ?_)
  · refine W_s (s_if_eq_f dX12_happy_10 rfl (gx_bt h4)) ?_
    refine W_s (s_iload_n dX12_happy_13 rfl rfl) ?_
    refine W_s (s_iconst dX12_happy_14 kci_0) ?_
    refine W_s (s_iconst dX12_happy_15 kci_2) ?_
    refine W_s (s_callS (As := [.int _, .int _, .int _]) dX12_happy_16 Lk_RX12_112 rfl (Nat.le_of_ble_eq_true rfl) (Nat.le_of_ble_eq_true rfl) (ev_X12_in p2 0 2 μ3)) ?_
    refine W_ite (fun h5 => ?_) (fun h5 => ?_)
    · refine W_s (s_if_ne_t dX12_happy_19 rfl (gx_bt h5)) ?_
      refine W_s (s_iconst dX12_happy_24 kci_0) ?_
      refine W_s (s_istore_n dX12_happy_25 rfl (Nat.le_of_ble_eq_true rfl)) ?_
      refine W_s (s_iconst dX12_happy_26 kci_0) ?_
      refine W_s (s_istore dX12_happy_27 (Nat.le_of_ble_eq_true rfl)) ?_
      refine W_wk (okL_X12_happy_29 ?_ 4000 0 0 μ3) (le_s rfl (le_o (le_s rfl (le_s rfl (le_s rfl le_n)))))
      intro x3_52 μ53
      refine W_s (s_iload_n dX12_happy_195 rfl rfl) ?_
      refine W_ite (fun h54 => ?_) (fun h54 => ?_)
      · refine W_s (s_if_ne_f dX12_happy_196 rfl h54) ?_
        refine W_s (s_aload_n dX12_happy_199 rfl rfl) ?_
        refine W_br (ec := gx_eI) (fun r_ hr_ => s_callV (As := []) dX12_happy_200 Lk_RX12_544 rfl g_206 (by decide) rfl (Nat.le_of_ble_eq_true rfl) (Nat.le_of_ble_eq_true rfl) (ev_X12_happyOnes μ53 hr_)) (fun r55 => ?_)
        refine W_s (s_goto dX12_happy_203 rfl) ?_
        exact W_r (r := r55) (f_int (ty := .int) dX12_happy_207 rfl rfl)
      · refine W_s (s_if_ne_t dX12_happy_196 rfl h54) ?_
        refine W_s (s_iload_n dX12_happy_206 rfl rfl) ?_
        exact W_r (r := x3_52) (f_int (ty := .int) dX12_happy_207 rfl rfl)
    · refine W_s (s_if_ne_f dX12_happy_19 rfl (gx_bf h5)) ?_
      refine W_s (s_iconst dX12_happy_22 kci_m1) ?_
      exact W_r (r := (-1)) (f_int (ty := .int) dX12_happy_23 rfl rfl)
  · refine W_s (s_if_eq_t dX12_happy_10 rfl (gx_bf h4)) ?_
    refine W_s (s_iconst dX12_happy_22 kci_m1) ?_
    exact W_r (r := (-1)) (f_int (ty := .int) dX12_happy_23 rfl rfl)

def f_X12_streetLine (p1 : Int64) (p3 : Int32) (μ : gx_M) : Option (Bool × gx_M) := gx_lt (fun (μ10 : gx_M) => gx_lt (fun (μ15 : gx_M) => gx_bd (f_X12_token μ15) (fun (r16 : Unit) (μ17 : gx_M) => if p1 = 7094703684652987251 then gx_bd (f_X12_taskLine μ17) (fun (r95 : Bool) (μ96 : gx_M) => some (r95, μ96)) else gx_lt (fun (μ79 : gx_M) => gx_lt (fun (j0_82 : Int32) (μ83 : gx_M) => gx_bd (f_X12_take 0 1 j0_82 μ83) (fun (r84 : Bool) (μ85 : gx_M) => gx_lt (fun (j0_88 : Bool) (μ89 : gx_M) => if r84 = true then gx_ck (gx_ix (gx_bi j0_88) 161 = true) (gx_lt (gx_uI μ89 216 (gx_bi j0_88).toNatClampNeg (μ89.1 217 0)) (fun (μ92 : gx_M) => some (r84, μ92))) else gx_ck (gx_ix (gx_bi j0_88) 161 = true) (gx_lt (gx_uI μ89 216 (gx_bi j0_88).toNatClampNeg 1) (fun (μ94 : gx_M) => some (r84, μ94)))) (fun J86 => if p1 = 30796695599342963 then J86 false μ85 else J86 true μ85))) (fun J80 => if p1 = 30796695599342963 then J80 40 μ79 else J80 4 μ79)) (fun J19 => if p1 = 30796695599342963 then J19 μ17 else if p1 = 123580963646565 then J19 μ17 else if p1 = 427070942835 then gx_bd (f_X12_takeOne 0 3 μ17) (fun (r64 : Bool) (μ65 : gx_M) => gx_lt (fun (j0_73 : Bool) (μ74 : gx_M) => if j0_73 = true then if (μ74.1 206 23) = 0 then some (j0_73, μ74) else gx_ck (gx_ix ((3 : Int32) + (μ74.1 217 0)) 161 = true) (gx_lt (gx_uI μ74 216 ((3 : Int32) + (μ74.1 217 0)).toNatClampNeg (μ74.1 217 1)) (fun (μ78 : gx_M) => some (j0_73, μ78))) else some (j0_73, μ74)) (fun J66 => gx_lt (fun (μ72 : gx_M) => J66 false μ72) (fun J67 => if r64 = true then gx_bd (f_X12_take 1 0 99 μ65) (fun (r69 : Bool) (μ70 : gx_M) => if r69 = true then J66 true μ70 else J67 μ70) else J67 μ65))) else if p1 = 482955846501 then gx_bd (f_X12_takeMinute 0 0 μ17) (fun (r44 : Bool) (μ45 : gx_M) => gx_lt (fun (j0_56 : Bool) (μ57 : gx_M) => gx_lt (fun (j0_60 : Int32) (μ61 : gx_M) => gx_bd (f_X12_fill 31 (μ57.1 217 0) j0_60 (μ61.1 217 2) μ61) (fun (r62 : Unit) (μ63 : gx_M) => some (j0_56, μ63))) (fun J58 => if j0_56 = true then J58 (μ57.1 217 1) μ57 else J58 (-1) μ57)) (fun J46 => gx_lt (fun (μ55 : gx_M) => J46 false μ55) (fun J47 => if r44 = true then gx_bd (f_X12_takeMinute 1 (μ45.1 217 0) μ45) (fun (r49 : Bool) (μ50 : gx_M) => if r49 = true then gx_bd (f_X12_take 2 0 9 μ50) (fun (r52 : Bool) (μ53 : gx_M) => if r52 = true then J46 true μ53 else J47 μ53) else J47 μ50) else J47 μ45))) else gx_bd (f_X12_takeOne 0 3 μ17) (fun (r24 : Bool) (μ25 : gx_M) => gx_lt (fun (j0_36 : Bool) (μ37 : gx_M) => gx_lt (fun (j0_40 : Int32) (μ41 : gx_M) => gx_bd (f_X12_fill 71 (μ37.1 217 1) j0_40 (μ41.1 217 0) μ41) (fun (r42 : Unit) (μ43 : gx_M) => some (j0_36, μ43))) (fun J38 => if j0_36 = true then J38 (μ37.1 217 2) μ37 else J38 (-1) μ37)) (fun J26 => gx_lt (fun (μ35 : gx_M) => J26 false μ35) (fun J27 => if r24 = true then gx_bd (f_X12_takeMinute 1 0 μ25) (fun (r29 : Bool) (μ30 : gx_M) => if r29 = true then gx_bd (f_X12_takeMinute 2 (μ30.1 217 1) μ30) (fun (r32 : Bool) (μ33 : gx_M) => if r32 = true then J26 true μ33 else J27 μ33) else J27 μ30) else J27 μ25)))))) (fun J11 => if p1 = 7094703684652987251 then gx_bd (f_X12_full 2 6 p3 μ10) (fun (r13 : Unit) (μ14 : gx_M) => J11 μ14) else J11 μ10)) (fun J1 => if p1 = 30796695599342963 then J1 μ else if p1 = 123580963646565 then J1 μ else if p1 = 427070942835 then J1 μ else if p1 = 482955846501 then J1 μ else if p1 = 6840691 then J1 μ else if p1 = 7094703684652987251 then J1 μ else gx_bd (f_X12_fails μ) (fun (r8 : Bool) (μ9 : gx_M) => some (r8, μ9)))
theorem ev_X12_streetLine {E : gx_E} {l : Launch} (p1 : Int64) (p3 : Int32) (μ : gx_M) {r : Bool} {μ' : gx_M} (hr : f_X12_streetLine p1 p3 μ = some (r, μ')) : gEv E l 5 Y_X12_streetLine [.ref (E.2.2.1 + 206), .long p1, .int p3] gx_G1 μ (gx_eB r) gx_G1 μ' := by
  refine W_ev (by decide) (Nat.le_of_ble_eq_true rfl) (em := gx_eB) (T := f_X12_streetLine p1 p3 μ) ?_ hr
  show GoW E l Y_X12_streetLine 5 gx_eB 0 (gx_el [.ref (E.2.2.1 + 206), .long p1, .int p3]) [] μ (f_X12_streetLine p1 p3 μ)
  unfold f_X12_streetLine
  refine W_s (s_lload_n dX12_streetLine_0 rfl rfl) ?_
  refine W_s (s_ldc2 dX12_streetLine_1 kw_RX12_183) ?_
  refine W_s (s_lcmp dX12_streetLine_4) ?_
  refine W_fun (fun J => ∀ (μ10 : gx_M), GoW E l Y_X12_streetLine 5 gx_eB 53 [some (.ref (E.2.2.1 + 206)), some (.long p1), none, some (.int p3)] [] μ10 (J μ10)) ?_ (fun J1 hJ1 => ?_)
  · intro μ10
    refine W_s (s_lload_n dX12_streetLine_53 rfl rfl) ?_
    refine W_s (s_ldc2 dX12_streetLine_54 kw_RX12_193) ?_
    refine W_s (s_lcmp dX12_streetLine_57) ?_
    refine W_fun (fun J => ∀ (μ15 : gx_M), GoW E l Y_X12_streetLine 5 gx_eB 69 [some (.ref (E.2.2.1 + 206)), some (.long p1)] [] μ15 (J μ15)) ?_ (fun J11 hJ11 => ?_)
    · intro μ15
      refine W_s (s_aload_n dX12_streetLine_69 rfl rfl) ?_
      refine W_bd (ec := gx_eV) (fun r_ μ_ hr_ => s_callV (As := []) dX12_streetLine_70 Lk_RX12_164 rfl g_206 (by decide) rfl (Nat.le_of_ble_eq_true rfl) (Nat.le_of_ble_eq_true rfl) (ev_X12_token μ15 hr_)) (fun r16 μ17 => ?_)
      refine W_s (s_lload_n dX12_streetLine_73 rfl rfl) ?_
      refine W_s (s_ldc2 dX12_streetLine_74 kw_RX12_193) ?_
      refine W_s (s_lcmp dX12_streetLine_77) ?_
      refine W_ite (fun h18 => ?_) (fun h18 => ?_)
      · refine W_s (s_if_ne_f dX12_streetLine_78 rfl ((lgc_eq p1 7094703684652987251).mpr h18)) ?_
        refine W_s (s_aload_n dX12_streetLine_81 rfl rfl) ?_
        refine W_bd (ec := gx_eB) (fun r_ μ_ hr_ => s_callV (As := []) dX12_streetLine_82 Lk_RX12_199 rfl g_206 (by decide) rfl (Nat.le_of_ble_eq_true rfl) (Nat.le_of_ble_eq_true rfl) (ev_X12_taskLine μ17 hr_)) (fun r95 μ96 => ?_)
        exact W_r (r := r95) (f_int (ty := .boolean) (x := gx_bi r95) dX12_streetLine_85 rfl (gx_bn r95))
      · refine W_s (s_if_ne_t dX12_streetLine_78 rfl (fun hc => h18 ((lgc_eq p1 7094703684652987251).mp hc))) ?_
        refine W_s (s_lload_n dX12_streetLine_86 rfl rfl) ?_
        refine W_s (s_ldc2 dX12_streetLine_87 kw_RX12_183) ?_
        refine W_s (s_lcmp dX12_streetLine_90) ?_
        refine W_fun (fun J => ∀ (μ79 : gx_M), GoW E l Y_X12_streetLine 5 gx_eB 102 [some (.ref (E.2.2.1 + 206)), some (.long p1)] [] μ79 (J μ79)) ?_ (fun J19 hJ19 => ?_)
        · intro μ79
          refine W_s (s_aload_n dX12_streetLine_102 rfl rfl) ?_
          refine W_s (s_iconst dX12_streetLine_103 kci_0) ?_
          refine W_s (s_iconst dX12_streetLine_104 kci_1) ?_
          refine W_s (s_lload_n dX12_streetLine_105 rfl rfl) ?_
          refine W_s (s_ldc2 dX12_streetLine_106 kw_RX12_183) ?_
          refine W_s (s_lcmp dX12_streetLine_109) ?_
          refine W_fun (fun J => ∀ (j0_82 : Int32) (μ83 : gx_M), GoW E l Y_X12_streetLine 5 gx_eB 119 [some (.ref (E.2.2.1 + 206)), some (.long p1)] [.int j0_82, .int 1, .int 0, .ref (E.2.2.1 + 206)] μ83 (J j0_82 μ83)) ?_ (fun J80 hJ80 => ?_)
          · intro j0_82 μ83
            refine W_bd (ec := gx_eB) (fun r_ μ_ hr_ => s_callV (As := [.int _, .int _, .int _]) dX12_streetLine_119 Lk_RX12_167 rfl g_206 (by decide) rfl (Nat.le_of_ble_eq_true rfl) (Nat.le_of_ble_eq_true rfl) (ev_X12_take 0 1 j0_82 μ83 hr_)) (fun r84 μ85 => ?_)
            refine W_s (s_istore dX12_streetLine_122 (Nat.le_of_ble_eq_true rfl)) ?_
            refine W_s (s_aload_n dX12_streetLine_124 rfl rfl) ?_
            refine W_s (gf_RX12_38 rfl dX12_streetLine_125) ?_
            refine W_s (s_lload_n dX12_streetLine_128 rfl rfl) ?_
            refine W_s (s_ldc2 dX12_streetLine_129 kw_RX12_183) ?_
            refine W_s (s_lcmp dX12_streetLine_132) ?_
            refine W_fun (fun J => ∀ (j0_88 : Bool) (μ89 : gx_M), GoW E l Y_X12_streetLine 5 gx_eB 141 [some (.ref (E.2.2.1 + 206)), none, none, none, some (.int (gx_bi r84))] [.int (gx_bi j0_88), .ref (E.2.2.1 + 216)] μ89 (J j0_88 μ89)) ?_ (fun J86 hJ86 => ?_)
            · intro j0_88 μ89
              refine W_s (s_iload dX12_streetLine_141 rfl) ?_
              refine W_ite (fun h90 => ?_) (fun h90 => ?_)
              · refine W_s (s_if_eq_f dX12_streetLine_143 rfl (gx_bt h90)) ?_
                refine W_s (s_aload_n dX12_streetLine_146 rfl rfl) ?_
                refine W_s (gf_RX12_41 rfl dX12_streetLine_147) ?_
                refine W_s (s_iconst dX12_streetLine_150 kci_0) ?_
                refine W_s (s_ialdL (k := 0) dX12_streetLine_151 g_217 (gx_inl (by decide)) (by decide)) ?_
                refine W_s (s_goto dX12_streetLine_152 rfl) ?_
                refine W_ck (fun h91 => ?_)
                refine W_s (s_iast dX12_streetLine_156 g_216 (gx_ixv h91)) ?_
                refine W_letM (fun μ92 => ?_)
                refine W_s (s_goto dX12_streetLine_157 rfl) ?_
                refine W_s (s_iload dX12_streetLine_386 rfl) ?_
                exact W_r (r := r84) (f_int (ty := .boolean) (x := gx_bi r84) dX12_streetLine_388 rfl (gx_bn r84))
              · refine W_s (s_if_eq_t dX12_streetLine_143 rfl (gx_bf h90)) ?_
                refine W_s (s_iconst dX12_streetLine_155 kci_1) ?_
                refine W_ck (fun h93 => ?_)
                refine W_s (s_iast dX12_streetLine_156 g_216 (gx_ixv h93)) ?_
                refine W_letM (fun μ94 => ?_)
                refine W_s (s_goto dX12_streetLine_157 rfl) ?_
                refine W_s (s_iload dX12_streetLine_386 rfl) ?_
                exact W_r (r := r84) (f_int (ty := .boolean) (x := gx_bi r84) dX12_streetLine_388 rfl (gx_bn r84))
            · skip
              refine W_ite (fun h87 => ?_) (fun h87 => ?_)
              · refine W_s (s_if_ne_f dX12_streetLine_133 rfl ((lgc_eq p1 30796695599342963).mpr h87)) ?_
                refine W_s (s_iconst dX12_streetLine_136 kci_0) ?_
                refine W_s (s_goto dX12_streetLine_137 rfl) ?_
                exact W_wk (hJ86 false μ85) (le_s rfl (le_o (le_o (le_o (le_s rfl le_n)))))
              · refine W_s (s_if_ne_t dX12_streetLine_133 rfl (fun hc => h87 ((lgc_eq p1 30796695599342963).mp hc))) ?_
                refine W_s (s_iconst dX12_streetLine_140 kci_1) ?_
                exact W_wk (hJ86 true μ85) (le_s rfl (le_o (le_o (le_o (le_s rfl le_n)))))
          · skip
            refine W_ite (fun h81 => ?_) (fun h81 => ?_)
            · refine W_s (s_if_ne_f dX12_streetLine_110 rfl ((lgc_eq p1 30796695599342963).mpr h81)) ?_
              refine W_s (s_bipush dX12_streetLine_113 kcb_40) ?_
              refine W_s (s_goto dX12_streetLine_115 rfl) ?_
              exact W_wk (hJ80 40 μ79) (le_s rfl (le_s rfl le_n))
            · refine W_s (s_if_ne_t dX12_streetLine_110 rfl (fun hc => h81 ((lgc_eq p1 30796695599342963).mp hc))) ?_
              refine W_s (s_iconst dX12_streetLine_118 kci_4) ?_
              exact W_wk (hJ80 4 μ79) (le_s rfl (le_s rfl le_n))
        · skip
          refine W_ite (fun h20 => ?_) (fun h20 => ?_)
          · refine W_s (s_if_eq_t dX12_streetLine_91 rfl ((lgc_eq p1 30796695599342963).mpr h20)) ?_
            exact W_wk (hJ19 μ17) (le_s rfl (le_s rfl le_n))
          · refine W_s (s_if_eq_f dX12_streetLine_91 rfl (fun hc => h20 ((lgc_eq p1 30796695599342963).mp hc))) ?_
            refine W_s (s_lload_n dX12_streetLine_94 rfl rfl) ?_
            refine W_s (s_ldc2 dX12_streetLine_95 kw_RX12_185) ?_
            refine W_s (s_lcmp dX12_streetLine_98) ?_
            refine W_ite (fun h21 => ?_) (fun h21 => ?_)
            · refine W_s (s_if_ne_f dX12_streetLine_99 rfl ((lgc_eq p1 123580963646565).mpr h21)) ?_
              exact W_wk (hJ19 μ17) (le_s rfl (le_s rfl le_n))
            · refine W_s (s_if_ne_t dX12_streetLine_99 rfl (fun hc => h21 ((lgc_eq p1 123580963646565).mp hc))) ?_
              refine W_s (s_lload_n dX12_streetLine_160 rfl rfl) ?_
              refine W_s (s_ldc2 dX12_streetLine_161 kw_RX12_187) ?_
              refine W_s (s_lcmp dX12_streetLine_164) ?_
              refine W_ite (fun h22 => ?_) (fun h22 => ?_)
              · refine W_s (s_if_ne_f dX12_streetLine_165 rfl ((lgc_eq p1 427070942835).mpr h22)) ?_
                refine W_s (s_aload_n dX12_streetLine_168 rfl rfl) ?_
                refine W_s (s_iconst dX12_streetLine_169 kci_0) ?_
                refine W_s (s_iconst dX12_streetLine_170 kci_3) ?_
                refine W_bd (ec := gx_eB) (fun r_ μ_ hr_ => s_callV (As := [.int _, .int _]) dX12_streetLine_171 Lk_RX12_202 rfl g_206 (by decide) rfl (Nat.le_of_ble_eq_true rfl) (Nat.le_of_ble_eq_true rfl) (ev_X12_takeOne 0 3 μ17 hr_)) (fun r64 μ65 => ?_)
                refine W_fun (fun J => ∀ (j0_73 : Bool) (μ74 : gx_M), GoW E l Y_X12_streetLine 5 gx_eB 193 [some (.ref (E.2.2.1 + 206))] [.int (gx_bi j0_73)] μ74 (J j0_73 μ74)) ?_ (fun J66 hJ66 => ?_)
                · intro j0_73 μ74
                  refine W_s (s_istore dX12_streetLine_193 (Nat.le_of_ble_eq_true rfl)) ?_
                  refine W_s (s_iload dX12_streetLine_195 rfl) ?_
                  refine W_ite (fun h75 => ?_) (fun h75 => ?_)
                  · refine W_s (s_if_eq_f dX12_streetLine_197 rfl (gx_bt h75)) ?_
                    refine W_s (s_aload_n dX12_streetLine_200 rfl rfl) ?_
                    refine W_s (gf_RX12_160 rfl dX12_streetLine_201) ?_
                    refine W_ite (fun h76 => ?_) (fun h76 => ?_)
                    · refine W_s (s_if_eq_t dX12_streetLine_204 rfl h76) ?_
                      refine W_s (s_iload dX12_streetLine_386 rfl) ?_
                      exact W_r (r := j0_73) (f_int (ty := .boolean) (x := gx_bi j0_73) dX12_streetLine_388 rfl (gx_bn j0_73))
                    · refine W_s (s_if_eq_f dX12_streetLine_204 rfl h76) ?_
                      refine W_s (s_aload_n dX12_streetLine_207 rfl rfl) ?_
                      refine W_s (gf_RX12_38 rfl dX12_streetLine_208) ?_
                      refine W_s (s_iconst dX12_streetLine_211 kci_3) ?_
                      refine W_s (s_aload_n dX12_streetLine_212 rfl rfl) ?_
                      refine W_s (gf_RX12_41 rfl dX12_streetLine_213) ?_
                      refine W_s (s_iconst dX12_streetLine_216 kci_0) ?_
                      refine W_s (s_ialdL (k := 0) dX12_streetLine_217 g_217 (gx_inl (by decide)) (by decide)) ?_
                      refine W_s (s_iadd dX12_streetLine_218) ?_
                      refine W_s (s_aload_n dX12_streetLine_219 rfl rfl) ?_
                      refine W_s (gf_RX12_41 rfl dX12_streetLine_220) ?_
                      refine W_s (s_iconst dX12_streetLine_223 kci_1) ?_
                      refine W_s (s_ialdL (k := 1) dX12_streetLine_224 g_217 (gx_inl (by decide)) (by decide)) ?_
                      refine W_ck (fun h77 => ?_)
                      refine W_s (s_iast dX12_streetLine_225 g_216 (gx_ixv h77)) ?_
                      refine W_letM (fun μ78 => ?_)
                      refine W_s (s_goto dX12_streetLine_226 rfl) ?_
                      refine W_s (s_iload dX12_streetLine_386 rfl) ?_
                      exact W_r (r := j0_73) (f_int (ty := .boolean) (x := gx_bi j0_73) dX12_streetLine_388 rfl (gx_bn j0_73))
                  · refine W_s (s_if_eq_t dX12_streetLine_197 rfl (gx_bf h75)) ?_
                    refine W_s (s_iload dX12_streetLine_386 rfl) ?_
                    exact W_r (r := j0_73) (f_int (ty := .boolean) (x := gx_bi j0_73) dX12_streetLine_388 rfl (gx_bn j0_73))
                · skip
                  refine W_fun (fun J => ∀ (μ72 : gx_M), GoW E l Y_X12_streetLine 5 gx_eB 192 [some (.ref (E.2.2.1 + 206))] [] μ72 (J μ72)) ?_ (fun J67 hJ67 => ?_)
                  · intro μ72
                    refine W_s (s_iconst dX12_streetLine_192 kci_0) ?_
                    exact W_wk (hJ66 false μ72) (le_s rfl le_n)
                  · skip
                    refine W_ite (fun h68 => ?_) (fun h68 => ?_)
                    · refine W_s (s_if_eq_f dX12_streetLine_174 rfl (gx_bt h68)) ?_
                      refine W_s (s_aload_n dX12_streetLine_177 rfl rfl) ?_
                      refine W_s (s_iconst dX12_streetLine_178 kci_1) ?_
                      refine W_s (s_iconst dX12_streetLine_179 kci_0) ?_
                      refine W_s (s_bipush dX12_streetLine_180 kcb_99) ?_
                      refine W_bd (ec := gx_eB) (fun r_ μ_ hr_ => s_callV (As := [.int _, .int _, .int _]) dX12_streetLine_182 Lk_RX12_167 rfl g_206 (by decide) rfl (Nat.le_of_ble_eq_true rfl) (Nat.le_of_ble_eq_true rfl) (ev_X12_take 1 0 99 μ65 hr_)) (fun r69 μ70 => ?_)
                      refine W_ite (fun h71 => ?_) (fun h71 => ?_)
                      · refine W_s (s_if_eq_f dX12_streetLine_185 rfl (gx_bt h71)) ?_
                        refine W_s (s_iconst dX12_streetLine_188 kci_1) ?_
                        refine W_s (s_goto dX12_streetLine_189 rfl) ?_
                        exact W_wk (hJ66 true μ70) (le_s rfl le_n)
                      · refine W_s (s_if_eq_t dX12_streetLine_185 rfl (gx_bf h71)) ?_
                        exact W_wk (hJ67 μ70) (le_s rfl le_n)
                    · refine W_s (s_if_eq_t dX12_streetLine_174 rfl (gx_bf h68)) ?_
                      exact W_wk (hJ67 μ65) (le_s rfl le_n)
              · refine W_s (s_if_ne_t dX12_streetLine_165 rfl (fun hc => h22 ((lgc_eq p1 427070942835).mp hc))) ?_
                refine W_s (s_lload_n dX12_streetLine_229 rfl rfl) ?_
                refine W_s (s_ldc2 dX12_streetLine_230 kw_RX12_189) ?_
                refine W_s (s_lcmp dX12_streetLine_233) ?_
                refine W_ite (fun h23 => ?_) (fun h23 => ?_)
                · refine W_s (s_if_ne_f dX12_streetLine_234 rfl ((lgc_eq p1 482955846501).mpr h23)) ?_
                  refine W_s (s_aload_n dX12_streetLine_237 rfl rfl) ?_
                  refine W_s (s_iconst dX12_streetLine_238 kci_0) ?_
                  refine W_s (s_iconst dX12_streetLine_239 kci_0) ?_
                  refine W_bd (ec := gx_eB) (fun r_ μ_ hr_ => s_callV (As := [.int _, .int _]) dX12_streetLine_240 Lk_RX12_180 rfl g_206 (by decide) rfl (Nat.le_of_ble_eq_true rfl) (Nat.le_of_ble_eq_true rfl) (ev_X12_takeMinute 0 0 μ17 hr_)) (fun r44 μ45 => ?_)
                  refine W_fun (fun J => ∀ (j0_56 : Bool) (μ57 : gx_M), GoW E l Y_X12_streetLine 5 gx_eB 276 [some (.ref (E.2.2.1 + 206))] [.int (gx_bi j0_56)] μ57 (J j0_56 μ57)) ?_ (fun J46 hJ46 => ?_)
                  · intro j0_56 μ57
                    refine W_s (s_istore dX12_streetLine_276 (Nat.le_of_ble_eq_true rfl)) ?_
                    refine W_s (s_aload_n dX12_streetLine_278 rfl rfl) ?_
                    refine W_s (s_bipush dX12_streetLine_279 kcb_31) ?_
                    refine W_s (s_aload_n dX12_streetLine_281 rfl rfl) ?_
                    refine W_s (gf_RX12_41 rfl dX12_streetLine_282) ?_
                    refine W_s (s_iconst dX12_streetLine_285 kci_0) ?_
                    refine W_s (s_ialdL (k := 0) dX12_streetLine_286 g_217 (gx_inl (by decide)) (by decide)) ?_
                    refine W_s (s_iload dX12_streetLine_287 rfl) ?_
                    refine W_fun (fun J => ∀ (j0_60 : Int32) (μ61 : gx_M), GoW E l Y_X12_streetLine 5 gx_eB 302 [some (.ref (E.2.2.1 + 206)), none, none, none, some (.int (gx_bi j0_56))] [.int j0_60, .int (μ57.1 217 0), .int 31, .ref (E.2.2.1 + 206)] μ61 (J j0_60 μ61)) ?_ (fun J58 hJ58 => ?_)
                    · intro j0_60 μ61
                      refine W_s (s_aload_n dX12_streetLine_302 rfl rfl) ?_
                      refine W_s (gf_RX12_41 rfl dX12_streetLine_303) ?_
                      refine W_s (s_iconst dX12_streetLine_306 kci_2) ?_
                      refine W_s (s_ialdL (k := 2) dX12_streetLine_307 g_217 (gx_inl (by decide)) (by decide)) ?_
                      refine W_bd (ec := gx_eV) (fun r_ μ_ hr_ => s_callV (As := [.int _, .int _, .int _, .int _]) dX12_streetLine_308 Lk_RX12_205 rfl g_206 (by decide) rfl (Nat.le_of_ble_eq_true rfl) (Nat.le_of_ble_eq_true rfl) (ev_X12_fill 31 (μ57.1 217 0) j0_60 (μ61.1 217 2) μ61 hr_)) (fun r62 μ63 => ?_)
                      refine W_s (s_goto dX12_streetLine_311 rfl) ?_
                      refine W_s (s_iload dX12_streetLine_386 rfl) ?_
                      exact W_r (r := j0_56) (f_int (ty := .boolean) (x := gx_bi j0_56) dX12_streetLine_388 rfl (gx_bn j0_56))
                    · skip
                      refine W_ite (fun h59 => ?_) (fun h59 => ?_)
                      · refine W_s (s_if_eq_f dX12_streetLine_289 rfl (gx_bt h59)) ?_
                        refine W_s (s_aload_n dX12_streetLine_292 rfl rfl) ?_
                        refine W_s (gf_RX12_41 rfl dX12_streetLine_293) ?_
                        refine W_s (s_iconst dX12_streetLine_296 kci_1) ?_
                        refine W_s (s_ialdL (k := 1) dX12_streetLine_297 g_217 (gx_inl (by decide)) (by decide)) ?_
                        refine W_s (s_goto dX12_streetLine_298 rfl) ?_
                        exact W_wk (hJ58 (μ57.1 217 1) μ57) (le_s rfl (le_o (le_o (le_o (le_s rfl le_n)))))
                      · refine W_s (s_if_eq_t dX12_streetLine_289 rfl (gx_bf h59)) ?_
                        refine W_s (s_iconst dX12_streetLine_301 kci_m1) ?_
                        exact W_wk (hJ58 (-1) μ57) (le_s rfl (le_o (le_o (le_o (le_s rfl le_n)))))
                  · skip
                    refine W_fun (fun J => ∀ (μ55 : gx_M), GoW E l Y_X12_streetLine 5 gx_eB 275 [some (.ref (E.2.2.1 + 206))] [] μ55 (J μ55)) ?_ (fun J47 hJ47 => ?_)
                    · intro μ55
                      refine W_s (s_iconst dX12_streetLine_275 kci_0) ?_
                      exact W_wk (hJ46 false μ55) (le_s rfl le_n)
                    · skip
                      refine W_ite (fun h48 => ?_) (fun h48 => ?_)
                      · refine W_s (s_if_eq_f dX12_streetLine_243 rfl (gx_bt h48)) ?_
                        refine W_s (s_aload_n dX12_streetLine_246 rfl rfl) ?_
                        refine W_s (s_iconst dX12_streetLine_247 kci_1) ?_
                        refine W_s (s_aload_n dX12_streetLine_248 rfl rfl) ?_
                        refine W_s (gf_RX12_41 rfl dX12_streetLine_249) ?_
                        refine W_s (s_iconst dX12_streetLine_252 kci_0) ?_
                        refine W_s (s_ialdL (k := 0) dX12_streetLine_253 g_217 (gx_inl (by decide)) (by decide)) ?_
                        refine W_bd (ec := gx_eB) (fun r_ μ_ hr_ => s_callV (As := [.int _, .int _]) dX12_streetLine_254 Lk_RX12_180 rfl g_206 (by decide) rfl (Nat.le_of_ble_eq_true rfl) (Nat.le_of_ble_eq_true rfl) (ev_X12_takeMinute 1 (μ45.1 217 0) μ45 hr_)) (fun r49 μ50 => ?_)
                        refine W_ite (fun h51 => ?_) (fun h51 => ?_)
                        · refine W_s (s_if_eq_f dX12_streetLine_257 rfl (gx_bt h51)) ?_
                          refine W_s (s_aload_n dX12_streetLine_260 rfl rfl) ?_
                          refine W_s (s_iconst dX12_streetLine_261 kci_2) ?_
                          refine W_s (s_iconst dX12_streetLine_262 kci_0) ?_
                          refine W_s (s_bipush dX12_streetLine_263 kcb_9) ?_
                          refine W_bd (ec := gx_eB) (fun r_ μ_ hr_ => s_callV (As := [.int _, .int _, .int _]) dX12_streetLine_265 Lk_RX12_167 rfl g_206 (by decide) rfl (Nat.le_of_ble_eq_true rfl) (Nat.le_of_ble_eq_true rfl) (ev_X12_take 2 0 9 μ50 hr_)) (fun r52 μ53 => ?_)
                          refine W_ite (fun h54 => ?_) (fun h54 => ?_)
                          · refine W_s (s_if_eq_f dX12_streetLine_268 rfl (gx_bt h54)) ?_
                            refine W_s (s_iconst dX12_streetLine_271 kci_1) ?_
                            refine W_s (s_goto dX12_streetLine_272 rfl) ?_
                            exact W_wk (hJ46 true μ53) (le_s rfl le_n)
                          · refine W_s (s_if_eq_t dX12_streetLine_268 rfl (gx_bf h54)) ?_
                            exact W_wk (hJ47 μ53) (le_s rfl le_n)
                        · refine W_s (s_if_eq_t dX12_streetLine_257 rfl (gx_bf h51)) ?_
                          exact W_wk (hJ47 μ50) (le_s rfl le_n)
                      · refine W_s (s_if_eq_t dX12_streetLine_243 rfl (gx_bf h48)) ?_
                        exact W_wk (hJ47 μ45) (le_s rfl le_n)
                · refine W_s (s_if_ne_t dX12_streetLine_234 rfl (fun hc => h23 ((lgc_eq p1 482955846501).mp hc))) ?_
                  refine W_s (s_aload_n dX12_streetLine_314 rfl rfl) ?_
                  refine W_s (s_iconst dX12_streetLine_315 kci_0) ?_
                  refine W_s (s_iconst dX12_streetLine_316 kci_3) ?_
                  refine W_bd (ec := gx_eB) (fun r_ μ_ hr_ => s_callV (As := [.int _, .int _]) dX12_streetLine_317 Lk_RX12_202 rfl g_206 (by decide) rfl (Nat.le_of_ble_eq_true rfl) (Nat.le_of_ble_eq_true rfl) (ev_X12_takeOne 0 3 μ17 hr_)) (fun r24 μ25 => ?_)
                  refine W_fun (fun J => ∀ (j0_36 : Bool) (μ37 : gx_M), GoW E l Y_X12_streetLine 5 gx_eB 351 [some (.ref (E.2.2.1 + 206))] [.int (gx_bi j0_36)] μ37 (J j0_36 μ37)) ?_ (fun J26 hJ26 => ?_)
                  · intro j0_36 μ37
                    refine W_s (s_istore dX12_streetLine_351 (Nat.le_of_ble_eq_true rfl)) ?_
                    refine W_s (s_aload_n dX12_streetLine_353 rfl rfl) ?_
                    refine W_s (s_bipush dX12_streetLine_354 kcb_71) ?_
                    refine W_s (s_aload_n dX12_streetLine_356 rfl rfl) ?_
                    refine W_s (gf_RX12_41 rfl dX12_streetLine_357) ?_
                    refine W_s (s_iconst dX12_streetLine_360 kci_1) ?_
                    refine W_s (s_ialdL (k := 1) dX12_streetLine_361 g_217 (gx_inl (by decide)) (by decide)) ?_
                    refine W_s (s_iload dX12_streetLine_362 rfl) ?_
                    refine W_fun (fun J => ∀ (j0_40 : Int32) (μ41 : gx_M), GoW E l Y_X12_streetLine 5 gx_eB 377 [some (.ref (E.2.2.1 + 206)), none, none, none, some (.int (gx_bi j0_36))] [.int j0_40, .int (μ37.1 217 1), .int 71, .ref (E.2.2.1 + 206)] μ41 (J j0_40 μ41)) ?_ (fun J38 hJ38 => ?_)
                    · intro j0_40 μ41
                      refine W_s (s_aload_n dX12_streetLine_377 rfl rfl) ?_
                      refine W_s (gf_RX12_41 rfl dX12_streetLine_378) ?_
                      refine W_s (s_iconst dX12_streetLine_381 kci_0) ?_
                      refine W_s (s_ialdL (k := 0) dX12_streetLine_382 g_217 (gx_inl (by decide)) (by decide)) ?_
                      refine W_bd (ec := gx_eV) (fun r_ μ_ hr_ => s_callV (As := [.int _, .int _, .int _, .int _]) dX12_streetLine_383 Lk_RX12_205 rfl g_206 (by decide) rfl (Nat.le_of_ble_eq_true rfl) (Nat.le_of_ble_eq_true rfl) (ev_X12_fill 71 (μ37.1 217 1) j0_40 (μ41.1 217 0) μ41 hr_)) (fun r42 μ43 => ?_)
                      refine W_s (s_iload dX12_streetLine_386 rfl) ?_
                      exact W_r (r := j0_36) (f_int (ty := .boolean) (x := gx_bi j0_36) dX12_streetLine_388 rfl (gx_bn j0_36))
                    · skip
                      refine W_ite (fun h39 => ?_) (fun h39 => ?_)
                      · refine W_s (s_if_eq_f dX12_streetLine_364 rfl (gx_bt h39)) ?_
                        refine W_s (s_aload_n dX12_streetLine_367 rfl rfl) ?_
                        refine W_s (gf_RX12_41 rfl dX12_streetLine_368) ?_
                        refine W_s (s_iconst dX12_streetLine_371 kci_2) ?_
                        refine W_s (s_ialdL (k := 2) dX12_streetLine_372 g_217 (gx_inl (by decide)) (by decide)) ?_
                        refine W_s (s_goto dX12_streetLine_373 rfl) ?_
                        exact W_wk (hJ38 (μ37.1 217 2) μ37) (le_s rfl (le_o (le_o (le_o (le_s rfl le_n)))))
                      · refine W_s (s_if_eq_t dX12_streetLine_364 rfl (gx_bf h39)) ?_
                        refine W_s (s_iconst dX12_streetLine_376 kci_m1) ?_
                        exact W_wk (hJ38 (-1) μ37) (le_s rfl (le_o (le_o (le_o (le_s rfl le_n)))))
                  · skip
                    refine W_fun (fun J => ∀ (μ35 : gx_M), GoW E l Y_X12_streetLine 5 gx_eB 350 [some (.ref (E.2.2.1 + 206))] [] μ35 (J μ35)) ?_ (fun J27 hJ27 => ?_)
                    · intro μ35
                      refine W_s (s_iconst dX12_streetLine_350 kci_0) ?_
                      exact W_wk (hJ26 false μ35) (le_s rfl le_n)
                    · skip
                      refine W_ite (fun h28 => ?_) (fun h28 => ?_)
                      · refine W_s (s_if_eq_f dX12_streetLine_320 rfl (gx_bt h28)) ?_
                        refine W_s (s_aload_n dX12_streetLine_323 rfl rfl) ?_
                        refine W_s (s_iconst dX12_streetLine_324 kci_1) ?_
                        refine W_s (s_iconst dX12_streetLine_325 kci_0) ?_
                        refine W_bd (ec := gx_eB) (fun r_ μ_ hr_ => s_callV (As := [.int _, .int _]) dX12_streetLine_326 Lk_RX12_180 rfl g_206 (by decide) rfl (Nat.le_of_ble_eq_true rfl) (Nat.le_of_ble_eq_true rfl) (ev_X12_takeMinute 1 0 μ25 hr_)) (fun r29 μ30 => ?_)
                        refine W_ite (fun h31 => ?_) (fun h31 => ?_)
                        · refine W_s (s_if_eq_f dX12_streetLine_329 rfl (gx_bt h31)) ?_
                          refine W_s (s_aload_n dX12_streetLine_332 rfl rfl) ?_
                          refine W_s (s_iconst dX12_streetLine_333 kci_2) ?_
                          refine W_s (s_aload_n dX12_streetLine_334 rfl rfl) ?_
                          refine W_s (gf_RX12_41 rfl dX12_streetLine_335) ?_
                          refine W_s (s_iconst dX12_streetLine_338 kci_1) ?_
                          refine W_s (s_ialdL (k := 1) dX12_streetLine_339 g_217 (gx_inl (by decide)) (by decide)) ?_
                          refine W_bd (ec := gx_eB) (fun r_ μ_ hr_ => s_callV (As := [.int _, .int _]) dX12_streetLine_340 Lk_RX12_180 rfl g_206 (by decide) rfl (Nat.le_of_ble_eq_true rfl) (Nat.le_of_ble_eq_true rfl) (ev_X12_takeMinute 2 (μ30.1 217 1) μ30 hr_)) (fun r32 μ33 => ?_)
                          refine W_ite (fun h34 => ?_) (fun h34 => ?_)
                          · refine W_s (s_if_eq_f dX12_streetLine_343 rfl (gx_bt h34)) ?_
                            refine W_s (s_iconst dX12_streetLine_346 kci_1) ?_
                            refine W_s (s_goto dX12_streetLine_347 rfl) ?_
                            exact W_wk (hJ26 true μ33) (le_s rfl le_n)
                          · refine W_s (s_if_eq_t dX12_streetLine_343 rfl (gx_bf h34)) ?_
                            exact W_wk (hJ27 μ33) (le_s rfl le_n)
                        · refine W_s (s_if_eq_t dX12_streetLine_329 rfl (gx_bf h31)) ?_
                          exact W_wk (hJ27 μ30) (le_s rfl le_n)
                      · refine W_s (s_if_eq_t dX12_streetLine_320 rfl (gx_bf h28)) ?_
                        exact W_wk (hJ27 μ25) (le_s rfl le_n)
    · skip
      refine W_ite (fun h12 => ?_) (fun h12 => ?_)
      · refine W_s (s_if_ne_f dX12_streetLine_58 rfl ((lgc_eq p1 7094703684652987251).mpr h12)) ?_
        refine W_s (s_aload_n dX12_streetLine_61 rfl rfl) ?_
        refine W_s (s_iconst dX12_streetLine_62 kci_2) ?_
        refine W_s (s_bipush dX12_streetLine_63 kcb_6) ?_
        refine W_s (s_iload_n dX12_streetLine_65 rfl rfl) ?_
        refine W_bd (ec := gx_eV) (fun r_ μ_ hr_ => s_callV (As := [.int _, .int _, .int _]) dX12_streetLine_66 Lk_RX12_195 rfl g_206 (by decide) rfl (Nat.le_of_ble_eq_true rfl) (Nat.le_of_ble_eq_true rfl) (ev_X12_full 2 6 p3 μ10 hr_)) (fun r13 μ14 => ?_)
        exact W_wk (hJ11 μ14) (le_s rfl (le_s rfl le_n))
      · refine W_s (s_if_ne_t dX12_streetLine_58 rfl (fun hc => h12 ((lgc_eq p1 7094703684652987251).mp hc))) ?_
        exact W_wk (hJ11 μ10) (le_s rfl (le_s rfl le_n))
  · skip
    refine W_ite (fun h2 => ?_) (fun h2 => ?_)
    · refine W_s (s_if_eq_t dX12_streetLine_5 rfl ((lgc_eq p1 30796695599342963).mpr h2)) ?_
      exact W_wk (hJ1 μ) (le_s rfl (le_s rfl (le_o (le_s rfl le_n))))
    · refine W_s (s_if_eq_f dX12_streetLine_5 rfl (fun hc => h2 ((lgc_eq p1 30796695599342963).mp hc))) ?_
      refine W_s (s_lload_n dX12_streetLine_8 rfl rfl) ?_
      refine W_s (s_ldc2 dX12_streetLine_9 kw_RX12_185) ?_
      refine W_s (s_lcmp dX12_streetLine_12) ?_
      refine W_ite (fun h3 => ?_) (fun h3 => ?_)
      · refine W_s (s_if_eq_t dX12_streetLine_13 rfl ((lgc_eq p1 123580963646565).mpr h3)) ?_
        exact W_wk (hJ1 μ) (le_s rfl (le_s rfl (le_o (le_s rfl le_n))))
      · refine W_s (s_if_eq_f dX12_streetLine_13 rfl (fun hc => h3 ((lgc_eq p1 123580963646565).mp hc))) ?_
        refine W_s (s_lload_n dX12_streetLine_16 rfl rfl) ?_
        refine W_s (s_ldc2 dX12_streetLine_17 kw_RX12_187) ?_
        refine W_s (s_lcmp dX12_streetLine_20) ?_
        refine W_ite (fun h4 => ?_) (fun h4 => ?_)
        · refine W_s (s_if_eq_t dX12_streetLine_21 rfl ((lgc_eq p1 427070942835).mpr h4)) ?_
          exact W_wk (hJ1 μ) (le_s rfl (le_s rfl (le_o (le_s rfl le_n))))
        · refine W_s (s_if_eq_f dX12_streetLine_21 rfl (fun hc => h4 ((lgc_eq p1 427070942835).mp hc))) ?_
          refine W_s (s_lload_n dX12_streetLine_24 rfl rfl) ?_
          refine W_s (s_ldc2 dX12_streetLine_25 kw_RX12_189) ?_
          refine W_s (s_lcmp dX12_streetLine_28) ?_
          refine W_ite (fun h5 => ?_) (fun h5 => ?_)
          · refine W_s (s_if_eq_t dX12_streetLine_29 rfl ((lgc_eq p1 482955846501).mpr h5)) ?_
            exact W_wk (hJ1 μ) (le_s rfl (le_s rfl (le_o (le_s rfl le_n))))
          · refine W_s (s_if_eq_f dX12_streetLine_29 rfl (fun hc => h5 ((lgc_eq p1 482955846501).mp hc))) ?_
            refine W_s (s_lload_n dX12_streetLine_32 rfl rfl) ?_
            refine W_s (s_ldc2 dX12_streetLine_33 kw_RX12_191) ?_
            refine W_s (s_lcmp dX12_streetLine_36) ?_
            refine W_ite (fun h6 => ?_) (fun h6 => ?_)
            · refine W_s (s_if_eq_t dX12_streetLine_37 rfl ((lgc_eq p1 6840691).mpr h6)) ?_
              exact W_wk (hJ1 μ) (le_s rfl (le_s rfl (le_o (le_s rfl le_n))))
            · refine W_s (s_if_eq_f dX12_streetLine_37 rfl (fun hc => h6 ((lgc_eq p1 6840691).mp hc))) ?_
              refine W_s (s_lload_n dX12_streetLine_40 rfl rfl) ?_
              refine W_s (s_ldc2 dX12_streetLine_41 kw_RX12_193) ?_
              refine W_s (s_lcmp dX12_streetLine_44) ?_
              refine W_ite (fun h7 => ?_) (fun h7 => ?_)
              · refine W_s (s_if_eq_t dX12_streetLine_45 rfl ((lgc_eq p1 7094703684652987251).mpr h7)) ?_
                exact W_wk (hJ1 μ) (le_s rfl (le_s rfl (le_o (le_s rfl le_n))))
              · refine W_s (s_if_eq_f dX12_streetLine_45 rfl (fun hc => h7 ((lgc_eq p1 7094703684652987251).mp hc))) ?_
                refine W_s (s_aload_n dX12_streetLine_48 rfl rfl) ?_
                refine W_bd (ec := gx_eB) (fun r_ μ_ hr_ => s_callV (As := []) dX12_streetLine_49 Lk_RX12_152 rfl g_206 (by decide) rfl (Nat.le_of_ble_eq_true rfl) (Nat.le_of_ble_eq_true rfl) (ev_X12_fails μ hr_)) (fun r8 μ9 => ?_)
                exact W_r (r := r8) (f_int (ty := .boolean) (x := gx_bi r8) dX12_streetLine_52 rfl (gx_bn r8))

def f_X12_doesDeed (p1 : Int32) (μ : gx_M) : Option (Bool × gx_M) := gx_br (f_X12_deedOf p1 0 μ) (fun (r1 : Int32) => gx_br (f_X12_deedOf p1 1 μ) (fun (r2 : Int32) => gx_br (f_X12_deedOf p1 2 μ) (fun (r3 : Int32) => gx_br (f_X12_deedOf p1 3 μ) (fun (r4 : Int32) => gx_bd (f_X12_does r1 r2 r3 r4 μ) (fun (r5 : Bool) (μ6 : gx_M) => some (r5, μ6))))))
theorem ev_X12_doesDeed {E : gx_E} {l : Launch} (p1 : Int32) (μ : gx_M) {r : Bool} {μ' : gx_M} (hr : f_X12_doesDeed p1 μ = some (r, μ')) : gEv E l 5 Y_X12_doesDeed [.ref (E.2.2.1 + 206), .int p1] gx_G1 μ (gx_eB r) gx_G1 μ' := by
  refine W_ev (by decide) (Nat.le_of_ble_eq_true rfl) (em := gx_eB) (T := f_X12_doesDeed p1 μ) ?_ hr
  show GoW E l Y_X12_doesDeed 5 gx_eB 0 (gx_el [.ref (E.2.2.1 + 206), .int p1]) [] μ (f_X12_doesDeed p1 μ)
  unfold f_X12_doesDeed
  refine W_s (s_aload_n dX12_doesDeed_0 rfl rfl) ?_
  refine W_s (s_aload_n dX12_doesDeed_1 rfl rfl) ?_
  refine W_s (s_iload_n dX12_doesDeed_2 rfl rfl) ?_
  refine W_s (s_iconst dX12_doesDeed_3 kci_0) ?_
  refine W_br (ec := gx_eI) (fun r_ hr_ => s_callV (As := [.int _, .int _]) dX12_doesDeed_4 Lk_RX12_310 rfl g_206 (by decide) rfl (Nat.le_of_ble_eq_true rfl) (Nat.le_of_ble_eq_true rfl) (ev_X12_deedOf p1 0 μ hr_)) (fun r1 => ?_)
  refine W_s (s_aload_n dX12_doesDeed_7 rfl rfl) ?_
  refine W_s (s_iload_n dX12_doesDeed_8 rfl rfl) ?_
  refine W_s (s_iconst dX12_doesDeed_9 kci_1) ?_
  refine W_br (ec := gx_eI) (fun r_ hr_ => s_callV (As := [.int _, .int _]) dX12_doesDeed_10 Lk_RX12_310 rfl g_206 (by decide) rfl (Nat.le_of_ble_eq_true rfl) (Nat.le_of_ble_eq_true rfl) (ev_X12_deedOf p1 1 μ hr_)) (fun r2 => ?_)
  refine W_s (s_aload_n dX12_doesDeed_13 rfl rfl) ?_
  refine W_s (s_iload_n dX12_doesDeed_14 rfl rfl) ?_
  refine W_s (s_iconst dX12_doesDeed_15 kci_2) ?_
  refine W_br (ec := gx_eI) (fun r_ hr_ => s_callV (As := [.int _, .int _]) dX12_doesDeed_16 Lk_RX12_310 rfl g_206 (by decide) rfl (Nat.le_of_ble_eq_true rfl) (Nat.le_of_ble_eq_true rfl) (ev_X12_deedOf p1 2 μ hr_)) (fun r3 => ?_)
  refine W_s (s_aload_n dX12_doesDeed_19 rfl rfl) ?_
  refine W_s (s_iload_n dX12_doesDeed_20 rfl rfl) ?_
  refine W_s (s_iconst dX12_doesDeed_21 kci_3) ?_
  refine W_br (ec := gx_eI) (fun r_ hr_ => s_callV (As := [.int _, .int _]) dX12_doesDeed_22 Lk_RX12_310 rfl g_206 (by decide) rfl (Nat.le_of_ble_eq_true rfl) (Nat.le_of_ble_eq_true rfl) (ev_X12_deedOf p1 3 μ hr_)) (fun r4 => ?_)
  refine W_bd (ec := gx_eB) (fun r_ μ_ hr_ => s_callV (As := [.int _, .int _, .int _, .int _]) dX12_doesDeed_25 Lk_RX12_346 rfl g_206 (by decide) rfl (Nat.le_of_ble_eq_true rfl) (Nat.le_of_ble_eq_true rfl) (ev_X12_does r1 r2 r3 r4 μ hr_)) (fun r5 μ6 => ?_)
  exact W_r (r := r5) (f_int (ty := .boolean) (x := gx_bi r5) dX12_doesDeed_28 rfl (gx_bn r5))

def f_X12_run (p1 : Int32) (p2 : Int32) (p3 : Int32) (p4 : Bool) (μ : gx_M) : Option (Int32 × gx_M) := gx_lt (gx_uI μ 206 0 0) (fun (μ1 : gx_M) => gx_bd (f_X12_hand p1 μ1) (fun (r2 : Bool) (μ3 : gx_M) => if r2 = true then if (f_X12_isPerson p2 μ3) = true then if (f_X12_isTask p3 μ3) = true then gx_br (f_X12_firstRun p2 p3 μ3) (fun (r7 : Int32) => if r7 = (-1) then some (r7, μ3) else if p4 = true then gx_br (f_X12_runCost p2 p3 r7 μ3) (fun (r10 : Int32) => some (r10, μ3)) else some (r7, μ3)) else some ((-1), μ3) else some ((-1), μ3) else some ((-1), μ3)))
theorem ev_X12_run {E : gx_E} {l : Launch} (p1 : Int32) (p2 : Int32) (p3 : Int32) (p4 : Bool) (μ : gx_M) {r : Int32} {μ' : gx_M} (hr : f_X12_run p1 p2 p3 p4 μ = some (r, μ')) : gEv E l 5 Y_X12_run [.ref (E.2.2.1 + 206), .int p1, .int p2, .int p3, .int (gx_bi p4)] gx_G1 μ (gx_eI r) gx_G1 μ' := by
  refine W_ev (by decide) (Nat.le_of_ble_eq_true rfl) (em := gx_eI) (T := f_X12_run p1 p2 p3 p4 μ) ?_ hr
  show GoW E l Y_X12_run 5 gx_eI 0 (gx_el [.ref (E.2.2.1 + 206), .int p1, .int p2, .int p3, .int (gx_bi p4)]) [] μ (f_X12_run p1 p2 p3 p4 μ)
  unfold f_X12_run
  refine W_s (s_aload_n dX12_run_0 rfl rfl) ?_
  refine W_s (s_iconst dX12_run_1 kci_0) ?_
  refine W_s (pf_RX12_100 rfl dX12_run_2) ?_
  refine W_letM (fun μ1 => ?_)
  refine W_s (s_aload_n dX12_run_5 rfl rfl) ?_
  refine W_s (s_iload_n dX12_run_6 rfl rfl) ?_
  refine W_bd (ec := gx_eB) (fun r_ μ_ hr_ => s_callV (As := [.int _]) dX12_run_7 Lk_RX12_298 rfl g_206 (by decide) rfl (Nat.le_of_ble_eq_true rfl) (Nat.le_of_ble_eq_true rfl) (ev_X12_hand p1 μ1 hr_)) (fun r2 μ3 => ?_)
  refine W_ite (fun h4 => ?_) (fun h4 => ?_)
  · refine W_s (s_if_eq_f dX12_run_10 rfl (gx_bt h4)) ?_
    refine W_s (s_aload_n dX12_run_13 rfl rfl) ?_
    refine W_s (s_iload_n dX12_run_14 rfl rfl) ?_
    refine W_s (s_callV (As := [.int _]) dX12_run_15 Lk_RX12_316 rfl g_206 (by decide) rfl (Nat.le_of_ble_eq_true rfl) (Nat.le_of_ble_eq_true rfl) (ev_X12_isPerson p2 μ3)) ?_
    refine W_ite (fun h5 => ?_) (fun h5 => ?_)
    · refine W_s (s_if_eq_f dX12_run_18 rfl (gx_bt h5)) ?_
      refine W_s (s_aload_n dX12_run_21 rfl rfl) ?_
      refine W_s (s_iload_n dX12_run_22 rfl rfl) ?_
      refine W_s (s_callV (As := [.int _]) dX12_run_23 Lk_RX12_319 rfl g_206 (by decide) rfl (Nat.le_of_ble_eq_true rfl) (Nat.le_of_ble_eq_true rfl) (ev_X12_isTask p3 μ3)) ?_
      refine W_ite (fun h6 => ?_) (fun h6 => ?_)
      · refine W_s (s_if_ne_t dX12_run_26 rfl (gx_bt h6)) ?_
        refine W_s (s_aload_n dX12_run_31 rfl rfl) ?_
        refine W_s (s_iload_n dX12_run_32 rfl rfl) ?_
        refine W_s (s_iload_n dX12_run_33 rfl rfl) ?_
        refine W_br (ec := gx_eI) (fun r_ hr_ => s_callV (As := [.int _, .int _]) dX12_run_34 Lk_RX12_382 rfl g_206 (by decide) rfl (Nat.le_of_ble_eq_true rfl) (Nat.le_of_ble_eq_true rfl) (ev_X12_firstRun p2 p3 μ3 hr_)) (fun r7 => ?_)
        refine W_s (s_istore dX12_run_37 (Nat.le_of_ble_eq_true rfl)) ?_
        refine W_s (s_iload dX12_run_39 rfl) ?_
        refine W_s (s_iconst dX12_run_41 kci_m1) ?_
        refine W_ite (fun h8 => ?_) (fun h8 => ?_)
        · refine W_s (s_icmp_eq_t dX12_run_42 rfl h8) ?_
          refine W_s (s_iload dX12_run_50 rfl) ?_
          refine W_s (s_goto dX12_run_52 rfl) ?_
          exact W_r (r := r7) (f_int (ty := .int) dX12_run_63 rfl rfl)
        · refine W_s (s_icmp_eq_f dX12_run_42 rfl h8) ?_
          refine W_s (s_iload dX12_run_45 rfl) ?_
          refine W_ite (fun h9 => ?_) (fun h9 => ?_)
          · refine W_s (s_if_ne_t dX12_run_47 rfl (gx_bt h9)) ?_
            refine W_s (s_aload_n dX12_run_55 rfl rfl) ?_
            refine W_s (s_iload_n dX12_run_56 rfl rfl) ?_
            refine W_s (s_iload_n dX12_run_57 rfl rfl) ?_
            refine W_s (s_iload dX12_run_58 rfl) ?_
            refine W_br (ec := gx_eI) (fun r_ hr_ => s_callV (As := [.int _, .int _, .int _]) dX12_run_60 Lk_RX12_378 rfl g_206 (by decide) rfl (Nat.le_of_ble_eq_true rfl) (Nat.le_of_ble_eq_true rfl) (ev_X12_runCost p2 p3 r7 μ3 hr_)) (fun r10 => ?_)
            exact W_r (r := r10) (f_int (ty := .int) dX12_run_63 rfl rfl)
          · refine W_s (s_if_ne_f dX12_run_47 rfl (gx_bf h9)) ?_
            refine W_s (s_iload dX12_run_50 rfl) ?_
            refine W_s (s_goto dX12_run_52 rfl) ?_
            exact W_r (r := r7) (f_int (ty := .int) dX12_run_63 rfl rfl)
      · refine W_s (s_if_ne_f dX12_run_26 rfl (gx_bf h6)) ?_
        refine W_s (s_iconst dX12_run_29 kci_m1) ?_
        exact W_r (r := (-1)) (f_int (ty := .int) dX12_run_30 rfl rfl)
    · refine W_s (s_if_eq_t dX12_run_18 rfl (gx_bf h5)) ?_
      refine W_s (s_iconst dX12_run_29 kci_m1) ?_
      exact W_r (r := (-1)) (f_int (ty := .int) dX12_run_30 rfl rfl)
  · refine W_s (s_if_eq_t dX12_run_10 rfl (gx_bf h4)) ?_
    refine W_s (s_iconst dX12_run_29 kci_m1) ?_
    exact W_r (r := (-1)) (f_int (ty := .int) dX12_run_30 rfl rfl)

def f_X12_costOf (p1 : Int32) (p2 : Int32) (μ : gx_M) : Option (Int32 × gx_M) := gx_bd (f_X12_findCosts p1 μ) (fun (r1 : Unit) (μ2 : gx_M) => gx_ck (gx_ix p2 2624 = true) (some ((μ2.1 226 p2.toNatClampNeg), μ2)))
theorem ev_X12_costOf {E : gx_E} {l : Launch} (p1 : Int32) (p2 : Int32) (μ : gx_M) {r : Int32} {μ' : gx_M} (hr : f_X12_costOf p1 p2 μ = some (r, μ')) : gEv E l 5 Y_X12_costOf [.ref (E.2.2.1 + 206), .int p1, .int p2] gx_G1 μ (gx_eI r) gx_G1 μ' := by
  refine W_ev (by decide) (Nat.le_of_ble_eq_true rfl) (em := gx_eI) (T := f_X12_costOf p1 p2 μ) ?_ hr
  show GoW E l Y_X12_costOf 5 gx_eI 0 (gx_el [.ref (E.2.2.1 + 206), .int p1, .int p2]) [] μ (f_X12_costOf p1 p2 μ)
  unfold f_X12_costOf
  refine W_s (s_aload_n dX12_costOf_0 rfl rfl) ?_
  refine W_s (s_iload_n dX12_costOf_1 rfl rfl) ?_
  refine W_bd (ec := gx_eV) (fun r_ μ_ hr_ => s_callV (As := [.int _]) dX12_costOf_2 Lk_RX12_385 rfl g_206 (by decide) rfl (Nat.le_of_ble_eq_true rfl) (Nat.le_of_ble_eq_true rfl) (ev_X12_findCosts p1 μ hr_)) (fun r1 μ2 => ?_)
  refine W_s (s_aload_n dX12_costOf_5 rfl rfl) ?_
  refine W_s (gf_RX12_69 rfl dX12_costOf_6) ?_
  refine W_s (s_iload_n dX12_costOf_9 rfl rfl) ?_
  refine W_ck (fun h3 => ?_)
  refine W_s (s_iald dX12_costOf_10 g_226 (gx_ixv h3)) ?_
  exact W_r (r := (μ2.1 226 p2.toNatClampNeg)) (f_int (ty := .int) dX12_costOf_11 rfl rfl)

def L_X12_planOf_14 (p1 : Int32) (k7 : Int32 → gx_M → Option (Int32 × gx_M)) : Nat → Int32 → Int32 → gx_M → Option (Int32 × gx_M)
  | 0, _, _, _ => none
  | n + 1, v2_4, v3_5, μ6 => if ((1 : Int32) <<< ((μ6.1 206 27) &&& 31)) ≤ v3_5 then k7 v2_4 μ6 else gx_ck (gx_ix v3_5 2624 = true) (gx_br (f_X12_of ((3 : Int32) + p1) μ6) (fun (r10 : Int32) => gx_lt (fun (j0_14 : Int32) (μ15 : gx_M) => gx_lt (fun (j0_26 : Bool) (μ27 : gx_M) => gx_lt (fun (j0_30 : Int32) (μ31 : gx_M) => gx_lt (gx_uI μ31 206 41 j0_30) (fun (μ32 : gx_M) => gx_lt (f_X12_greater v2_4 j0_14) (fun (x33 : Int32) => L_X12_planOf_14 p1 k7 n x33 (v3_5 + 1) μ32))) (fun J28 => if j0_26 = true then J28 v3_5 μ27 else J28 (μ27.1 206 41) μ27)) (fun J16 => gx_lt (fun (μ25 : gx_M) => J16 true μ25) (fun J17 => if v2_4 < j0_14 then J17 μ15 else gx_lt (fun (μ24 : gx_M) => J16 false μ24) (fun J19 => if j0_14 = v2_4 then gx_br (f_X12_ones v3_5 μ15) (fun (r21 : Int32) => gx_br (f_X12_ones (μ15.1 206 41) μ15) (fun (r22 : Int32) => if r22 ≤ r21 then J19 μ15 else J17 μ15)) else J19 μ15)))) (fun J11 => if r10 < (μ6.1 226 v3_5.toNatClampNeg) then J11 (-1) μ6 else gx_br (f_X12_worthOf v3_5 μ6) (fun (r13 : Int32) => J11 (r13 - (μ6.1 226 v3_5.toNatClampNeg)) μ6))))
def f_X12_planOf (p1 : Int32) (μ : gx_M) : Option (Int32 × gx_M) := gx_bd (f_X12_findCosts p1 μ) (fun (r1 : Unit) (μ2 : gx_M) => gx_lt (gx_uI μ2 206 41 0) (fun (μ3 : gx_M) => L_X12_planOf_14 p1 (fun (x2_36 : Int32) (μ37 : gx_M) => some (x2_36, μ37)) 4000 0 1 μ3))
theorem okL_X12_planOf_14 {E : gx_E} {l : Launch} {p1 : Int32} {k7 : Int32 → gx_M → Option (Int32 × gx_M)} (hk : ∀ (w34 : Int32) (μ35 : gx_M), GoW E l Y_X12_planOf 5 gx_eI 121 [none, none, some (.int w34)] [] μ35 (k7 w34 μ35)) : ∀ (n : Nat) (v2_4 : Int32) (v3_5 : Int32) (μ6 : gx_M), GoW E l Y_X12_planOf 5 gx_eI 14 [some (.ref (E.2.2.1 + 206)), some (.int p1), some (.int v2_4), some (.int v3_5)] [] μ6 (L_X12_planOf_14 p1 k7 n v2_4 v3_5 μ6) := by
  intro n
  induction n with
  | zero => intros; exact W_no
  | succ n ih =>
    intro v2_4 v3_5 μ6
    rw [L_X12_planOf_14.eq_2]
    refine W_s (s_iload_n dX12_planOf_14 rfl rfl) ?_
    refine W_s (s_iconst dX12_planOf_15 kci_1) ?_
    refine W_s (s_aload_n dX12_planOf_16 rfl rfl) ?_
    refine W_s (gf_RX12_289 rfl dX12_planOf_17) ?_
    refine W_s (s_ishl dX12_planOf_20) ?_
    refine W_ite (fun h8 => ?_) (fun h8 => ?_)
    · refine W_s (s_icmp_ge_t dX12_planOf_21 rfl h8) ?_
      exact W_wk (hk v2_4 μ6) (le_o (le_o (le_s rfl le_n)))
    · refine W_s (s_icmp_ge_f dX12_planOf_21 rfl h8) ?_
      refine W_s (s_aload_n dX12_planOf_24 rfl rfl) ?_
      refine W_s (gf_RX12_69 rfl dX12_planOf_25) ?_
      refine W_s (s_iload_n dX12_planOf_28 rfl rfl) ?_
      refine W_ck (fun h9 => ?_)
      refine W_s (s_iald dX12_planOf_29 g_226 (gx_ixv h9)) ?_
      refine W_s (s_aload_n dX12_planOf_30 rfl rfl) ?_
      refine W_s (s_iconst dX12_planOf_31 kci_3) ?_
      refine W_s (s_iload_n dX12_planOf_32 rfl rfl) ?_
      refine W_s (s_iadd dX12_planOf_33) ?_
      refine W_br (ec := gx_eI) (fun r_ hr_ => s_callV (As := [.int _]) dX12_planOf_34 Lk_RX12_279 rfl g_206 (by decide) rfl (Nat.le_of_ble_eq_true rfl) (Nat.le_of_ble_eq_true rfl) (ev_X12_of ((3 : Int32) + p1) μ6 hr_)) (fun r10 => ?_)
      refine W_fun (fun J => ∀ (j0_14 : Int32) (μ15 : gx_M), GoW E l Y_X12_planOf 5 gx_eI 56 [some (.ref (E.2.2.1 + 206)), some (.int p1), some (.int v2_4), some (.int v3_5)] [.int j0_14] μ15 (J j0_14 μ15)) ?_ (fun J11 hJ11 => ?_)
      · intro j0_14 μ15
        refine W_s (s_istore dX12_planOf_56 (Nat.le_of_ble_eq_true rfl)) ?_
        refine W_s (s_iload dX12_planOf_58 rfl) ?_
        refine W_s (s_iload_n dX12_planOf_60 rfl rfl) ?_
        refine W_fun (fun J => ∀ (j0_26 : Bool) (μ27 : gx_M), GoW E l Y_X12_planOf 5 gx_eI 89 [some (.ref (E.2.2.1 + 206)), some (.int p1), some (.int v2_4), some (.int v3_5), some (.int j0_14)] [.int (gx_bi j0_26)] μ27 (J j0_26 μ27)) ?_ (fun J16 hJ16 => ?_)
        · intro j0_26 μ27
          refine W_s (s_istore dX12_planOf_89 (Nat.le_of_ble_eq_true rfl)) ?_
          refine W_s (s_aload_n dX12_planOf_91 rfl rfl) ?_
          refine W_s (s_iload dX12_planOf_92 rfl) ?_
          refine W_fun (fun J => ∀ (j0_30 : Int32) (μ31 : gx_M), GoW E l Y_X12_planOf 5 gx_eI 105 [some (.ref (E.2.2.1 + 206)), some (.int p1), some (.int v2_4), some (.int v3_5), some (.int j0_14)] [.int j0_30, .ref (E.2.2.1 + 206)] μ31 (J j0_30 μ31)) ?_ (fun J28 hJ28 => ?_)
          · intro j0_30 μ31
            refine W_s (pf_RX12_397 rfl dX12_planOf_105) ?_
            refine W_letM (fun μ32 => ?_)
            refine W_s (s_iload_n dX12_planOf_108 rfl rfl) ?_
            refine W_s (s_iload dX12_planOf_109 rfl) ?_
            refine W_s (s_callS (As := [.int _, .int _]) dX12_planOf_111 Lk_RX12_173 rfl (Nat.le_of_ble_eq_true rfl) (Nat.le_of_ble_eq_true rfl) (ev_X12_greater v2_4 j0_14 μ32)) ?_
            refine W_letI (fun x33 => ?_)
            refine W_s (s_istore_n dX12_planOf_114 rfl (Nat.le_of_ble_eq_true rfl)) ?_
            refine W_s (s_iinc dX12_planOf_115 rfl (kinc_1 v3_5) (Nat.le_of_ble_eq_true rfl)) ?_
            refine W_s (s_goto dX12_planOf_118 rfl) ?_
            exact W_wk (ih x33 (v3_5 + 1) μ32) (le_s rfl (le_s rfl (le_s rfl (le_s rfl le_n))))
          · skip
            refine W_ite (fun h29 => ?_) (fun h29 => ?_)
            · refine W_s (s_if_eq_f dX12_planOf_94 rfl (gx_bt h29)) ?_
              refine W_s (s_iload_n dX12_planOf_97 rfl rfl) ?_
              refine W_s (s_goto dX12_planOf_98 rfl) ?_
              exact W_wk (hJ28 v3_5 μ27) (le_s rfl (le_s rfl (le_s rfl (le_s rfl (le_s rfl le_n)))))
            · refine W_s (s_if_eq_t dX12_planOf_94 rfl (gx_bf h29)) ?_
              refine W_s (s_aload_n dX12_planOf_101 rfl rfl) ?_
              refine W_s (gf_RX12_397 rfl dX12_planOf_102) ?_
              exact W_wk (hJ28 (μ27.1 206 41) μ27) (le_s rfl (le_s rfl (le_s rfl (le_s rfl (le_s rfl le_n)))))
        · skip
          refine W_fun (fun J => ∀ (μ25 : gx_M), GoW E l Y_X12_planOf 5 gx_eI 84 [some (.ref (E.2.2.1 + 206)), some (.int p1), some (.int v2_4), some (.int v3_5), some (.int j0_14)] [] μ25 (J μ25)) ?_ (fun J17 hJ17 => ?_)
          · intro μ25
            refine W_s (s_iconst dX12_planOf_84 kci_1) ?_
            refine W_s (s_goto dX12_planOf_85 rfl) ?_
            exact W_wk (hJ16 true μ25) (le_s rfl (le_s rfl (le_s rfl (le_s rfl (le_s rfl le_n)))))
          · skip
            refine W_ite (fun h18 => ?_) (fun h18 => ?_)
            · refine W_s (s_icmp_gt_t dX12_planOf_61 rfl h18) ?_
              exact W_wk (hJ17 μ15) (le_s rfl (le_s rfl (le_s rfl (le_s rfl (le_s rfl le_n)))))
            · refine W_s (s_icmp_gt_f dX12_planOf_61 rfl h18) ?_
              refine W_s (s_iload dX12_planOf_64 rfl) ?_
              refine W_s (s_iload_n dX12_planOf_66 rfl rfl) ?_
              refine W_fun (fun J => ∀ (μ24 : gx_M), GoW E l Y_X12_planOf 5 gx_eI 88 [some (.ref (E.2.2.1 + 206)), some (.int p1), some (.int v2_4), some (.int v3_5), some (.int j0_14)] [] μ24 (J μ24)) ?_ (fun J19 hJ19 => ?_)
              · intro μ24
                refine W_s (s_iconst dX12_planOf_88 kci_0) ?_
                exact W_wk (hJ16 false μ24) (le_s rfl (le_s rfl (le_s rfl (le_s rfl (le_s rfl le_n)))))
              · skip
                refine W_ite (fun h20 => ?_) (fun h20 => ?_)
                · refine W_s (s_icmp_ne_f dX12_planOf_67 rfl h20) ?_
                  refine W_s (s_iload_n dX12_planOf_70 rfl rfl) ?_
                  refine W_br (ec := gx_eI) (fun r_ hr_ => s_callS (As := [.int _]) dX12_planOf_71 Lk_RX12_403 rfl (Nat.le_of_ble_eq_true rfl) (Nat.le_of_ble_eq_true rfl) (ev_X12_ones v3_5 μ15 hr_)) (fun r21 => ?_)
                  refine W_s (s_aload_n dX12_planOf_74 rfl rfl) ?_
                  refine W_s (gf_RX12_397 rfl dX12_planOf_75) ?_
                  refine W_br (ec := gx_eI) (fun r_ hr_ => s_callS (As := [.int _]) dX12_planOf_78 Lk_RX12_403 rfl (Nat.le_of_ble_eq_true rfl) (Nat.le_of_ble_eq_true rfl) (ev_X12_ones (μ15.1 206 41) μ15 hr_)) (fun r22 => ?_)
                  refine W_ite (fun h23 => ?_) (fun h23 => ?_)
                  · refine W_s (s_icmp_ge_t dX12_planOf_81 rfl h23) ?_
                    exact W_wk (hJ19 μ15) (le_s rfl (le_s rfl (le_s rfl (le_s rfl (le_s rfl le_n)))))
                  · refine W_s (s_icmp_ge_f dX12_planOf_81 rfl h23) ?_
                    exact W_wk (hJ17 μ15) (le_s rfl (le_s rfl (le_s rfl (le_s rfl (le_s rfl le_n)))))
                · refine W_s (s_icmp_ne_t dX12_planOf_67 rfl h20) ?_
                  exact W_wk (hJ19 μ15) (le_s rfl (le_s rfl (le_s rfl (le_s rfl (le_s rfl le_n)))))
      · skip
        refine W_ite (fun h12 => ?_) (fun h12 => ?_)
        · refine W_s (s_icmp_gt_t dX12_planOf_37 rfl h12) ?_
          refine W_s (s_iconst dX12_planOf_55 kci_m1) ?_
          exact W_wk (hJ11 (-1) μ6) (le_s rfl (le_s rfl (le_s rfl (le_s rfl le_n))))
        · refine W_s (s_icmp_gt_f dX12_planOf_37 rfl h12) ?_
          refine W_s (s_aload_n dX12_planOf_40 rfl rfl) ?_
          refine W_s (s_iload_n dX12_planOf_41 rfl rfl) ?_
          refine W_br (ec := gx_eI) (fun r_ hr_ => s_callV (As := [.int _]) dX12_planOf_42 Lk_RX12_400 rfl g_206 (by decide) rfl (Nat.le_of_ble_eq_true rfl) (Nat.le_of_ble_eq_true rfl) (ev_X12_worthOf v3_5 μ6 hr_)) (fun r13 => ?_)
          refine W_s (s_aload_n dX12_planOf_45 rfl rfl) ?_
          refine W_s (gf_RX12_69 rfl dX12_planOf_46) ?_
          refine W_s (s_iload_n dX12_planOf_49 rfl rfl) ?_
          refine W_s (s_iald dX12_planOf_50 g_226 (gx_ixv h9)) ?_
          refine W_s (s_isub dX12_planOf_51) ?_
          refine W_s (s_goto dX12_planOf_52 rfl) ?_
          exact W_wk (hJ11 (r13 - (μ6.1 226 v3_5.toNatClampNeg)) μ6) (le_s rfl (le_s rfl (le_s rfl (le_s rfl le_n))))
theorem ev_X12_planOf {E : gx_E} {l : Launch} (p1 : Int32) (μ : gx_M) {r : Int32} {μ' : gx_M} (hr : f_X12_planOf p1 μ = some (r, μ')) : gEv E l 5 Y_X12_planOf [.ref (E.2.2.1 + 206), .int p1] gx_G1 μ (gx_eI r) gx_G1 μ' := by
  refine W_ev (by decide) (Nat.le_of_ble_eq_true rfl) (em := gx_eI) (T := f_X12_planOf p1 μ) ?_ hr
  show GoW E l Y_X12_planOf 5 gx_eI 0 (gx_el [.ref (E.2.2.1 + 206), .int p1]) [] μ (f_X12_planOf p1 μ)
  unfold f_X12_planOf
  refine W_s (s_aload_n dX12_planOf_0 rfl rfl) ?_
  refine W_s (s_iload_n dX12_planOf_1 rfl rfl) ?_
  refine W_bd (ec := gx_eV) (fun r_ μ_ hr_ => s_callV (As := [.int _]) dX12_planOf_2 Lk_RX12_385 rfl g_206 (by decide) rfl (Nat.le_of_ble_eq_true rfl) (Nat.le_of_ble_eq_true rfl) (ev_X12_findCosts p1 μ hr_)) (fun r1 μ2 => ?_)
  refine W_s (s_aload_n dX12_planOf_5 rfl rfl) ?_
  refine W_s (s_iconst dX12_planOf_6 kci_0) ?_
  refine W_s (pf_RX12_397 rfl dX12_planOf_7) ?_
  refine W_letM (fun μ3 => ?_)
  refine W_s (s_iconst dX12_planOf_10 kci_0) ?_
  refine W_s (s_istore_n dX12_planOf_11 rfl (Nat.le_of_ble_eq_true rfl)) ?_
  refine W_s (s_iconst dX12_planOf_12 kci_1) ?_
  refine W_s (s_istore_n dX12_planOf_13 rfl (Nat.le_of_ble_eq_true rfl)) ?_
  refine W_wk (okL_X12_planOf_14 ?_ 4000 0 1 μ3) (le_s rfl (le_s rfl (le_s rfl (le_s rfl le_n))))
  intro x2_36 μ37
  refine W_s (s_iload_n dX12_planOf_121 rfl rfl) ?_
  exact W_r (r := x2_36) (f_int (ty := .int) dX12_planOf_122 rfl rfl)

def f_X12_drawDeed (μ : gx_M) : Option (Unit × gx_M) := gx_bd (f_X12_draw 8 μ) (fun (r1 : Int32) (μ2 : gx_M) => if r1 = 7 then gx_bd (f_X12_draw 2 μ2) (fun (r26 : Int32) (μ27 : gx_M) => gx_lt (fun (j0_30 : Int32) (μ31 : gx_M) => gx_bd (f_X12_draw (μ31.1 206 25) μ31) (fun (r32 : Int32) (μ33 : gx_M) => gx_bd (f_X12_does j0_30 r32 (-1) (-1) μ33) (fun (r34 : Bool) (μ35 : gx_M) => some ((), μ35)))) (fun J28 => if r26 = 0 then J28 5 μ27 else J28 6 μ27)) else if 6 ≤ r1 then if (μ2.1 206 27) ≤ 0 then some ((), μ2) else gx_bd (f_X12_draw (μ2.1 206 26) μ2) (fun (r6 : Int32) (μ7 : gx_M) => gx_bd (f_X12_draw (μ7.1 206 27) μ7) (fun (r8 : Int32) (μ9 : gx_M) => gx_bd (f_X12_draw (μ9.1 206 25) μ9) (fun (r10 : Int32) (μ11 : gx_M) => gx_bd (f_X12_does 4 r6 r8 r10 μ11) (fun (r12 : Bool) (μ13 : gx_M) => some ((), μ13))))) else gx_bd (f_X12_draw (μ2.1 206 26) μ2) (fun (r14 : Int32) (μ15 : gx_M) => gx_lt (fun (j0_20 : Int32) (μ21 : gx_M) => gx_bd (f_X12_draw (μ21.1 206 25) μ21) (fun (r22 : Int32) (μ23 : gx_M) => gx_bd (f_X12_does j0_20 r14 r22 (-1) μ23) (fun (r24 : Bool) (μ25 : gx_M) => some ((), μ25)))) (fun J16 => if 3 ≤ r1 then if r1 = 3 then J16 3 μ15 else if r1 = 4 then J16 2 μ15 else J16 1 μ15 else J16 0 μ15)))
theorem ev_X12_drawDeed {E : gx_E} {l : Launch} (μ : gx_M) {r : Unit} {μ' : gx_M} (hr : f_X12_drawDeed μ = some (r, μ')) : gEv E l 5 Y_X12_drawDeed [.ref (E.2.2.1 + 206)] gx_G1 μ (gx_eV r) gx_G1 μ' := by
  refine W_ev (by decide) (Nat.le_of_ble_eq_true rfl) (em := gx_eV) (T := f_X12_drawDeed μ) ?_ hr
  show GoW E l Y_X12_drawDeed 5 gx_eV 0 (gx_el [.ref (E.2.2.1 + 206)]) [] μ (f_X12_drawDeed μ)
  unfold f_X12_drawDeed
  refine W_s (s_aload_n dX12_drawDeed_0 rfl rfl) ?_
  refine W_s (s_bipush dX12_drawDeed_1 kcb_8) ?_
  refine W_bd (ec := gx_eI) (fun r_ μ_ hr_ => s_callV (As := [.int _]) dX12_drawDeed_3 Lk_RX12_520 rfl g_206 (by decide) rfl (Nat.le_of_ble_eq_true rfl) (Nat.le_of_ble_eq_true rfl) (ev_X12_draw 8 μ hr_)) (fun r1 μ2 => ?_)
  refine W_s (s_istore_n dX12_drawDeed_6 rfl (Nat.le_of_ble_eq_true rfl)) ?_
  refine W_s (s_iload_n dX12_drawDeed_7 rfl rfl) ?_
  refine W_s (s_bipush dX12_drawDeed_8 kcb_7) ?_
  refine W_ite (fun h3 => ?_) (fun h3 => ?_)
  · refine W_s (s_icmp_ne_f dX12_drawDeed_10 rfl h3) ?_
    refine W_s (s_aload_n dX12_drawDeed_13 rfl rfl) ?_
    refine W_s (s_iconst dX12_drawDeed_14 kci_2) ?_
    refine W_bd (ec := gx_eI) (fun r_ μ_ hr_ => s_callV (As := [.int _]) dX12_drawDeed_15 Lk_RX12_520 rfl g_206 (by decide) rfl (Nat.le_of_ble_eq_true rfl) (Nat.le_of_ble_eq_true rfl) (ev_X12_draw 2 μ2 hr_)) (fun r26 μ27 => ?_)
    refine W_fun (fun J => ∀ (j0_30 : Int32) (μ31 : gx_M), GoW E l Y_X12_drawDeed 5 gx_eV 27 [some (.ref (E.2.2.1 + 206))] [.int j0_30] μ31 (J j0_30 μ31)) ?_ (fun J28 hJ28 => ?_)
    · intro j0_30 μ31
      refine W_s (s_istore_n dX12_drawDeed_27 rfl (Nat.le_of_ble_eq_true rfl)) ?_
      refine W_s (s_aload_n dX12_drawDeed_28 rfl rfl) ?_
      refine W_s (s_iload_n dX12_drawDeed_29 rfl rfl) ?_
      refine W_s (s_aload_n dX12_drawDeed_30 rfl rfl) ?_
      refine W_s (s_aload_n dX12_drawDeed_31 rfl rfl) ?_
      refine W_s (gf_RX12_283 rfl dX12_drawDeed_32) ?_
      refine W_bd (ec := gx_eI) (fun r_ μ_ hr_ => s_callV (As := [.int _]) dX12_drawDeed_35 Lk_RX12_520 rfl g_206 (by decide) rfl (Nat.le_of_ble_eq_true rfl) (Nat.le_of_ble_eq_true rfl) (ev_X12_draw (μ31.1 206 25) μ31 hr_)) (fun r32 μ33 => ?_)
      refine W_s (s_iconst dX12_drawDeed_38 kci_m1) ?_
      refine W_s (s_iconst dX12_drawDeed_39 kci_m1) ?_
      refine W_bd (ec := gx_eB) (fun r_ μ_ hr_ => s_callV (As := [.int _, .int _, .int _, .int _]) dX12_drawDeed_40 Lk_RX12_346 rfl g_206 (by decide) rfl (Nat.le_of_ble_eq_true rfl) (Nat.le_of_ble_eq_true rfl) (ev_X12_does j0_30 r32 (-1) (-1) μ33 hr_)) (fun r34 μ35 => ?_)
      refine W_s (s_pop dX12_drawDeed_43 rfl) ?_
      refine W_s (s_goto dX12_drawDeed_44 rfl) ?_
      exact W_r (r := ()) (f_void dX12_drawDeed_149 rfl)
    · skip
      refine W_ite (fun h29 => ?_) (fun h29 => ?_)
      · refine W_s (s_if_ne_f dX12_drawDeed_18 rfl h29) ?_
        refine W_s (s_iconst dX12_drawDeed_21 kci_5) ?_
        refine W_s (s_goto dX12_drawDeed_22 rfl) ?_
        exact W_wk (hJ28 5 μ27) (le_s rfl le_n)
      · refine W_s (s_if_ne_t dX12_drawDeed_18 rfl h29) ?_
        refine W_s (s_bipush dX12_drawDeed_25 kcb_6) ?_
        exact W_wk (hJ28 6 μ27) (le_s rfl le_n)
  · refine W_s (s_icmp_ne_t dX12_drawDeed_10 rfl h3) ?_
    refine W_s (s_iload_n dX12_drawDeed_47 rfl rfl) ?_
    refine W_s (s_bipush dX12_drawDeed_48 kcb_6) ?_
    refine W_ite (fun h4 => ?_) (fun h4 => ?_)
    · refine W_s (s_icmp_ge_t dX12_drawDeed_50 rfl h4) ?_
      refine W_s (s_aload_n dX12_drawDeed_108 rfl rfl) ?_
      refine W_s (gf_RX12_289 rfl dX12_drawDeed_109) ?_
      refine W_ite (fun h5 => ?_) (fun h5 => ?_)
      · refine W_s (s_if_le_t dX12_drawDeed_112 rfl h5) ?_
        exact W_r (r := ()) (f_void dX12_drawDeed_149 rfl)
      · refine W_s (s_if_le_f dX12_drawDeed_112 rfl h5) ?_
        refine W_s (s_aload_n dX12_drawDeed_115 rfl rfl) ?_
        refine W_s (s_aload_n dX12_drawDeed_116 rfl rfl) ?_
        refine W_s (gf_RX12_286 rfl dX12_drawDeed_117) ?_
        refine W_bd (ec := gx_eI) (fun r_ μ_ hr_ => s_callV (As := [.int _]) dX12_drawDeed_120 Lk_RX12_520 rfl g_206 (by decide) rfl (Nat.le_of_ble_eq_true rfl) (Nat.le_of_ble_eq_true rfl) (ev_X12_draw (μ2.1 206 26) μ2 hr_)) (fun r6 μ7 => ?_)
        refine W_s (s_istore_n dX12_drawDeed_123 rfl (Nat.le_of_ble_eq_true rfl)) ?_
        refine W_s (s_aload_n dX12_drawDeed_124 rfl rfl) ?_
        refine W_s (s_aload_n dX12_drawDeed_125 rfl rfl) ?_
        refine W_s (gf_RX12_289 rfl dX12_drawDeed_126) ?_
        refine W_bd (ec := gx_eI) (fun r_ μ_ hr_ => s_callV (As := [.int _]) dX12_drawDeed_129 Lk_RX12_520 rfl g_206 (by decide) rfl (Nat.le_of_ble_eq_true rfl) (Nat.le_of_ble_eq_true rfl) (ev_X12_draw (μ7.1 206 27) μ7 hr_)) (fun r8 μ9 => ?_)
        refine W_s (s_istore_n dX12_drawDeed_132 rfl (Nat.le_of_ble_eq_true rfl)) ?_
        refine W_s (s_aload_n dX12_drawDeed_133 rfl rfl) ?_
        refine W_s (s_iconst dX12_drawDeed_134 kci_4) ?_
        refine W_s (s_iload_n dX12_drawDeed_135 rfl rfl) ?_
        refine W_s (s_iload_n dX12_drawDeed_136 rfl rfl) ?_
        refine W_s (s_aload_n dX12_drawDeed_137 rfl rfl) ?_
        refine W_s (s_aload_n dX12_drawDeed_138 rfl rfl) ?_
        refine W_s (gf_RX12_283 rfl dX12_drawDeed_139) ?_
        refine W_bd (ec := gx_eI) (fun r_ μ_ hr_ => s_callV (As := [.int _]) dX12_drawDeed_142 Lk_RX12_520 rfl g_206 (by decide) rfl (Nat.le_of_ble_eq_true rfl) (Nat.le_of_ble_eq_true rfl) (ev_X12_draw (μ9.1 206 25) μ9 hr_)) (fun r10 μ11 => ?_)
        refine W_bd (ec := gx_eB) (fun r_ μ_ hr_ => s_callV (As := [.int _, .int _, .int _, .int _]) dX12_drawDeed_145 Lk_RX12_346 rfl g_206 (by decide) rfl (Nat.le_of_ble_eq_true rfl) (Nat.le_of_ble_eq_true rfl) (ev_X12_does 4 r6 r8 r10 μ11 hr_)) (fun r12 μ13 => ?_)
        refine W_s (s_pop dX12_drawDeed_148 rfl) ?_
        exact W_r (r := ()) (f_void dX12_drawDeed_149 rfl)
    · refine W_s (s_icmp_ge_f dX12_drawDeed_50 rfl h4) ?_
      refine W_s (s_aload_n dX12_drawDeed_53 rfl rfl) ?_
      refine W_s (s_aload_n dX12_drawDeed_54 rfl rfl) ?_
      refine W_s (gf_RX12_286 rfl dX12_drawDeed_55) ?_
      refine W_bd (ec := gx_eI) (fun r_ μ_ hr_ => s_callV (As := [.int _]) dX12_drawDeed_58 Lk_RX12_520 rfl g_206 (by decide) rfl (Nat.le_of_ble_eq_true rfl) (Nat.le_of_ble_eq_true rfl) (ev_X12_draw (μ2.1 206 26) μ2 hr_)) (fun r14 μ15 => ?_)
      refine W_s (s_istore_n dX12_drawDeed_61 rfl (Nat.le_of_ble_eq_true rfl)) ?_
      refine W_s (s_aload_n dX12_drawDeed_62 rfl rfl) ?_
      refine W_s (s_iload_n dX12_drawDeed_63 rfl rfl) ?_
      refine W_s (s_iconst dX12_drawDeed_64 kci_3) ?_
      refine W_fun (fun J => ∀ (j0_20 : Int32) (μ21 : gx_M), GoW E l Y_X12_drawDeed 5 gx_eV 91 [some (.ref (E.2.2.1 + 206)), none, some (.int r14)] [.int j0_20, .ref (E.2.2.1 + 206)] μ21 (J j0_20 μ21)) ?_ (fun J16 hJ16 => ?_)
      · intro j0_20 μ21
        refine W_s (s_iload_n dX12_drawDeed_91 rfl rfl) ?_
        refine W_s (s_aload_n dX12_drawDeed_92 rfl rfl) ?_
        refine W_s (s_aload_n dX12_drawDeed_93 rfl rfl) ?_
        refine W_s (gf_RX12_283 rfl dX12_drawDeed_94) ?_
        refine W_bd (ec := gx_eI) (fun r_ μ_ hr_ => s_callV (As := [.int _]) dX12_drawDeed_97 Lk_RX12_520 rfl g_206 (by decide) rfl (Nat.le_of_ble_eq_true rfl) (Nat.le_of_ble_eq_true rfl) (ev_X12_draw (μ21.1 206 25) μ21 hr_)) (fun r22 μ23 => ?_)
        refine W_s (s_iconst dX12_drawDeed_100 kci_m1) ?_
        refine W_bd (ec := gx_eB) (fun r_ μ_ hr_ => s_callV (As := [.int _, .int _, .int _, .int _]) dX12_drawDeed_101 Lk_RX12_346 rfl g_206 (by decide) rfl (Nat.le_of_ble_eq_true rfl) (Nat.le_of_ble_eq_true rfl) (ev_X12_does j0_20 r14 r22 (-1) μ23 hr_)) (fun r24 μ25 => ?_)
        refine W_s (s_pop dX12_drawDeed_104 rfl) ?_
        refine W_s (s_goto dX12_drawDeed_105 rfl) ?_
        exact W_r (r := ()) (f_void dX12_drawDeed_149 rfl)
      · skip
        refine W_ite (fun h17 => ?_) (fun h17 => ?_)
        · refine W_s (s_icmp_ge_t dX12_drawDeed_65 rfl h17) ?_
          refine W_s (s_iload_n dX12_drawDeed_72 rfl rfl) ?_
          refine W_s (s_iconst dX12_drawDeed_73 kci_3) ?_
          refine W_ite (fun h18 => ?_) (fun h18 => ?_)
          · refine W_s (s_icmp_ne_f dX12_drawDeed_74 rfl h18) ?_
            refine W_s (s_iconst dX12_drawDeed_77 kci_3) ?_
            refine W_s (s_goto dX12_drawDeed_78 rfl) ?_
            exact W_wk (hJ16 3 μ15) (le_s rfl (le_o (le_s rfl le_n)))
          · refine W_s (s_icmp_ne_t dX12_drawDeed_74 rfl h18) ?_
            refine W_s (s_iload_n dX12_drawDeed_81 rfl rfl) ?_
            refine W_s (s_iconst dX12_drawDeed_82 kci_4) ?_
            refine W_ite (fun h19 => ?_) (fun h19 => ?_)
            · refine W_s (s_icmp_ne_f dX12_drawDeed_83 rfl h19) ?_
              refine W_s (s_iconst dX12_drawDeed_86 kci_2) ?_
              refine W_s (s_goto dX12_drawDeed_87 rfl) ?_
              exact W_wk (hJ16 2 μ15) (le_s rfl (le_o (le_s rfl le_n)))
            · refine W_s (s_icmp_ne_t dX12_drawDeed_83 rfl h19) ?_
              refine W_s (s_iconst dX12_drawDeed_90 kci_1) ?_
              exact W_wk (hJ16 1 μ15) (le_s rfl (le_o (le_s rfl le_n)))
        · refine W_s (s_icmp_ge_f dX12_drawDeed_65 rfl h17) ?_
          refine W_s (s_iconst dX12_drawDeed_68 kci_0) ?_
          refine W_s (s_goto dX12_drawDeed_69 rfl) ?_
          exact W_wk (hJ16 0 μ15) (le_s rfl (le_o (le_s rfl le_n)))

def f_X12_rankCost (p1 : Int32) (p2 : Int32) (μ : gx_M) : Option Int32 := gx_br (f_X12_firstRun p1 p2 μ) (fun (r1 : Int32) => if r1 = (-1) then some 1000000 else gx_br (f_X12_runCost p1 p2 r1 μ) (fun (r3 : Int32) => some r3))
theorem ev_X12_rankCost {E : gx_E} {l : Launch} (p1 : Int32) (p2 : Int32) (μ : gx_M) {r : Int32} (hr : f_X12_rankCost p1 p2 μ = some r) : gEv E l 5 Y_X12_rankCost [.ref (E.2.2.1 + 206), .int p1, .int p2] gx_G1 μ (gx_eI r) gx_G1 μ := by
  refine R_ev (by decide) (Nat.le_of_ble_eq_true rfl) (em := gx_eI) (T := f_X12_rankCost p1 p2 μ) ?_ hr
  show GoR E l Y_X12_rankCost 5 gx_eI 0 (gx_el [.ref (E.2.2.1 + 206), .int p1, .int p2]) [] μ (f_X12_rankCost p1 p2 μ)
  unfold f_X12_rankCost
  refine R_s (s_aload_n dX12_rankCost_0 rfl rfl) ?_
  refine R_s (s_iload_n dX12_rankCost_1 rfl rfl) ?_
  refine R_s (s_iload_n dX12_rankCost_2 rfl rfl) ?_
  refine R_br (ec := gx_eI) (fun r_ hr_ => s_callV (As := [.int _, .int _]) dX12_rankCost_3 Lk_RX12_382 rfl g_206 (by decide) rfl (Nat.le_of_ble_eq_true rfl) (Nat.le_of_ble_eq_true rfl) (ev_X12_firstRun p1 p2 μ hr_)) (fun r1 => ?_)
  refine R_s (s_istore_n dX12_rankCost_6 rfl (Nat.le_of_ble_eq_true rfl)) ?_
  refine R_s (s_iload_n dX12_rankCost_7 rfl rfl) ?_
  refine R_s (s_iconst dX12_rankCost_8 kci_m1) ?_
  refine R_ite (fun h2 => ?_) (fun h2 => ?_)
  · refine R_s (s_icmp_ne_f dX12_rankCost_9 rfl h2) ?_
    refine R_s (s_ldcw dX12_rankCost_12 kw_RX12_371) ?_
    refine R_s (s_goto dX12_rankCost_15 rfl) ?_
    exact R_r (r := 1000000) (f_int (ty := .int) dX12_rankCost_25 rfl rfl)
  · refine R_s (s_icmp_ne_t dX12_rankCost_9 rfl h2) ?_
    refine R_s (s_aload_n dX12_rankCost_18 rfl rfl) ?_
    refine R_s (s_iload_n dX12_rankCost_19 rfl rfl) ?_
    refine R_s (s_iload_n dX12_rankCost_20 rfl rfl) ?_
    refine R_s (s_iload_n dX12_rankCost_21 rfl rfl) ?_
    refine R_br (ec := gx_eI) (fun r_ hr_ => s_callV (As := [.int _, .int _, .int _]) dX12_rankCost_22 Lk_RX12_378 rfl g_206 (by decide) rfl (Nat.le_of_ble_eq_true rfl) (Nat.le_of_ble_eq_true rfl) (ev_X12_runCost p1 p2 r1 μ hr_)) (fun r3 => ?_)
    exact R_r (r := r3) (f_int (ty := .int) dX12_rankCost_25 rfl rfl)

def f_X12_lineOf (p1 : Int32) (p2 : Int64) (p4 : Int32) (μ : gx_M) : Option (Bool × gx_M) := if p1 = 0 then gx_bd (f_X12_streetLine p2 p4 μ) (fun (r2 : Bool) (μ3 : gx_M) => some (r2, μ3)) else if p1 = 1 then gx_bd (f_X12_yearLine p2 p4 μ) (fun (r5 : Bool) (μ6 : gx_M) => some (r5, μ6)) else if p1 = 2 then gx_bd (f_X12_logLine p2 p4 μ) (fun (r8 : Bool) (μ9 : gx_M) => some (r8, μ9)) else gx_bd (f_X12_swapLine p2 μ) (fun (r10 : Bool) (μ11 : gx_M) => some (r10, μ11))
theorem ev_X12_lineOf {E : gx_E} {l : Launch} (p1 : Int32) (p2 : Int64) (p4 : Int32) (μ : gx_M) {r : Bool} {μ' : gx_M} (hr : f_X12_lineOf p1 p2 p4 μ = some (r, μ')) : gEv E l 6 Y_X12_lineOf [.ref (E.2.2.1 + 206), .int p1, .long p2, .int p4] gx_G1 μ (gx_eB r) gx_G1 μ' := by
  refine W_ev (by decide) (Nat.le_of_ble_eq_true rfl) (em := gx_eB) (T := f_X12_lineOf p1 p2 p4 μ) ?_ hr
  show GoW E l Y_X12_lineOf 6 gx_eB 0 (gx_el [.ref (E.2.2.1 + 206), .int p1, .long p2, .int p4]) [] μ (f_X12_lineOf p1 p2 p4 μ)
  unfold f_X12_lineOf
  refine W_s (s_iload_n dX12_lineOf_0 rfl rfl) ?_
  refine W_ite (fun h1 => ?_) (fun h1 => ?_)
  · refine W_s (s_tsw_eq (c := 0) dX12_lineOf_1 h1 (by decide) (by decide) rfl rfl) ?_
    refine W_s (s_aload_n dX12_lineOf_28 rfl rfl) ?_
    refine W_s (s_lload_n dX12_lineOf_29 rfl rfl) ?_
    refine W_s (s_iload dX12_lineOf_30 rfl) ?_
    refine W_bd (ec := gx_eB) (fun r_ μ_ hr_ => s_callV (As := [.long _, .int _]) dX12_lineOf_32 Lk_RX12_238 rfl g_206 (by decide) rfl (Nat.le_of_ble_eq_true rfl) (Nat.le_of_ble_eq_true rfl) (ev_X12_streetLine p2 p4 μ hr_)) (fun r2 μ3 => ?_)
    exact W_r (r := r2) (f_int (ty := .boolean) (x := gx_bi r2) dX12_lineOf_35 rfl (gx_bn r2))
  · skip
    refine W_ite (fun h4 => ?_) (fun h4 => ?_)
    · refine W_s (s_tsw_eq (c := 1) dX12_lineOf_1 h4 (by decide) (by decide) rfl rfl) ?_
      refine W_s (s_aload_n dX12_lineOf_36 rfl rfl) ?_
      refine W_s (s_lload_n dX12_lineOf_37 rfl rfl) ?_
      refine W_s (s_iload dX12_lineOf_38 rfl) ?_
      refine W_bd (ec := gx_eB) (fun r_ μ_ hr_ => s_callV (As := [.long _, .int _]) dX12_lineOf_40 Lk_RX12_242 rfl g_206 (by decide) rfl (Nat.le_of_ble_eq_true rfl) (Nat.le_of_ble_eq_true rfl) (ev_X12_yearLine p2 p4 μ hr_)) (fun r5 μ6 => ?_)
      exact W_r (r := r5) (f_int (ty := .boolean) (x := gx_bi r5) dX12_lineOf_43 rfl (gx_bn r5))
    · skip
      refine W_ite (fun h7 => ?_) (fun h7 => ?_)
      · refine W_s (s_tsw_eq (c := 2) dX12_lineOf_1 h7 (by decide) (by decide) rfl rfl) ?_
        refine W_s (s_aload_n dX12_lineOf_44 rfl rfl) ?_
        refine W_s (s_lload_n dX12_lineOf_45 rfl rfl) ?_
        refine W_s (s_iload dX12_lineOf_46 rfl) ?_
        refine W_bd (ec := gx_eB) (fun r_ μ_ hr_ => s_callV (As := [.long _, .int _]) dX12_lineOf_48 Lk_RX12_245 rfl g_206 (by decide) rfl (Nat.le_of_ble_eq_true rfl) (Nat.le_of_ble_eq_true rfl) (ev_X12_logLine p2 p4 μ hr_)) (fun r8 μ9 => ?_)
        exact W_r (r := r8) (f_int (ty := .boolean) (x := gx_bi r8) dX12_lineOf_51 rfl (gx_bn r8))
      · skip
        refine W_s (s_tsw_out dX12_lineOf_1 (gx_out_0_3 h1 h4 h7) rfl) ?_
        refine W_s (s_aload_n dX12_lineOf_52 rfl rfl) ?_
        refine W_s (s_lload_n dX12_lineOf_53 rfl rfl) ?_
        refine W_bd (ec := gx_eB) (fun r_ μ_ hr_ => s_callV (As := [.long _]) dX12_lineOf_54 Lk_RX12_248 rfl g_206 (by decide) rfl (Nat.le_of_ble_eq_true rfl) (Nat.le_of_ble_eq_true rfl) (ev_X12_swapLine p2 μ hr_)) (fun r10 μ11 => ?_)
        exact W_r (r := r10) (f_int (ty := .boolean) (x := gx_bi r10) dX12_lineOf_57 rfl (gx_bn r10))

def L_X12_play_6 (p1 : Int32) (k5 : Int32 → gx_M → Option (Int32 × gx_M)) : Nat → Int32 → gx_M → Option (Int32 × gx_M)
  | 0, _, _ => none
  | n + 1, v2_3, μ4 => if p1 ≤ v2_3 then k5 v2_3 μ4 else gx_bd (f_X12_doesDeed v2_3 μ4) (fun (r7 : Bool) (μ8 : gx_M) => if r7 = true then L_X12_play_6 p1 k5 n (v2_3 + 1) μ8 else k5 v2_3 μ8)
def f_X12_play (p1 : Int32) (μ : gx_M) : Option (Int32 × gx_M) := gx_bd (f_X12_opens μ) (fun (r1 : Unit) (μ2 : gx_M) => L_X12_play_6 p1 (fun (x2_12 : Int32) (μ13 : gx_M) => some (x2_12, μ13)) 4000 0 μ2)
theorem okL_X12_play_6 {E : gx_E} {l : Launch} {p1 : Int32} {k5 : Int32 → gx_M → Option (Int32 × gx_M)} (hk : ∀ (w10 : Int32) (μ11 : gx_M), GoW E l Y_X12_play 6 gx_eI 25 [none, none, some (.int w10)] [] μ11 (k5 w10 μ11)) : ∀ (n : Nat) (v2_3 : Int32) (μ4 : gx_M), GoW E l Y_X12_play 6 gx_eI 6 [some (.ref (E.2.2.1 + 206)), some (.int p1), some (.int v2_3)] [] μ4 (L_X12_play_6 p1 k5 n v2_3 μ4) := by
  intro n
  induction n with
  | zero => intros; exact W_no
  | succ n ih =>
    intro v2_3 μ4
    rw [L_X12_play_6.eq_2]
    refine W_s (s_iload_n dX12_play_6 rfl rfl) ?_
    refine W_s (s_iload_n dX12_play_7 rfl rfl) ?_
    refine W_ite (fun h6 => ?_) (fun h6 => ?_)
    · refine W_s (s_icmp_ge_t dX12_play_8 rfl h6) ?_
      exact W_wk (hk v2_3 μ4) (le_o (le_o (le_s rfl le_n)))
    · refine W_s (s_icmp_ge_f dX12_play_8 rfl h6) ?_
      refine W_s (s_aload_n dX12_play_11 rfl rfl) ?_
      refine W_s (s_iload_n dX12_play_12 rfl rfl) ?_
      refine W_bd (ec := gx_eB) (fun r_ μ_ hr_ => s_callV (As := [.int _]) dX12_play_13 Lk_RX12_353 rfl g_206 (by decide) rfl (Nat.le_of_ble_eq_true rfl) (Nat.le_of_ble_eq_true rfl) (ev_X12_doesDeed v2_3 μ4 hr_)) (fun r7 μ8 => ?_)
      refine W_ite (fun h9 => ?_) (fun h9 => ?_)
      · refine W_s (s_if_eq_f dX12_play_16 rfl (gx_bt h9)) ?_
        refine W_s (s_iinc dX12_play_19 rfl (kinc_1 v2_3) (Nat.le_of_ble_eq_true rfl)) ?_
        refine W_s (s_goto dX12_play_22 rfl) ?_
        exact W_wk (ih (v2_3 + 1) μ8) (le_s rfl (le_s rfl (le_s rfl le_n)))
      · refine W_s (s_if_eq_t dX12_play_16 rfl (gx_bf h9)) ?_
        exact W_wk (hk v2_3 μ8) (le_o (le_o (le_s rfl le_n)))
theorem ev_X12_play {E : gx_E} {l : Launch} (p1 : Int32) (μ : gx_M) {r : Int32} {μ' : gx_M} (hr : f_X12_play p1 μ = some (r, μ')) : gEv E l 6 Y_X12_play [.ref (E.2.2.1 + 206), .int p1] gx_G1 μ (gx_eI r) gx_G1 μ' := by
  refine W_ev (by decide) (Nat.le_of_ble_eq_true rfl) (em := gx_eI) (T := f_X12_play p1 μ) ?_ hr
  show GoW E l Y_X12_play 6 gx_eI 0 (gx_el [.ref (E.2.2.1 + 206), .int p1]) [] μ (f_X12_play p1 μ)
  unfold f_X12_play
  refine W_s (s_aload_n dX12_play_0 rfl rfl) ?_
  refine W_bd (ec := gx_eV) (fun r_ μ_ hr_ => s_callV (As := []) dX12_play_1 Lk_RX12_350 rfl g_206 (by decide) rfl (Nat.le_of_ble_eq_true rfl) (Nat.le_of_ble_eq_true rfl) (ev_X12_opens μ hr_)) (fun r1 μ2 => ?_)
  refine W_s (s_iconst dX12_play_4 kci_0) ?_
  refine W_s (s_istore_n dX12_play_5 rfl (Nat.le_of_ble_eq_true rfl)) ?_
  refine W_wk (okL_X12_play_6 ?_ 4000 0 μ2) (le_s rfl (le_s rfl (le_s rfl le_n)))
  intro x2_12 μ13
  refine W_s (s_iload_n dX12_play_25 rfl rfl) ?_
  exact W_r (r := x2_12) (f_int (ty := .int) dX12_play_26 rfl rfl)

def L_X12_beginOf_20 (p2 : Int32) (v5_3 : Int32) (p1 : Int32) (r1 : Int32) (k9 : gx_M → Option (Int32 × gx_M)) : Nat → Int32 → gx_M → Option (Int32 × gx_M)
  | 0, _, _ => none
  | n + 1, v6_7, μ8 => if (μ8.1 206 25) ≤ v6_7 then k9 μ8 else if (f_X12_has p2 v5_3) = true then gx_ck (gx_ix v5_3 6 = true) (if (μ8.1 225 v5_3.toNatClampNeg) = (-1) then gx_lt (gx_uI μ8 225 v5_3.toNatClampNeg v6_7) (fun (μ14 : gx_M) => gx_br (f_X12_mayBegin v5_3 v6_7 μ14) (fun (r15 : Bool) => gx_lt (fun (j0_23 : Int32) (μ24 : gx_M) => gx_lt (gx_uI μ24 225 v5_3.toNatClampNeg j0_23) (fun (μ25 : gx_M) => L_X12_beginOf_20 p2 v5_3 p1 r1 k9 n (v6_7 + 1) μ25)) (fun J16 => gx_lt (fun (μ22 : gx_M) => J16 (-1) μ22) (fun J17 => if r15 = true then gx_bd (f_X12_costOf p1 p2 μ14) (fun (r19 : Int32) (μ20 : gx_M) => if r19 = r1 then J16 v6_7 μ20 else J17 μ20) else J17 μ14)))) else k9 μ8) else k9 μ8
def L_X12_beginOf_11 (p3 : Int32) (p2 : Int32) (p1 : Int32) (r1 : Int32) (k5 : gx_M → Option (Int32 × gx_M)) : Nat → Int32 → gx_M → Option (Int32 × gx_M)
  | 0, _, _ => none
  | n + 1, v5_3, μ4 => if p3 < v5_3 then k5 μ4 else L_X12_beginOf_20 p2 v5_3 p1 r1 (fun (μ27 : gx_M) => L_X12_beginOf_11 p3 p2 p1 r1 k5 n (v5_3 + 1) μ27) 4000 0 μ4
def f_X12_beginOf (p1 : Int32) (p2 : Int32) (p3 : Int32) (μ : gx_M) : Option (Int32 × gx_M) := gx_bd (f_X12_costOf p1 p2 μ) (fun (r1 : Int32) (μ2 : gx_M) => L_X12_beginOf_11 p3 p2 p1 r1 (fun (μ29 : gx_M) => gx_ck (gx_ix p3 6 = true) (some ((μ29.1 225 p3.toNatClampNeg), μ29))) 4000 0 μ2)
theorem okL_X12_beginOf_20 {E : gx_E} {l : Launch} {p2 : Int32} {v5_3 : Int32} {p1 : Int32} {r1 : Int32} {p3 : Int32} {k9 : gx_M → Option (Int32 × gx_M)} (hk : ∀ (μ26 : gx_M), GoW E l Y_X12_beginOf 6 gx_eI 99 [some (.ref (E.2.2.1 + 206)), some (.int p1), some (.int p2), some (.int p3), some (.int r1), some (.int v5_3)] [] μ26 (k9 μ26)) : ∀ (n : Nat) (v6_7 : Int32) (μ8 : gx_M), GoW E l Y_X12_beginOf 6 gx_eI 20 [some (.ref (E.2.2.1 + 206)), some (.int p1), some (.int p2), some (.int p3), some (.int r1), some (.int v5_3), some (.int v6_7)] [] μ8 (L_X12_beginOf_20 p2 v5_3 p1 r1 k9 n v6_7 μ8) := by
  intro n
  induction n with
  | zero => intros; exact W_no
  | succ n ih =>
    intro v6_7 μ8
    rw [L_X12_beginOf_20.eq_2]
    refine W_s (s_iload dX12_beginOf_20 rfl) ?_
    refine W_s (s_aload_n dX12_beginOf_22 rfl rfl) ?_
    refine W_s (gf_RX12_283 rfl dX12_beginOf_23) ?_
    refine W_ite (fun h10 => ?_) (fun h10 => ?_)
    · refine W_s (s_icmp_ge_t dX12_beginOf_26 rfl h10) ?_
      exact W_wk (hk μ8) (le_s rfl (le_s rfl (le_s rfl (le_s rfl (le_s rfl (le_s rfl le_n))))))
    · refine W_s (s_icmp_ge_f dX12_beginOf_26 rfl h10) ?_
      refine W_s (s_iload_n dX12_beginOf_29 rfl rfl) ?_
      refine W_s (s_iload dX12_beginOf_30 rfl) ?_
      refine W_s (s_callS (As := [.int _, .int _]) dX12_beginOf_32 Lk_RX12_104 rfl (Nat.le_of_ble_eq_true rfl) (Nat.le_of_ble_eq_true rfl) (ev_X12_has p2 v5_3 μ8)) ?_
      refine W_ite (fun h11 => ?_) (fun h11 => ?_)
      · refine W_s (s_if_eq_f dX12_beginOf_35 rfl (gx_bt h11)) ?_
        refine W_s (s_aload_n dX12_beginOf_38 rfl rfl) ?_
        refine W_s (gf_RX12_66 rfl dX12_beginOf_39) ?_
        refine W_s (s_iload dX12_beginOf_42 rfl) ?_
        refine W_ck (fun h12 => ?_)
        refine W_s (s_iald dX12_beginOf_44 g_225 (gx_ixv h12)) ?_
        refine W_s (s_iconst dX12_beginOf_45 kci_m1) ?_
        refine W_ite (fun h13 => ?_) (fun h13 => ?_)
        · refine W_s (s_icmp_ne_f dX12_beginOf_46 rfl h13) ?_
          refine W_s (s_aload_n dX12_beginOf_49 rfl rfl) ?_
          refine W_s (gf_RX12_66 rfl dX12_beginOf_50) ?_
          refine W_s (s_iload dX12_beginOf_53 rfl) ?_
          refine W_s (s_iload dX12_beginOf_55 rfl) ?_
          refine W_s (s_iast dX12_beginOf_57 g_225 (gx_ixv h12)) ?_
          refine W_letM (fun μ14 => ?_)
          refine W_s (s_aload_n dX12_beginOf_58 rfl rfl) ?_
          refine W_s (gf_RX12_66 rfl dX12_beginOf_59) ?_
          refine W_s (s_iload dX12_beginOf_62 rfl) ?_
          refine W_s (s_aload_n dX12_beginOf_64 rfl rfl) ?_
          refine W_s (s_iload dX12_beginOf_65 rfl) ?_
          refine W_s (s_iload dX12_beginOf_67 rfl) ?_
          refine W_br (ec := gx_eB) (fun r_ hr_ => s_callV (As := [.int _, .int _]) dX12_beginOf_69 Lk_RX12_325 rfl g_206 (by decide) rfl (Nat.le_of_ble_eq_true rfl) (Nat.le_of_ble_eq_true rfl) (ev_X12_mayBegin v5_3 v6_7 μ14 hr_)) (fun r15 => ?_)
          refine W_fun (fun J => ∀ (j0_23 : Int32) (μ24 : gx_M), GoW E l Y_X12_beginOf 6 gx_eI 92 [some (.ref (E.2.2.1 + 206)), some (.int p1), some (.int p2), some (.int p3), some (.int r1), some (.int v5_3), some (.int v6_7)] [.int j0_23, .int v5_3, .ref (E.2.2.1 + 225)] μ24 (J j0_23 μ24)) ?_ (fun J16 hJ16 => ?_)
          · intro j0_23 μ24
            refine W_s (s_iast dX12_beginOf_92 g_225 (gx_ixv h12)) ?_
            refine W_letM (fun μ25 => ?_)
            refine W_s (s_iinc dX12_beginOf_93 rfl (kinc_1 v6_7) (Nat.le_of_ble_eq_true rfl)) ?_
            refine W_s (s_goto dX12_beginOf_96 rfl) ?_
            exact W_wk (ih (v6_7 + 1) μ25) (le_s rfl (le_s rfl (le_s rfl (le_s rfl (le_s rfl (le_s rfl (le_s rfl le_n)))))))
          · skip
            refine W_fun (fun J => ∀ (μ22 : gx_M), GoW E l Y_X12_beginOf 6 gx_eI 91 [some (.ref (E.2.2.1 + 206)), some (.int p1), some (.int p2), some (.int p3), some (.int r1), some (.int v5_3), some (.int v6_7)] [.int v5_3, .ref (E.2.2.1 + 225)] μ22 (J μ22)) ?_ (fun J17 hJ17 => ?_)
            · intro μ22
              refine W_s (s_iconst dX12_beginOf_91 kci_m1) ?_
              exact W_wk (hJ16 (-1) μ22) (le_s rfl (le_s rfl (le_s rfl (le_s rfl (le_s rfl (le_s rfl (le_s rfl le_n)))))))
            · skip
              refine W_ite (fun h18 => ?_) (fun h18 => ?_)
              · refine W_s (s_if_eq_f dX12_beginOf_72 rfl (gx_bt h18)) ?_
                refine W_s (s_aload_n dX12_beginOf_75 rfl rfl) ?_
                refine W_s (s_iload_n dX12_beginOf_76 rfl rfl) ?_
                refine W_s (s_iload_n dX12_beginOf_77 rfl rfl) ?_
                refine W_bd (ec := gx_eI) (fun r_ μ_ hr_ => s_callV (As := [.int _, .int _]) dX12_beginOf_78 Lk_RX12_388 rfl g_206 (by decide) rfl (Nat.le_of_ble_eq_true rfl) (Nat.le_of_ble_eq_true rfl) (ev_X12_costOf p1 p2 μ14 hr_)) (fun r19 μ20 => ?_)
                refine W_s (s_iload dX12_beginOf_81 rfl) ?_
                refine W_ite (fun h21 => ?_) (fun h21 => ?_)
                · refine W_s (s_icmp_ne_f dX12_beginOf_83 rfl h21) ?_
                  refine W_s (s_iload dX12_beginOf_86 rfl) ?_
                  refine W_s (s_goto dX12_beginOf_88 rfl) ?_
                  exact W_wk (hJ16 v6_7 μ20) (le_s rfl (le_s rfl (le_s rfl (le_s rfl (le_s rfl (le_s rfl (le_s rfl le_n)))))))
                · refine W_s (s_icmp_ne_t dX12_beginOf_83 rfl h21) ?_
                  exact W_wk (hJ17 μ20) (le_s rfl (le_s rfl (le_s rfl (le_s rfl (le_s rfl (le_s rfl (le_s rfl le_n)))))))
              · refine W_s (s_if_eq_t dX12_beginOf_72 rfl (gx_bf h18)) ?_
                exact W_wk (hJ17 μ14) (le_s rfl (le_s rfl (le_s rfl (le_s rfl (le_s rfl (le_s rfl (le_s rfl le_n)))))))
        · refine W_s (s_icmp_ne_t dX12_beginOf_46 rfl h13) ?_
          exact W_wk (hk μ8) (le_s rfl (le_s rfl (le_s rfl (le_s rfl (le_s rfl (le_s rfl le_n))))))
      · refine W_s (s_if_eq_t dX12_beginOf_35 rfl (gx_bf h11)) ?_
        exact W_wk (hk μ8) (le_s rfl (le_s rfl (le_s rfl (le_s rfl (le_s rfl (le_s rfl le_n))))))
theorem okL_X12_beginOf_11 {E : gx_E} {l : Launch} {p3 : Int32} {p2 : Int32} {p1 : Int32} {r1 : Int32} {k5 : gx_M → Option (Int32 × gx_M)} (hk : ∀ (μ28 : gx_M), GoW E l Y_X12_beginOf 6 gx_eI 105 [some (.ref (E.2.2.1 + 206)), none, none, some (.int p3)] [] μ28 (k5 μ28)) : ∀ (n : Nat) (v5_3 : Int32) (μ4 : gx_M), GoW E l Y_X12_beginOf 6 gx_eI 11 [some (.ref (E.2.2.1 + 206)), some (.int p1), some (.int p2), some (.int p3), some (.int r1), some (.int v5_3)] [] μ4 (L_X12_beginOf_11 p3 p2 p1 r1 k5 n v5_3 μ4) := by
  intro n
  induction n with
  | zero => intros; exact W_no
  | succ n ih =>
    intro v5_3 μ4
    rw [L_X12_beginOf_11.eq_2]
    refine W_s (s_iload dX12_beginOf_11 rfl) ?_
    refine W_s (s_iload_n dX12_beginOf_13 rfl rfl) ?_
    refine W_ite (fun h6 => ?_) (fun h6 => ?_)
    · refine W_s (s_icmp_gt_t dX12_beginOf_14 rfl h6) ?_
      exact W_wk (hk μ4) (le_s rfl (le_o (le_o (le_s rfl le_n))))
    · refine W_s (s_icmp_gt_f dX12_beginOf_14 rfl h6) ?_
      refine W_s (s_iconst dX12_beginOf_17 kci_0) ?_
      refine W_s (s_istore dX12_beginOf_18 (Nat.le_of_ble_eq_true rfl)) ?_
      refine W_wk (okL_X12_beginOf_20 ?_ 4000 0 μ4) (le_s rfl (le_s rfl (le_s rfl (le_s rfl (le_s rfl (le_s rfl (le_s rfl le_n)))))))
      intro μ27
      refine W_s (s_iinc dX12_beginOf_99 rfl (kinc_1 v5_3) (Nat.le_of_ble_eq_true rfl)) ?_
      refine W_s (s_goto dX12_beginOf_102 rfl) ?_
      exact W_wk (ih (v5_3 + 1) μ27) (le_s rfl (le_s rfl (le_s rfl (le_s rfl (le_s rfl (le_s rfl le_n))))))
theorem ev_X12_beginOf {E : gx_E} {l : Launch} (p1 : Int32) (p2 : Int32) (p3 : Int32) (μ : gx_M) {r : Int32} {μ' : gx_M} (hr : f_X12_beginOf p1 p2 p3 μ = some (r, μ')) : gEv E l 6 Y_X12_beginOf [.ref (E.2.2.1 + 206), .int p1, .int p2, .int p3] gx_G1 μ (gx_eI r) gx_G1 μ' := by
  refine W_ev (by decide) (Nat.le_of_ble_eq_true rfl) (em := gx_eI) (T := f_X12_beginOf p1 p2 p3 μ) ?_ hr
  show GoW E l Y_X12_beginOf 6 gx_eI 0 (gx_el [.ref (E.2.2.1 + 206), .int p1, .int p2, .int p3]) [] μ (f_X12_beginOf p1 p2 p3 μ)
  unfold f_X12_beginOf
  refine W_s (s_aload_n dX12_beginOf_0 rfl rfl) ?_
  refine W_s (s_iload_n dX12_beginOf_1 rfl rfl) ?_
  refine W_s (s_iload_n dX12_beginOf_2 rfl rfl) ?_
  refine W_bd (ec := gx_eI) (fun r_ μ_ hr_ => s_callV (As := [.int _, .int _]) dX12_beginOf_3 Lk_RX12_388 rfl g_206 (by decide) rfl (Nat.le_of_ble_eq_true rfl) (Nat.le_of_ble_eq_true rfl) (ev_X12_costOf p1 p2 μ hr_)) (fun r1 μ2 => ?_)
  refine W_s (s_istore dX12_beginOf_6 (Nat.le_of_ble_eq_true rfl)) ?_
  refine W_s (s_iconst dX12_beginOf_8 kci_0) ?_
  refine W_s (s_istore dX12_beginOf_9 (Nat.le_of_ble_eq_true rfl)) ?_
  refine W_wk (okL_X12_beginOf_11 ?_ 4000 0 μ2) (le_s rfl (le_s rfl (le_s rfl (le_s rfl (le_s rfl (le_s rfl le_n))))))
  intro μ29
  refine W_s (s_aload_n dX12_beginOf_105 rfl rfl) ?_
  refine W_s (gf_RX12_66 rfl dX12_beginOf_106) ?_
  refine W_s (s_iload_n dX12_beginOf_109 rfl rfl) ?_
  refine W_ck (fun h30 => ?_)
  refine W_s (s_iald dX12_beginOf_110 g_225 (gx_ixv h30)) ?_
  exact W_r (r := (μ29.1 225 p3.toNatClampNeg)) (f_int (ty := .int) dX12_beginOf_111 rfl rfl)

def f_X12_plan (p1 : Int32) (p2 : Int32) (p3 : Bool) (μ : gx_M) : Option (Int32 × gx_M) := gx_lt (gx_uI μ 206 0 0) (fun (μ1 : gx_M) => gx_bd (f_X12_hand p1 μ1) (fun (r2 : Bool) (μ3 : gx_M) => if r2 = true then if (f_X12_isPerson p2 μ3) = true then gx_bd (f_X12_planOf p2 μ3) (fun (r6 : Int32) (μ7 : gx_M) => if p3 = true then some (r6, μ7) else some ((μ7.1 206 41), μ7)) else some ((-1), μ3) else some ((-1), μ3)))
theorem ev_X12_plan {E : gx_E} {l : Launch} (p1 : Int32) (p2 : Int32) (p3 : Bool) (μ : gx_M) {r : Int32} {μ' : gx_M} (hr : f_X12_plan p1 p2 p3 μ = some (r, μ')) : gEv E l 6 Y_X12_plan [.ref (E.2.2.1 + 206), .int p1, .int p2, .int (gx_bi p3)] gx_G1 μ (gx_eI r) gx_G1 μ' := by
  refine W_ev (by decide) (Nat.le_of_ble_eq_true rfl) (em := gx_eI) (T := f_X12_plan p1 p2 p3 μ) ?_ hr
  show GoW E l Y_X12_plan 6 gx_eI 0 (gx_el [.ref (E.2.2.1 + 206), .int p1, .int p2, .int (gx_bi p3)]) [] μ (f_X12_plan p1 p2 p3 μ)
  unfold f_X12_plan
  refine W_s (s_aload_n dX12_plan_0 rfl rfl) ?_
  refine W_s (s_iconst dX12_plan_1 kci_0) ?_
  refine W_s (pf_RX12_100 rfl dX12_plan_2) ?_
  refine W_letM (fun μ1 => ?_)
  refine W_s (s_aload_n dX12_plan_5 rfl rfl) ?_
  refine W_s (s_iload_n dX12_plan_6 rfl rfl) ?_
  refine W_bd (ec := gx_eB) (fun r_ μ_ hr_ => s_callV (As := [.int _]) dX12_plan_7 Lk_RX12_298 rfl g_206 (by decide) rfl (Nat.le_of_ble_eq_true rfl) (Nat.le_of_ble_eq_true rfl) (ev_X12_hand p1 μ1 hr_)) (fun r2 μ3 => ?_)
  refine W_ite (fun h4 => ?_) (fun h4 => ?_)
  · refine W_s (s_if_eq_f dX12_plan_10 rfl (gx_bt h4)) ?_
    refine W_s (s_aload_n dX12_plan_13 rfl rfl) ?_
    refine W_s (s_iload_n dX12_plan_14 rfl rfl) ?_
    refine W_s (s_callV (As := [.int _]) dX12_plan_15 Lk_RX12_316 rfl g_206 (by decide) rfl (Nat.le_of_ble_eq_true rfl) (Nat.le_of_ble_eq_true rfl) (ev_X12_isPerson p2 μ3)) ?_
    refine W_ite (fun h5 => ?_) (fun h5 => ?_)
    · refine W_s (s_if_ne_t dX12_plan_18 rfl (gx_bt h5)) ?_
      refine W_s (s_aload_n dX12_plan_23 rfl rfl) ?_
      refine W_s (s_iload_n dX12_plan_24 rfl rfl) ?_
      refine W_bd (ec := gx_eI) (fun r_ μ_ hr_ => s_callV (As := [.int _]) dX12_plan_25 Lk_RX12_406 rfl g_206 (by decide) rfl (Nat.le_of_ble_eq_true rfl) (Nat.le_of_ble_eq_true rfl) (ev_X12_planOf p2 μ3 hr_)) (fun r6 μ7 => ?_)
      refine W_s (s_istore dX12_plan_28 (Nat.le_of_ble_eq_true rfl)) ?_
      refine W_s (s_iload_n dX12_plan_30 rfl rfl) ?_
      refine W_ite (fun h8 => ?_) (fun h8 => ?_)
      · refine W_s (s_if_eq_f dX12_plan_31 rfl (gx_bt h8)) ?_
        refine W_s (s_iload dX12_plan_34 rfl) ?_
        refine W_s (s_goto dX12_plan_36 rfl) ?_
        exact W_r (r := r6) (f_int (ty := .int) dX12_plan_43 rfl rfl)
      · refine W_s (s_if_eq_t dX12_plan_31 rfl (gx_bf h8)) ?_
        refine W_s (s_aload_n dX12_plan_39 rfl rfl) ?_
        refine W_s (gf_RX12_397 rfl dX12_plan_40) ?_
        exact W_r (r := (μ7.1 206 41)) (f_int (ty := .int) dX12_plan_43 rfl rfl)
    · refine W_s (s_if_ne_f dX12_plan_18 rfl (gx_bf h5)) ?_
      refine W_s (s_iconst dX12_plan_21 kci_m1) ?_
      exact W_r (r := (-1)) (f_int (ty := .int) dX12_plan_22 rfl rfl)
  · refine W_s (s_if_eq_t dX12_plan_10 rfl (gx_bf h4)) ?_
    refine W_s (s_iconst dX12_plan_21 kci_m1) ?_
    exact W_r (r := (-1)) (f_int (ty := .int) dX12_plan_22 rfl rfl)

def L_X12_drawn_38 (p3 : Int32) (k11 : gx_M → Option (Int32 × gx_M)) : Nat → Int32 → gx_M → Option (Int32 × gx_M)
  | 0, _, _ => none
  | n + 1, v5_9, μ10 => if p3 ≤ v5_9 then k11 μ10 else gx_bd (f_X12_drawDeed μ10) (fun (r13 : Unit) (μ14 : gx_M) => L_X12_drawn_38 p3 k11 n (v5_9 + 1) μ14)
def f_X12_drawn (p1 : Int32) (p2 : Int32) (p3 : Int32) (p4 : Int32) (μ : gx_M) : Option (Int32 × gx_M) := gx_lt (gx_uI μ 206 0 0) (fun (μ1 : gx_M) => if (f_X12_in p3 0 60) = true then gx_bd (f_X12_hand p1 μ1) (fun (r3 : Bool) (μ4 : gx_M) => if r3 = true then gx_lt (gx_uI μ4 206 55 p2) (fun (μ6 : gx_M) => gx_bd (f_X12_opens μ6) (fun (r7 : Unit) (μ8 : gx_M) => L_X12_drawn_38 p3 (fun (μ16 : gx_M) => gx_br (f_X12_ofState p4 μ16) (fun (r17 : Int32) => some (r17, μ16))) 4000 0 μ8)) else some ((-2), μ4)) else some ((-2), μ1))
theorem okL_X12_drawn_38 {E : gx_E} {l : Launch} {p3 : Int32} {p4 : Int32} {k11 : gx_M → Option (Int32 × gx_M)} (hk : ∀ (μ15 : gx_M), GoW E l Y_X12_drawn 6 gx_eI 54 [some (.ref (E.2.2.1 + 206)), none, none, none, some (.int p4)] [] μ15 (k11 μ15)) : ∀ (n : Nat) (v5_9 : Int32) (μ10 : gx_M), GoW E l Y_X12_drawn 6 gx_eI 38 [some (.ref (E.2.2.1 + 206)), none, none, some (.int p3), some (.int p4), some (.int v5_9)] [] μ10 (L_X12_drawn_38 p3 k11 n v5_9 μ10) := by
  intro n
  induction n with
  | zero => intros; exact W_no
  | succ n ih =>
    intro v5_9 μ10
    rw [L_X12_drawn_38.eq_2]
    refine W_s (s_iload dX12_drawn_38 rfl) ?_
    refine W_s (s_iload_n dX12_drawn_40 rfl rfl) ?_
    refine W_ite (fun h12 => ?_) (fun h12 => ?_)
    · refine W_s (s_icmp_ge_t dX12_drawn_41 rfl h12) ?_
      exact W_wk (hk μ10) (le_s rfl (le_o (le_o (le_o (le_s rfl le_n)))))
    · refine W_s (s_icmp_ge_f dX12_drawn_41 rfl h12) ?_
      refine W_s (s_aload_n dX12_drawn_44 rfl rfl) ?_
      refine W_bd (ec := gx_eV) (fun r_ μ_ hr_ => s_callV (As := []) dX12_drawn_45 Lk_RX12_523 rfl g_206 (by decide) rfl (Nat.le_of_ble_eq_true rfl) (Nat.le_of_ble_eq_true rfl) (ev_X12_drawDeed μ10 hr_)) (fun r13 μ14 => ?_)
      refine W_s (s_iinc dX12_drawn_48 rfl (kinc_1 v5_9) (Nat.le_of_ble_eq_true rfl)) ?_
      refine W_s (s_goto dX12_drawn_51 rfl) ?_
      exact W_wk (ih (v5_9 + 1) μ14) (le_s rfl (le_o (le_o (le_s rfl (le_s rfl (le_s rfl le_n))))))
theorem ev_X12_drawn {E : gx_E} {l : Launch} (p1 : Int32) (p2 : Int32) (p3 : Int32) (p4 : Int32) (μ : gx_M) {r : Int32} {μ' : gx_M} (hr : f_X12_drawn p1 p2 p3 p4 μ = some (r, μ')) : gEv E l 6 Y_X12_drawn [.ref (E.2.2.1 + 206), .int p1, .int p2, .int p3, .int p4] gx_G1 μ (gx_eI r) gx_G1 μ' := by
  refine W_ev (by decide) (Nat.le_of_ble_eq_true rfl) (em := gx_eI) (T := f_X12_drawn p1 p2 p3 p4 μ) ?_ hr
  show GoW E l Y_X12_drawn 6 gx_eI 0 (gx_el [.ref (E.2.2.1 + 206), .int p1, .int p2, .int p3, .int p4]) [] μ (f_X12_drawn p1 p2 p3 p4 μ)
  unfold f_X12_drawn
  refine W_s (s_aload_n dX12_drawn_0 rfl rfl) ?_
  refine W_s (s_iconst dX12_drawn_1 kci_0) ?_
  refine W_s (pf_RX12_100 rfl dX12_drawn_2) ?_
  refine W_letM (fun μ1 => ?_)
  refine W_s (s_iload_n dX12_drawn_5 rfl rfl) ?_
  refine W_s (s_iconst dX12_drawn_6 kci_0) ?_
  refine W_s (s_bipush dX12_drawn_7 kcb_60) ?_
  refine W_s (s_callS (As := [.int _, .int _, .int _]) dX12_drawn_9 Lk_RX12_112 rfl (Nat.le_of_ble_eq_true rfl) (Nat.le_of_ble_eq_true rfl) (ev_X12_in p3 0 60 μ1)) ?_
  refine W_ite (fun h2 => ?_) (fun h2 => ?_)
  · refine W_s (s_if_eq_f dX12_drawn_12 rfl (gx_bt h2)) ?_
    refine W_s (s_aload_n dX12_drawn_15 rfl rfl) ?_
    refine W_s (s_iload_n dX12_drawn_16 rfl rfl) ?_
    refine W_bd (ec := gx_eB) (fun r_ μ_ hr_ => s_callV (As := [.int _]) dX12_drawn_17 Lk_RX12_298 rfl g_206 (by decide) rfl (Nat.le_of_ble_eq_true rfl) (Nat.le_of_ble_eq_true rfl) (ev_X12_hand p1 μ1 hr_)) (fun r3 μ4 => ?_)
    refine W_ite (fun h5 => ?_) (fun h5 => ?_)
    · refine W_s (s_if_ne_t dX12_drawn_20 rfl (gx_bt h5)) ?_
      refine W_s (s_aload_n dX12_drawn_26 rfl rfl) ?_
      refine W_s (s_iload_n dX12_drawn_27 rfl rfl) ?_
      refine W_s (pf_RX12_516 rfl dX12_drawn_28) ?_
      refine W_letM (fun μ6 => ?_)
      refine W_s (s_aload_n dX12_drawn_31 rfl rfl) ?_
      refine W_bd (ec := gx_eV) (fun r_ μ_ hr_ => s_callV (As := []) dX12_drawn_32 Lk_RX12_350 rfl g_206 (by decide) rfl (Nat.le_of_ble_eq_true rfl) (Nat.le_of_ble_eq_true rfl) (ev_X12_opens μ6 hr_)) (fun r7 μ8 => ?_)
      refine W_s (s_iconst dX12_drawn_35 kci_0) ?_
      refine W_s (s_istore dX12_drawn_36 (Nat.le_of_ble_eq_true rfl)) ?_
      refine W_wk (okL_X12_drawn_38 ?_ 4000 0 μ8) (le_s rfl (le_o (le_o (le_s rfl (le_s rfl (le_s rfl le_n))))))
      intro μ16
      refine W_s (s_aload_n dX12_drawn_54 rfl rfl) ?_
      refine W_s (s_iload dX12_drawn_55 rfl) ?_
      refine W_br (ec := gx_eI) (fun r_ hr_ => s_callV (As := [.int _]) dX12_drawn_57 Lk_RX12_368 rfl g_206 (by decide) rfl (Nat.le_of_ble_eq_true rfl) (Nat.le_of_ble_eq_true rfl) (ev_X12_ofState p4 μ16 hr_)) (fun r17 => ?_)
      exact W_r (r := r17) (f_int (ty := .int) dX12_drawn_60 rfl rfl)
    · refine W_s (s_if_ne_f dX12_drawn_20 rfl (gx_bf h5)) ?_
      refine W_s (s_bipush dX12_drawn_23 kcb_m2) ?_
      exact W_r (r := (-2)) (f_int (ty := .int) dX12_drawn_25 rfl rfl)
  · refine W_s (s_if_eq_t dX12_drawn_12 rfl (gx_bf h2)) ?_
    refine W_s (s_bipush dX12_drawn_23 kcb_m2) ?_
    exact W_r (r := (-2)) (f_int (ty := .int) dX12_drawn_25 rfl rfl)

def L_X12_gift_42 (p2 : Int32) (p3 : Int32) (k11 : Int32 → Int32 → gx_M → Option (Int32 × gx_M)) : Nat → Int32 → Int32 → Int32 → gx_M → Option (Int32 × gx_M)
  | 0, _, _, _, _ => none
  | n + 1, v5_7, v6_8, v7_9, μ10 => if (μ10.1 206 25) ≤ v7_9 then k11 v5_7 v6_8 μ10 else gx_ck (gx_ix v7_9 40 = true) (gx_lt (μ10.1 220 v7_9.toNatClampNeg) (fun (x14 : Int32) => gx_lt (fun (j0_26 : Int32) (j1_27 : Int32) (μ28 : gx_M) => L_X12_gift_42 p2 p3 k11 n j0_26 j1_27 (v7_9 + 1) μ28) (fun J15 => if x14 = p2 then J15 v5_7 v6_8 μ10 else gx_lt (gx_uI μ10 220 v7_9.toNatClampNeg p2) (fun (μ17 : gx_M) => gx_bd (f_X12_costOf p2 p3 μ17) (fun (r18 : Int32) (μ19 : gx_M) => gx_lt (gx_uI μ19 220 v7_9.toNatClampNeg x14) (fun (μ20 : gx_M) => gx_lt (fun (j0_23 : Int32) (μ24 : gx_M) => gx_lt (f_X12_lesser v6_8 r18) (fun (x25 : Int32) => J15 j0_23 x25 μ24)) (fun J21 => if v6_8 ≤ r18 then J21 v5_7 μ20 else J21 v7_9 μ20)))))))
def f_X12_gift (p1 : Int32) (p2 : Int32) (p3 : Int32) (p4 : Bool) (μ : gx_M) : Option (Int32 × gx_M) := gx_lt (gx_uI μ 206 0 0) (fun (μ1 : gx_M) => gx_bd (f_X12_hand p1 μ1) (fun (r2 : Bool) (μ3 : gx_M) => if r2 = true then if (f_X12_isPerson p2 μ3) = true then if (f_X12_isSet p3 μ3) = true then L_X12_gift_42 p2 p3 (fun (x5_32 : Int32) (x6_33 : Int32) (μ34 : gx_M) => if x5_32 = (-1) then some (x5_32, μ34) else if p4 = true then some (x6_33, μ34) else some (x5_32, μ34)) 4000 (-1) 1000000 0 μ3 else some ((-1), μ3) else some ((-1), μ3) else some ((-1), μ3)))
theorem okL_X12_gift_42 {E : gx_E} {l : Launch} {p2 : Int32} {p3 : Int32} {p4 : Bool} {k11 : Int32 → Int32 → gx_M → Option (Int32 × gx_M)} (hk : ∀ (w29 : Int32) (w30 : Int32) (μ31 : gx_M), GoW E l Y_X12_gift 6 gx_eI 122 [none, none, none, none, some (.int (gx_bi p4)), some (.int w29), some (.int w30)] [] μ31 (k11 w29 w30 μ31)) : ∀ (n : Nat) (v5_7 : Int32) (v6_8 : Int32) (v7_9 : Int32) (μ10 : gx_M), GoW E l Y_X12_gift 6 gx_eI 42 [some (.ref (E.2.2.1 + 206)), none, some (.int p2), some (.int p3), some (.int (gx_bi p4)), some (.int v5_7), some (.int v6_8), some (.int v7_9)] [] μ10 (L_X12_gift_42 p2 p3 k11 n v5_7 v6_8 v7_9 μ10) := by
  intro n
  induction n with
  | zero => intros; exact W_no
  | succ n ih =>
    intro v5_7 v6_8 v7_9 μ10
    rw [L_X12_gift_42.eq_2]
    refine W_s (s_iload dX12_gift_42 rfl) ?_
    refine W_s (s_aload_n dX12_gift_44 rfl rfl) ?_
    refine W_s (gf_RX12_283 rfl dX12_gift_45) ?_
    refine W_ite (fun h12 => ?_) (fun h12 => ?_)
    · refine W_s (s_icmp_ge_t dX12_gift_48 rfl h12) ?_
      exact W_wk (hk v5_7 v6_8 μ10) (le_o (le_o (le_o (le_o (le_s rfl (le_s rfl (le_s rfl le_n)))))))
    · refine W_s (s_icmp_ge_f dX12_gift_48 rfl h12) ?_
      refine W_s (s_aload_n dX12_gift_51 rfl rfl) ?_
      refine W_s (gf_RX12_50 rfl dX12_gift_52) ?_
      refine W_s (s_iload dX12_gift_55 rfl) ?_
      refine W_ck (fun h13 => ?_)
      refine W_s (s_iald dX12_gift_57 g_220 (gx_ixv h13)) ?_
      refine W_letI (fun x14 => ?_)
      refine W_s (s_istore dX12_gift_58 (Nat.le_of_ble_eq_true rfl)) ?_
      refine W_s (s_iload dX12_gift_60 rfl) ?_
      refine W_s (s_iload_n dX12_gift_62 rfl rfl) ?_
      refine W_fun (fun J => ∀ (j0_26 : Int32) (j1_27 : Int32) (μ28 : gx_M), GoW E l Y_X12_gift 6 gx_eI 116 [some (.ref (E.2.2.1 + 206)), none, some (.int p2), some (.int p3), some (.int (gx_bi p4)), some (.int j0_26), some (.int j1_27), some (.int v7_9)] [] μ28 (J j0_26 j1_27 μ28)) ?_ (fun J15 hJ15 => ?_)
      · intro j0_26 j1_27 μ28
        refine W_s (s_iinc dX12_gift_116 rfl (kinc_1 v7_9) (Nat.le_of_ble_eq_true rfl)) ?_
        refine W_s (s_goto dX12_gift_119 rfl) ?_
        exact W_wk (ih j0_26 j1_27 (v7_9 + 1) μ28) (le_s rfl (le_o (le_s rfl (le_s rfl (le_s rfl (le_s rfl (le_s rfl (le_s rfl le_n))))))))
      · skip
        refine W_ite (fun h16 => ?_) (fun h16 => ?_)
        · refine W_s (s_icmp_eq_t dX12_gift_63 rfl h16) ?_
          exact W_wk (hJ15 v5_7 v6_8 μ10) (le_s rfl (le_o (le_s rfl (le_s rfl (le_s rfl (le_s rfl (le_s rfl (le_s rfl le_n))))))))
        · refine W_s (s_icmp_eq_f dX12_gift_63 rfl h16) ?_
          refine W_s (s_aload_n dX12_gift_66 rfl rfl) ?_
          refine W_s (gf_RX12_50 rfl dX12_gift_67) ?_
          refine W_s (s_iload dX12_gift_70 rfl) ?_
          refine W_s (s_iload_n dX12_gift_72 rfl rfl) ?_
          refine W_s (s_iast dX12_gift_73 g_220 (gx_ixv h13)) ?_
          refine W_letM (fun μ17 => ?_)
          refine W_s (s_aload_n dX12_gift_74 rfl rfl) ?_
          refine W_s (s_iload_n dX12_gift_75 rfl rfl) ?_
          refine W_s (s_iload_n dX12_gift_76 rfl rfl) ?_
          refine W_bd (ec := gx_eI) (fun r_ μ_ hr_ => s_callV (As := [.int _, .int _]) dX12_gift_77 Lk_RX12_388 rfl g_206 (by decide) rfl (Nat.le_of_ble_eq_true rfl) (Nat.le_of_ble_eq_true rfl) (ev_X12_costOf p2 p3 μ17 hr_)) (fun r18 μ19 => ?_)
          refine W_s (s_istore dX12_gift_80 (Nat.le_of_ble_eq_true rfl)) ?_
          refine W_s (s_aload_n dX12_gift_82 rfl rfl) ?_
          refine W_s (gf_RX12_50 rfl dX12_gift_83) ?_
          refine W_s (s_iload dX12_gift_86 rfl) ?_
          refine W_s (s_iload dX12_gift_88 rfl) ?_
          refine W_s (s_iast dX12_gift_90 g_220 (gx_ixv h13)) ?_
          refine W_letM (fun μ20 => ?_)
          refine W_s (s_iload dX12_gift_91 rfl) ?_
          refine W_s (s_iload dX12_gift_93 rfl) ?_
          refine W_fun (fun J => ∀ (j0_23 : Int32) (μ24 : gx_M), GoW E l Y_X12_gift 6 gx_eI 105 [some (.ref (E.2.2.1 + 206)), none, some (.int p2), some (.int p3), some (.int (gx_bi p4)), none, some (.int v6_8), some (.int v7_9), none, some (.int r18)] [.int j0_23] μ24 (J j0_23 μ24)) ?_ (fun J21 hJ21 => ?_)
          · intro j0_23 μ24
            refine W_s (s_istore dX12_gift_105 (Nat.le_of_ble_eq_true rfl)) ?_
            refine W_s (s_iload dX12_gift_107 rfl) ?_
            refine W_s (s_iload dX12_gift_109 rfl) ?_
            refine W_s (s_callS (As := [.int _, .int _]) dX12_gift_111 Lk_RX12_375 rfl (Nat.le_of_ble_eq_true rfl) (Nat.le_of_ble_eq_true rfl) (ev_X12_lesser v6_8 r18 μ24)) ?_
            refine W_letI (fun x25 => ?_)
            refine W_s (s_istore dX12_gift_114 (Nat.le_of_ble_eq_true rfl)) ?_
            exact W_wk (hJ15 j0_23 x25 μ24) (le_s rfl (le_o (le_s rfl (le_s rfl (le_s rfl (le_s rfl (le_s rfl (le_s rfl le_n))))))))
          · skip
            refine W_ite (fun h22 => ?_) (fun h22 => ?_)
            · refine W_s (s_icmp_ge_t dX12_gift_95 rfl h22) ?_
              refine W_s (s_iload dX12_gift_103 rfl) ?_
              exact W_wk (hJ21 v5_7 μ20) (le_s rfl (le_o (le_s rfl (le_s rfl (le_s rfl (le_o (le_s rfl (le_s rfl (le_o (le_s rfl le_n))))))))))
            · refine W_s (s_icmp_ge_f dX12_gift_95 rfl h22) ?_
              refine W_s (s_iload dX12_gift_98 rfl) ?_
              refine W_s (s_goto dX12_gift_100 rfl) ?_
              exact W_wk (hJ21 v7_9 μ20) (le_s rfl (le_o (le_s rfl (le_s rfl (le_s rfl (le_o (le_s rfl (le_s rfl (le_o (le_s rfl le_n))))))))))
theorem ev_X12_gift {E : gx_E} {l : Launch} (p1 : Int32) (p2 : Int32) (p3 : Int32) (p4 : Bool) (μ : gx_M) {r : Int32} {μ' : gx_M} (hr : f_X12_gift p1 p2 p3 p4 μ = some (r, μ')) : gEv E l 6 Y_X12_gift [.ref (E.2.2.1 + 206), .int p1, .int p2, .int p3, .int (gx_bi p4)] gx_G1 μ (gx_eI r) gx_G1 μ' := by
  refine W_ev (by decide) (Nat.le_of_ble_eq_true rfl) (em := gx_eI) (T := f_X12_gift p1 p2 p3 p4 μ) ?_ hr
  show GoW E l Y_X12_gift 6 gx_eI 0 (gx_el [.ref (E.2.2.1 + 206), .int p1, .int p2, .int p3, .int (gx_bi p4)]) [] μ (f_X12_gift p1 p2 p3 p4 μ)
  unfold f_X12_gift
  refine W_s (s_aload_n dX12_gift_0 rfl rfl) ?_
  refine W_s (s_iconst dX12_gift_1 kci_0) ?_
  refine W_s (pf_RX12_100 rfl dX12_gift_2) ?_
  refine W_letM (fun μ1 => ?_)
  refine W_s (s_aload_n dX12_gift_5 rfl rfl) ?_
  refine W_s (s_iload_n dX12_gift_6 rfl rfl) ?_
  refine W_bd (ec := gx_eB) (fun r_ μ_ hr_ => s_callV (As := [.int _]) dX12_gift_7 Lk_RX12_298 rfl g_206 (by decide) rfl (Nat.le_of_ble_eq_true rfl) (Nat.le_of_ble_eq_true rfl) (ev_X12_hand p1 μ1 hr_)) (fun r2 μ3 => ?_)
  refine W_ite (fun h4 => ?_) (fun h4 => ?_)
  · refine W_s (s_if_eq_f dX12_gift_10 rfl (gx_bt h4)) ?_
    refine W_s (s_aload_n dX12_gift_13 rfl rfl) ?_
    refine W_s (s_iload_n dX12_gift_14 rfl rfl) ?_
    refine W_s (s_callV (As := [.int _]) dX12_gift_15 Lk_RX12_316 rfl g_206 (by decide) rfl (Nat.le_of_ble_eq_true rfl) (Nat.le_of_ble_eq_true rfl) (ev_X12_isPerson p2 μ3)) ?_
    refine W_ite (fun h5 => ?_) (fun h5 => ?_)
    · refine W_s (s_if_eq_f dX12_gift_18 rfl (gx_bt h5)) ?_
      refine W_s (s_aload_n dX12_gift_21 rfl rfl) ?_
      refine W_s (s_iload_n dX12_gift_22 rfl rfl) ?_
      refine W_s (s_callV (As := [.int _]) dX12_gift_23 Lk_RX12_391 rfl g_206 (by decide) rfl (Nat.le_of_ble_eq_true rfl) (Nat.le_of_ble_eq_true rfl) (ev_X12_isSet p3 μ3)) ?_
      refine W_ite (fun h6 => ?_) (fun h6 => ?_)
      · refine W_s (s_if_ne_t dX12_gift_26 rfl (gx_bt h6)) ?_
        refine W_s (s_iconst dX12_gift_31 kci_m1) ?_
        refine W_s (s_istore dX12_gift_32 (Nat.le_of_ble_eq_true rfl)) ?_
        refine W_s (s_ldcw dX12_gift_34 kw_RX12_371) ?_
        refine W_s (s_istore dX12_gift_37 (Nat.le_of_ble_eq_true rfl)) ?_
        refine W_s (s_iconst dX12_gift_39 kci_0) ?_
        refine W_s (s_istore dX12_gift_40 (Nat.le_of_ble_eq_true rfl)) ?_
        refine W_wk (okL_X12_gift_42 ?_ 4000 (-1) 1000000 0 μ3) (le_s rfl (le_o (le_s rfl (le_s rfl (le_s rfl (le_s rfl (le_s rfl (le_s rfl le_n))))))))
        intro x5_32 x6_33 μ34
        refine W_s (s_iload dX12_gift_122 rfl) ?_
        refine W_s (s_iconst dX12_gift_124 kci_m1) ?_
        refine W_ite (fun h35 => ?_) (fun h35 => ?_)
        · refine W_s (s_icmp_eq_t dX12_gift_125 rfl h35) ?_
          refine W_s (s_iload dX12_gift_133 rfl) ?_
          refine W_s (s_goto dX12_gift_135 rfl) ?_
          exact W_r (r := x5_32) (f_int (ty := .int) dX12_gift_140 rfl rfl)
        · refine W_s (s_icmp_eq_f dX12_gift_125 rfl h35) ?_
          refine W_s (s_iload dX12_gift_128 rfl) ?_
          refine W_ite (fun h36 => ?_) (fun h36 => ?_)
          · refine W_s (s_if_ne_t dX12_gift_130 rfl (gx_bt h36)) ?_
            refine W_s (s_iload dX12_gift_138 rfl) ?_
            exact W_r (r := x6_33) (f_int (ty := .int) dX12_gift_140 rfl rfl)
          · refine W_s (s_if_ne_f dX12_gift_130 rfl (gx_bf h36)) ?_
            refine W_s (s_iload dX12_gift_133 rfl) ?_
            refine W_s (s_goto dX12_gift_135 rfl) ?_
            exact W_r (r := x5_32) (f_int (ty := .int) dX12_gift_140 rfl rfl)
      · refine W_s (s_if_ne_f dX12_gift_26 rfl (gx_bf h6)) ?_
        refine W_s (s_iconst dX12_gift_29 kci_m1) ?_
        exact W_r (r := (-1)) (f_int (ty := .int) dX12_gift_30 rfl rfl)
    · refine W_s (s_if_eq_t dX12_gift_18 rfl (gx_bf h5)) ?_
      refine W_s (s_iconst dX12_gift_29 kci_m1) ?_
      exact W_r (r := (-1)) (f_int (ty := .int) dX12_gift_30 rfl rfl)
  · refine W_s (s_if_eq_t dX12_gift_10 rfl (gx_bf h4)) ?_
    refine W_s (s_iconst dX12_gift_29 kci_m1) ?_
    exact W_r (r := (-1)) (f_int (ty := .int) dX12_gift_30 rfl rfl)

def f_X12_missed (p1 : Int32) (p2 : Int32) (p3 : Int32) (μ : gx_M) : Option (Int32 × gx_M) := gx_lt (gx_uI μ 206 0 0) (fun (μ1 : gx_M) => gx_bd (f_X12_hand p1 μ1) (fun (r2 : Bool) (μ3 : gx_M) => if r2 = true then if (f_X12_isPerson p2 μ3) = true then if (f_X12_isMinute p3 μ3) = true then gx_bd (f_X12_planOf p2 μ3) (fun (r7 : Int32) (μ8 : gx_M) => gx_lt (gx_uI μ8 206 38 p3) (fun (μ9 : gx_M) => gx_bd (f_X12_planOf p2 μ9) (fun (r10 : Int32) (μ11 : gx_M) => some ((r7 - r10), μ11)))) else some ((-1), μ3) else some ((-1), μ3) else some ((-1), μ3)))
theorem ev_X12_missed {E : gx_E} {l : Launch} (p1 : Int32) (p2 : Int32) (p3 : Int32) (μ : gx_M) {r : Int32} {μ' : gx_M} (hr : f_X12_missed p1 p2 p3 μ = some (r, μ')) : gEv E l 6 Y_X12_missed [.ref (E.2.2.1 + 206), .int p1, .int p2, .int p3] gx_G1 μ (gx_eI r) gx_G1 μ' := by
  refine W_ev (by decide) (Nat.le_of_ble_eq_true rfl) (em := gx_eI) (T := f_X12_missed p1 p2 p3 μ) ?_ hr
  show GoW E l Y_X12_missed 6 gx_eI 0 (gx_el [.ref (E.2.2.1 + 206), .int p1, .int p2, .int p3]) [] μ (f_X12_missed p1 p2 p3 μ)
  unfold f_X12_missed
  refine W_s (s_aload_n dX12_missed_0 rfl rfl) ?_
  refine W_s (s_iconst dX12_missed_1 kci_0) ?_
  refine W_s (pf_RX12_100 rfl dX12_missed_2) ?_
  refine W_letM (fun μ1 => ?_)
  refine W_s (s_aload_n dX12_missed_5 rfl rfl) ?_
  refine W_s (s_iload_n dX12_missed_6 rfl rfl) ?_
  refine W_bd (ec := gx_eB) (fun r_ μ_ hr_ => s_callV (As := [.int _]) dX12_missed_7 Lk_RX12_298 rfl g_206 (by decide) rfl (Nat.le_of_ble_eq_true rfl) (Nat.le_of_ble_eq_true rfl) (ev_X12_hand p1 μ1 hr_)) (fun r2 μ3 => ?_)
  refine W_ite (fun h4 => ?_) (fun h4 => ?_)
  · refine W_s (s_if_eq_f dX12_missed_10 rfl (gx_bt h4)) ?_
    refine W_s (s_aload_n dX12_missed_13 rfl rfl) ?_
    refine W_s (s_iload_n dX12_missed_14 rfl rfl) ?_
    refine W_s (s_callV (As := [.int _]) dX12_missed_15 Lk_RX12_316 rfl g_206 (by decide) rfl (Nat.le_of_ble_eq_true rfl) (Nat.le_of_ble_eq_true rfl) (ev_X12_isPerson p2 μ3)) ?_
    refine W_ite (fun h5 => ?_) (fun h5 => ?_)
    · refine W_s (s_if_eq_f dX12_missed_18 rfl (gx_bt h5)) ?_
      refine W_s (s_aload_n dX12_missed_21 rfl rfl) ?_
      refine W_s (s_iload_n dX12_missed_22 rfl rfl) ?_
      refine W_s (s_callV (As := [.int _]) dX12_missed_23 Lk_RX12_322 rfl g_206 (by decide) rfl (Nat.le_of_ble_eq_true rfl) (Nat.le_of_ble_eq_true rfl) (ev_X12_isMinute p3 μ3)) ?_
      refine W_ite (fun h6 => ?_) (fun h6 => ?_)
      · refine W_s (s_if_ne_t dX12_missed_26 rfl (gx_bt h6)) ?_
        refine W_s (s_aload_n dX12_missed_31 rfl rfl) ?_
        refine W_s (s_iload_n dX12_missed_32 rfl rfl) ?_
        refine W_bd (ec := gx_eI) (fun r_ μ_ hr_ => s_callV (As := [.int _]) dX12_missed_33 Lk_RX12_406 rfl g_206 (by decide) rfl (Nat.le_of_ble_eq_true rfl) (Nat.le_of_ble_eq_true rfl) (ev_X12_planOf p2 μ3 hr_)) (fun r7 μ8 => ?_)
        refine W_s (s_istore dX12_missed_36 (Nat.le_of_ble_eq_true rfl)) ?_
        refine W_s (s_aload_n dX12_missed_38 rfl rfl) ?_
        refine W_s (s_iload_n dX12_missed_39 rfl rfl) ?_
        refine W_s (pf_RX12_292 rfl dX12_missed_40) ?_
        refine W_letM (fun μ9 => ?_)
        refine W_s (s_iload dX12_missed_43 rfl) ?_
        refine W_s (s_aload_n dX12_missed_45 rfl rfl) ?_
        refine W_s (s_iload_n dX12_missed_46 rfl rfl) ?_
        refine W_bd (ec := gx_eI) (fun r_ μ_ hr_ => s_callV (As := [.int _]) dX12_missed_47 Lk_RX12_406 rfl g_206 (by decide) rfl (Nat.le_of_ble_eq_true rfl) (Nat.le_of_ble_eq_true rfl) (ev_X12_planOf p2 μ9 hr_)) (fun r10 μ11 => ?_)
        refine W_s (s_isub dX12_missed_50) ?_
        exact W_r (r := (r7 - r10)) (f_int (ty := .int) dX12_missed_51 rfl rfl)
      · refine W_s (s_if_ne_f dX12_missed_26 rfl (gx_bf h6)) ?_
        refine W_s (s_iconst dX12_missed_29 kci_m1) ?_
        exact W_r (r := (-1)) (f_int (ty := .int) dX12_missed_30 rfl rfl)
    · refine W_s (s_if_eq_t dX12_missed_18 rfl (gx_bf h5)) ?_
      refine W_s (s_iconst dX12_missed_29 kci_m1) ?_
      exact W_r (r := (-1)) (f_int (ty := .int) dX12_missed_30 rfl rfl)
  · refine W_s (s_if_eq_t dX12_missed_10 rfl (gx_bf h4)) ?_
    refine W_s (s_iconst dX12_missed_29 kci_m1) ?_
    exact W_r (r := (-1)) (f_int (ty := .int) dX12_missed_30 rfl rfl)

def f_X12_left (p1 : Int32) (p2 : Int32) (μ : gx_M) : Option (Int32 × gx_M) := gx_lt (gx_uI μ 206 0 0) (fun (μ1 : gx_M) => gx_bd (f_X12_hand p1 μ1) (fun (r2 : Bool) (μ3 : gx_M) => if r2 = true then if (f_X12_isPerson p2 μ3) = true then gx_br (f_X12_of ((3 : Int32) + p2) μ3) (fun (r6 : Int32) => gx_bd (f_X12_planOf p2 μ3) (fun (r7 : Int32) (μ8 : gx_M) => some ((r6 + r7), μ8))) else some ((-1), μ3) else some ((-1), μ3)))
theorem ev_X12_left {E : gx_E} {l : Launch} (p1 : Int32) (p2 : Int32) (μ : gx_M) {r : Int32} {μ' : gx_M} (hr : f_X12_left p1 p2 μ = some (r, μ')) : gEv E l 6 Y_X12_left [.ref (E.2.2.1 + 206), .int p1, .int p2] gx_G1 μ (gx_eI r) gx_G1 μ' := by
  refine W_ev (by decide) (Nat.le_of_ble_eq_true rfl) (em := gx_eI) (T := f_X12_left p1 p2 μ) ?_ hr
  show GoW E l Y_X12_left 6 gx_eI 0 (gx_el [.ref (E.2.2.1 + 206), .int p1, .int p2]) [] μ (f_X12_left p1 p2 μ)
  unfold f_X12_left
  refine W_s (s_aload_n dX12_left_0 rfl rfl) ?_
  refine W_s (s_iconst dX12_left_1 kci_0) ?_
  refine W_s (pf_RX12_100 rfl dX12_left_2) ?_
  refine W_letM (fun μ1 => ?_)
  refine W_s (s_aload_n dX12_left_5 rfl rfl) ?_
  refine W_s (s_iload_n dX12_left_6 rfl rfl) ?_
  refine W_bd (ec := gx_eB) (fun r_ μ_ hr_ => s_callV (As := [.int _]) dX12_left_7 Lk_RX12_298 rfl g_206 (by decide) rfl (Nat.le_of_ble_eq_true rfl) (Nat.le_of_ble_eq_true rfl) (ev_X12_hand p1 μ1 hr_)) (fun r2 μ3 => ?_)
  refine W_ite (fun h4 => ?_) (fun h4 => ?_)
  · refine W_s (s_if_eq_f dX12_left_10 rfl (gx_bt h4)) ?_
    refine W_s (s_aload_n dX12_left_13 rfl rfl) ?_
    refine W_s (s_iload_n dX12_left_14 rfl rfl) ?_
    refine W_s (s_callV (As := [.int _]) dX12_left_15 Lk_RX12_316 rfl g_206 (by decide) rfl (Nat.le_of_ble_eq_true rfl) (Nat.le_of_ble_eq_true rfl) (ev_X12_isPerson p2 μ3)) ?_
    refine W_ite (fun h5 => ?_) (fun h5 => ?_)
    · refine W_s (s_if_eq_f dX12_left_18 rfl (gx_bt h5)) ?_
      refine W_s (s_aload_n dX12_left_21 rfl rfl) ?_
      refine W_s (s_iconst dX12_left_22 kci_3) ?_
      refine W_s (s_iload_n dX12_left_23 rfl rfl) ?_
      refine W_s (s_iadd dX12_left_24) ?_
      refine W_br (ec := gx_eI) (fun r_ hr_ => s_callV (As := [.int _]) dX12_left_25 Lk_RX12_279 rfl g_206 (by decide) rfl (Nat.le_of_ble_eq_true rfl) (Nat.le_of_ble_eq_true rfl) (ev_X12_of ((3 : Int32) + p2) μ3 hr_)) (fun r6 => ?_)
      refine W_s (s_aload_n dX12_left_28 rfl rfl) ?_
      refine W_s (s_iload_n dX12_left_29 rfl rfl) ?_
      refine W_bd (ec := gx_eI) (fun r_ μ_ hr_ => s_callV (As := [.int _]) dX12_left_30 Lk_RX12_406 rfl g_206 (by decide) rfl (Nat.le_of_ble_eq_true rfl) (Nat.le_of_ble_eq_true rfl) (ev_X12_planOf p2 μ3 hr_)) (fun r7 μ8 => ?_)
      refine W_s (s_iadd dX12_left_33) ?_
      refine W_s (s_goto dX12_left_34 rfl) ?_
      exact W_r (r := (r6 + r7)) (f_int (ty := .int) dX12_left_38 rfl rfl)
    · refine W_s (s_if_eq_t dX12_left_18 rfl (gx_bf h5)) ?_
      refine W_s (s_iconst dX12_left_37 kci_m1) ?_
      exact W_r (r := (-1)) (f_int (ty := .int) dX12_left_38 rfl rfl)
  · refine W_s (s_if_eq_t dX12_left_10 rfl (gx_bf h4)) ?_
    refine W_s (s_iconst dX12_left_37 kci_m1) ?_
    exact W_r (r := (-1)) (f_int (ty := .int) dX12_left_38 rfl rfl)

def L_X12_ranked_50 (p2 : Int32) (r10 : Int32) (v4_6 : Int32) (k14 : Int32 → gx_M → Option (Int32 × gx_M)) : Nat → Int32 → Int32 → gx_M → Option (Int32 × gx_M)
  | 0, _, _, _ => none
  | n + 1, v6_11, v7_12, μ13 => if (μ13.1 206 27) ≤ v7_12 then k14 v6_11 μ13 else gx_br (f_X12_rankCost p2 v7_12 μ13) (fun (r16 : Int32) => gx_lt (fun (j0_25 : Bool) (μ26 : gx_M) => gx_lt (v6_11 + (gx_bi j0_25)) (fun (x27 : Int32) => L_X12_ranked_50 p2 r10 v4_6 k14 n x27 (v7_12 + 1) μ26)) (fun J17 => gx_lt (fun (μ24 : gx_M) => J17 true μ24) (fun J18 => if r16 < r10 then J18 μ13 else gx_lt (fun (μ23 : gx_M) => J17 false μ23) (fun J20 => if r16 = r10 then if v4_6 ≤ v7_12 then J20 μ13 else J18 μ13 else J20 μ13))))
def L_X12_ranked_26 (p2 : Int32) (p3 : Int32) (k8 : gx_M → Option (Int32 × gx_M)) : Nat → Int32 → gx_M → Option (Int32 × gx_M)
  | 0, _, _ => none
  | n + 1, v4_6, μ7 => if (μ7.1 206 27) ≤ v4_6 then k8 μ7 else gx_br (f_X12_rankCost p2 v4_6 μ7) (fun (r10 : Int32) => L_X12_ranked_50 p2 r10 v4_6 (fun (x6_30 : Int32) (μ31 : gx_M) => gx_lt (fun (μ35 : gx_M) => L_X12_ranked_26 p2 p3 k8 n (v4_6 + 1) μ35) (fun J32 => if 1000000 ≤ r10 then J32 μ31 else if x6_30 = p3 then some (v4_6, μ31) else J32 μ31)) 4000 0 0 μ7)
def f_X12_ranked (p1 : Int32) (p2 : Int32) (p3 : Int32) (μ : gx_M) : Option (Int32 × gx_M) := gx_lt (gx_uI μ 206 0 0) (fun (μ1 : gx_M) => gx_bd (f_X12_hand p1 μ1) (fun (r2 : Bool) (μ3 : gx_M) => if r2 = true then if (f_X12_isPerson p2 μ3) = true then L_X12_ranked_26 p2 p3 (fun (μ37 : gx_M) => some ((-1), μ37)) 4000 0 μ3 else some ((-1), μ3) else some ((-1), μ3)))
theorem okL_X12_ranked_50 {E : gx_E} {l : Launch} {p2 : Int32} {r10 : Int32} {v4_6 : Int32} {p3 : Int32} {k14 : Int32 → gx_M → Option (Int32 × gx_M)} (hk : ∀ (w28 : Int32) (μ29 : gx_M), GoW E l Y_X12_ranked 6 gx_eI 105 [some (.ref (E.2.2.1 + 206)), none, some (.int p2), some (.int p3), some (.int v4_6), some (.int r10), some (.int w28)] [] μ29 (k14 w28 μ29)) : ∀ (n : Nat) (v6_11 : Int32) (v7_12 : Int32) (μ13 : gx_M), GoW E l Y_X12_ranked 6 gx_eI 50 [some (.ref (E.2.2.1 + 206)), none, some (.int p2), some (.int p3), some (.int v4_6), some (.int r10), some (.int v6_11), some (.int v7_12)] [] μ13 (L_X12_ranked_50 p2 r10 v4_6 k14 n v6_11 v7_12 μ13) := by
  intro n
  induction n with
  | zero => intros; exact W_no
  | succ n ih =>
    intro v6_11 v7_12 μ13
    rw [L_X12_ranked_50.eq_2]
    refine W_s (s_iload dX12_ranked_50 rfl) ?_
    refine W_s (s_aload_n dX12_ranked_52 rfl rfl) ?_
    refine W_s (gf_RX12_289 rfl dX12_ranked_53) ?_
    refine W_ite (fun h15 => ?_) (fun h15 => ?_)
    · refine W_s (s_icmp_ge_t dX12_ranked_56 rfl h15) ?_
      exact W_wk (hk v6_11 μ13) (le_s rfl (le_o (le_s rfl (le_s rfl (le_s rfl (le_s rfl (le_s rfl le_n)))))))
    · refine W_s (s_icmp_ge_f dX12_ranked_56 rfl h15) ?_
      refine W_s (s_aload_n dX12_ranked_59 rfl rfl) ?_
      refine W_s (s_iload_n dX12_ranked_60 rfl rfl) ?_
      refine W_s (s_iload dX12_ranked_61 rfl) ?_
      refine W_br (ec := gx_eI) (fun r_ hr_ => s_callV (As := [.int _, .int _]) dX12_ranked_63 Lk_RX12_530 rfl g_206 (by decide) rfl (Nat.le_of_ble_eq_true rfl) (Nat.le_of_ble_eq_true rfl) (ev_X12_rankCost p2 v7_12 μ13 hr_)) (fun r16 => ?_)
      refine W_s (s_istore dX12_ranked_66 (Nat.le_of_ble_eq_true rfl)) ?_
      refine W_s (s_iload dX12_ranked_68 rfl) ?_
      refine W_s (s_iload dX12_ranked_70 rfl) ?_
      refine W_s (s_iload dX12_ranked_72 rfl) ?_
      refine W_fun (fun J => ∀ (j0_25 : Bool) (μ26 : gx_M), GoW E l Y_X12_ranked 6 gx_eI 96 [some (.ref (E.2.2.1 + 206)), none, some (.int p2), some (.int p3), some (.int v4_6), some (.int r10), none, some (.int v7_12)] [.int (gx_bi j0_25), .int v6_11] μ26 (J j0_25 μ26)) ?_ (fun J17 hJ17 => ?_)
      · intro j0_25 μ26
        refine W_s (s_iadd dX12_ranked_96) ?_
        refine W_letI (fun x27 => ?_)
        refine W_s (s_istore dX12_ranked_97 (Nat.le_of_ble_eq_true rfl)) ?_
        refine W_s (s_iinc dX12_ranked_99 rfl (kinc_1 v7_12) (Nat.le_of_ble_eq_true rfl)) ?_
        refine W_s (s_goto dX12_ranked_102 rfl) ?_
        exact W_wk (ih x27 (v7_12 + 1) μ26) (le_s rfl (le_o (le_s rfl (le_s rfl (le_s rfl (le_s rfl (le_s rfl (le_s rfl le_n))))))))
      · skip
        refine W_fun (fun J => ∀ (μ24 : gx_M), GoW E l Y_X12_ranked 6 gx_eI 91 [some (.ref (E.2.2.1 + 206)), none, some (.int p2), some (.int p3), some (.int v4_6), some (.int r10), none, some (.int v7_12)] [.int v6_11] μ24 (J μ24)) ?_ (fun J18 hJ18 => ?_)
        · intro μ24
          refine W_s (s_iconst dX12_ranked_91 kci_1) ?_
          refine W_s (s_goto dX12_ranked_92 rfl) ?_
          exact W_wk (hJ17 true μ24) (le_s rfl (le_o (le_s rfl (le_s rfl (le_s rfl (le_s rfl (le_o (le_s rfl le_n))))))))
        · skip
          refine W_ite (fun h19 => ?_) (fun h19 => ?_)
          · refine W_s (s_icmp_lt_t dX12_ranked_74 rfl h19) ?_
            exact W_wk (hJ18 μ13) (le_s rfl (le_o (le_s rfl (le_s rfl (le_s rfl (le_s rfl (le_o (le_s rfl le_n))))))))
          · refine W_s (s_icmp_lt_f dX12_ranked_74 rfl h19) ?_
            refine W_s (s_iload dX12_ranked_77 rfl) ?_
            refine W_s (s_iload dX12_ranked_79 rfl) ?_
            refine W_fun (fun J => ∀ (μ23 : gx_M), GoW E l Y_X12_ranked 6 gx_eI 95 [some (.ref (E.2.2.1 + 206)), none, some (.int p2), some (.int p3), some (.int v4_6), some (.int r10), none, some (.int v7_12)] [.int v6_11] μ23 (J μ23)) ?_ (fun J20 hJ20 => ?_)
            · intro μ23
              refine W_s (s_iconst dX12_ranked_95 kci_0) ?_
              exact W_wk (hJ17 false μ23) (le_s rfl (le_o (le_s rfl (le_s rfl (le_s rfl (le_s rfl (le_o (le_s rfl le_n))))))))
            · skip
              refine W_ite (fun h21 => ?_) (fun h21 => ?_)
              · refine W_s (s_icmp_ne_f dX12_ranked_81 rfl h21) ?_
                refine W_s (s_iload dX12_ranked_84 rfl) ?_
                refine W_s (s_iload dX12_ranked_86 rfl) ?_
                refine W_ite (fun h22 => ?_) (fun h22 => ?_)
                · refine W_s (s_icmp_ge_t dX12_ranked_88 rfl h22) ?_
                  exact W_wk (hJ20 μ13) (le_s rfl (le_o (le_s rfl (le_s rfl (le_s rfl (le_s rfl (le_o (le_s rfl le_n))))))))
                · refine W_s (s_icmp_ge_f dX12_ranked_88 rfl h22) ?_
                  exact W_wk (hJ18 μ13) (le_s rfl (le_o (le_s rfl (le_s rfl (le_s rfl (le_s rfl (le_o (le_s rfl le_n))))))))
              · refine W_s (s_icmp_ne_t dX12_ranked_81 rfl h21) ?_
                exact W_wk (hJ20 μ13) (le_s rfl (le_o (le_s rfl (le_s rfl (le_s rfl (le_s rfl (le_o (le_s rfl le_n))))))))
theorem okL_X12_ranked_26 {E : gx_E} {l : Launch} {p2 : Int32} {p3 : Int32} {k8 : gx_M → Option (Int32 × gx_M)} (hk : ∀ (μ36 : gx_M), GoW E l Y_X12_ranked 6 gx_eI 128 [] [] μ36 (k8 μ36)) : ∀ (n : Nat) (v4_6 : Int32) (μ7 : gx_M), GoW E l Y_X12_ranked 6 gx_eI 26 [some (.ref (E.2.2.1 + 206)), none, some (.int p2), some (.int p3), some (.int v4_6)] [] μ7 (L_X12_ranked_26 p2 p3 k8 n v4_6 μ7) := by
  intro n
  induction n with
  | zero => intros; exact W_no
  | succ n ih =>
    intro v4_6 μ7
    rw [L_X12_ranked_26.eq_2]
    refine W_s (s_iload dX12_ranked_26 rfl) ?_
    refine W_s (s_aload_n dX12_ranked_28 rfl rfl) ?_
    refine W_s (gf_RX12_289 rfl dX12_ranked_29) ?_
    refine W_ite (fun h9 => ?_) (fun h9 => ?_)
    · refine W_s (s_icmp_ge_t dX12_ranked_32 rfl h9) ?_
      exact W_wk (hk μ7) le_n
    · refine W_s (s_icmp_ge_f dX12_ranked_32 rfl h9) ?_
      refine W_s (s_aload_n dX12_ranked_35 rfl rfl) ?_
      refine W_s (s_iload_n dX12_ranked_36 rfl rfl) ?_
      refine W_s (s_iload dX12_ranked_37 rfl) ?_
      refine W_br (ec := gx_eI) (fun r_ hr_ => s_callV (As := [.int _, .int _]) dX12_ranked_39 Lk_RX12_530 rfl g_206 (by decide) rfl (Nat.le_of_ble_eq_true rfl) (Nat.le_of_ble_eq_true rfl) (ev_X12_rankCost p2 v4_6 μ7 hr_)) (fun r10 => ?_)
      refine W_s (s_istore dX12_ranked_42 (Nat.le_of_ble_eq_true rfl)) ?_
      refine W_s (s_iconst dX12_ranked_44 kci_0) ?_
      refine W_s (s_istore dX12_ranked_45 (Nat.le_of_ble_eq_true rfl)) ?_
      refine W_s (s_iconst dX12_ranked_47 kci_0) ?_
      refine W_s (s_istore dX12_ranked_48 (Nat.le_of_ble_eq_true rfl)) ?_
      refine W_wk (okL_X12_ranked_50 ?_ 4000 0 0 μ7) (le_s rfl (le_o (le_s rfl (le_s rfl (le_s rfl (le_s rfl (le_s rfl (le_s rfl le_n))))))))
      intro x6_30 μ31
      refine W_s (s_iload dX12_ranked_105 rfl) ?_
      refine W_s (s_ldcw dX12_ranked_107 kw_RX12_371) ?_
      refine W_fun (fun J => ∀ (μ35 : gx_M), GoW E l Y_X12_ranked 6 gx_eI 122 [some (.ref (E.2.2.1 + 206)), none, some (.int p2), some (.int p3), some (.int v4_6)] [] μ35 (J μ35)) ?_ (fun J32 hJ32 => ?_)
      · intro μ35
        refine W_s (s_iinc dX12_ranked_122 rfl (kinc_1 v4_6) (Nat.le_of_ble_eq_true rfl)) ?_
        refine W_s (s_goto dX12_ranked_125 rfl) ?_
        exact W_wk (ih (v4_6 + 1) μ35) (le_s rfl (le_o (le_s rfl (le_s rfl (le_s rfl le_n)))))
      · skip
        refine W_ite (fun h33 => ?_) (fun h33 => ?_)
        · refine W_s (s_icmp_ge_t dX12_ranked_110 rfl h33) ?_
          exact W_wk (hJ32 μ31) (le_s rfl (le_o (le_s rfl (le_s rfl (le_s rfl le_n)))))
        · refine W_s (s_icmp_ge_f dX12_ranked_110 rfl h33) ?_
          refine W_s (s_iload dX12_ranked_113 rfl) ?_
          refine W_s (s_iload_n dX12_ranked_115 rfl rfl) ?_
          refine W_ite (fun h34 => ?_) (fun h34 => ?_)
          · refine W_s (s_icmp_ne_f dX12_ranked_116 rfl h34) ?_
            refine W_s (s_iload dX12_ranked_119 rfl) ?_
            exact W_r (r := v4_6) (f_int (ty := .int) dX12_ranked_121 rfl rfl)
          · refine W_s (s_icmp_ne_t dX12_ranked_116 rfl h34) ?_
            exact W_wk (hJ32 μ31) (le_s rfl (le_o (le_s rfl (le_s rfl (le_s rfl le_n)))))
theorem ev_X12_ranked {E : gx_E} {l : Launch} (p1 : Int32) (p2 : Int32) (p3 : Int32) (μ : gx_M) {r : Int32} {μ' : gx_M} (hr : f_X12_ranked p1 p2 p3 μ = some (r, μ')) : gEv E l 6 Y_X12_ranked [.ref (E.2.2.1 + 206), .int p1, .int p2, .int p3] gx_G1 μ (gx_eI r) gx_G1 μ' := by
  refine W_ev (by decide) (Nat.le_of_ble_eq_true rfl) (em := gx_eI) (T := f_X12_ranked p1 p2 p3 μ) ?_ hr
  show GoW E l Y_X12_ranked 6 gx_eI 0 (gx_el [.ref (E.2.2.1 + 206), .int p1, .int p2, .int p3]) [] μ (f_X12_ranked p1 p2 p3 μ)
  unfold f_X12_ranked
  refine W_s (s_aload_n dX12_ranked_0 rfl rfl) ?_
  refine W_s (s_iconst dX12_ranked_1 kci_0) ?_
  refine W_s (pf_RX12_100 rfl dX12_ranked_2) ?_
  refine W_letM (fun μ1 => ?_)
  refine W_s (s_aload_n dX12_ranked_5 rfl rfl) ?_
  refine W_s (s_iload_n dX12_ranked_6 rfl rfl) ?_
  refine W_bd (ec := gx_eB) (fun r_ μ_ hr_ => s_callV (As := [.int _]) dX12_ranked_7 Lk_RX12_298 rfl g_206 (by decide) rfl (Nat.le_of_ble_eq_true rfl) (Nat.le_of_ble_eq_true rfl) (ev_X12_hand p1 μ1 hr_)) (fun r2 μ3 => ?_)
  refine W_ite (fun h4 => ?_) (fun h4 => ?_)
  · refine W_s (s_if_eq_f dX12_ranked_10 rfl (gx_bt h4)) ?_
    refine W_s (s_aload_n dX12_ranked_13 rfl rfl) ?_
    refine W_s (s_iload_n dX12_ranked_14 rfl rfl) ?_
    refine W_s (s_callV (As := [.int _]) dX12_ranked_15 Lk_RX12_316 rfl g_206 (by decide) rfl (Nat.le_of_ble_eq_true rfl) (Nat.le_of_ble_eq_true rfl) (ev_X12_isPerson p2 μ3)) ?_
    refine W_ite (fun h5 => ?_) (fun h5 => ?_)
    · refine W_s (s_if_ne_t dX12_ranked_18 rfl (gx_bt h5)) ?_
      refine W_s (s_iconst dX12_ranked_23 kci_0) ?_
      refine W_s (s_istore dX12_ranked_24 (Nat.le_of_ble_eq_true rfl)) ?_
      refine W_wk (okL_X12_ranked_26 ?_ 4000 0 μ3) (le_s rfl (le_o (le_s rfl (le_s rfl (le_s rfl le_n)))))
      intro μ37
      refine W_s (s_iconst dX12_ranked_128 kci_m1) ?_
      exact W_r (r := (-1)) (f_int (ty := .int) dX12_ranked_129 rfl rfl)
    · refine W_s (s_if_ne_f dX12_ranked_18 rfl (gx_bf h5)) ?_
      refine W_s (s_iconst dX12_ranked_21 kci_m1) ?_
      exact W_r (r := (-1)) (f_int (ty := .int) dX12_ranked_22 rfl rfl)
  · refine W_s (s_if_eq_t dX12_ranked_10 rfl (gx_bf h4)) ?_
    refine W_s (s_iconst dX12_ranked_21 kci_m1) ?_
    exact W_r (r := (-1)) (f_int (ty := .int) dX12_ranked_22 rfl rfl)

def L_X12_lines_2 (p1 : Int32) (k3 : Bool → gx_M → Option (Bool × gx_M)) : Nat → Bool → gx_M → Option (Bool × gx_M)
  | 0, _, _ => none
  | n + 1, v2_1, μ2 => if v2_1 = true then if (μ2.1 206 13) = 0 then k3 v2_1 μ2 else gx_lt (μ2.1 206 12) (fun (x6 : Int32) => gx_lt (gx_uI μ2 206 23 (gx_bi true)) (fun (μ7 : gx_M) => gx_lt (fun (j0_10 : Int64) (μ11 : gx_M) => gx_bd (f_X12_lineOf p1 j0_10 x6 μ11) (fun (r12 : Bool) (μ13 : gx_M) => gx_lt (fun (j0_19 : Bool) (μ20 : gx_M) => gx_lt (fun (μ25 : gx_M) => L_X12_lines_2 p1 k3 n j0_19 μ25) (fun J21 => if j0_19 = true then gx_bd (f_X12_token μ20) (fun (r23 : Unit) (μ24 : gx_M) => J21 μ24) else J21 μ20)) (fun J14 => if r12 = true then if (μ13.1 206 13) = 4 then J14 r12 μ13 else gx_bd (f_X12_fails μ13) (fun (r17 : Bool) (μ18 : gx_M) => J14 r17 μ18) else J14 r12 μ13))) (fun J8 => if (μ7.1 206 13) = 2 then J8 (μ7.2 206 15) μ7 else J8 0 μ7))) else k3 v2_1 μ2
def f_X12_lines (p1 : Int32) (μ : gx_M) : Option (Bool × gx_M) := L_X12_lines_2 p1 (fun (x2_28 : Bool) (μ29 : gx_M) => some (x2_28, μ29)) 4000 true μ
theorem okL_X12_lines_2 {E : gx_E} {l : Launch} {p1 : Int32} {k3 : Bool → gx_M → Option (Bool × gx_M)} (hk : ∀ (w26 : Bool) (μ27 : gx_M), GoW E l Y_X12_lines 7 gx_eB 74 [none, none, some (.int (gx_bi w26))] [] μ27 (k3 w26 μ27)) : ∀ (n : Nat) (v2_1 : Bool) (μ2 : gx_M), GoW E l Y_X12_lines 7 gx_eB 2 [some (.ref (E.2.2.1 + 206)), some (.int p1), some (.int (gx_bi v2_1))] [] μ2 (L_X12_lines_2 p1 k3 n v2_1 μ2) := by
  intro n
  induction n with
  | zero => intros; exact W_no
  | succ n ih =>
    intro v2_1 μ2
    rw [L_X12_lines_2.eq_2]
    refine W_s (s_iload_n dX12_lines_2 rfl rfl) ?_
    refine W_ite (fun h4 => ?_) (fun h4 => ?_)
    · refine W_s (s_if_eq_f dX12_lines_3 rfl (gx_bt h4)) ?_
      refine W_s (s_aload_n dX12_lines_6 rfl rfl) ?_
      refine W_s (gf_RX12_137 rfl dX12_lines_7) ?_
      refine W_ite (fun h5 => ?_) (fun h5 => ?_)
      · refine W_s (s_if_eq_t dX12_lines_10 rfl h5) ?_
        exact W_wk (hk v2_1 μ2) (le_o (le_o (le_s rfl le_n)))
      · refine W_s (s_if_eq_f dX12_lines_10 rfl h5) ?_
        refine W_s (s_aload_n dX12_lines_13 rfl rfl) ?_
        refine W_s (gf_RX12_130 rfl dX12_lines_14) ?_
        refine W_letI (fun x6 => ?_)
        refine W_s (s_istore_n dX12_lines_17 rfl (Nat.le_of_ble_eq_true rfl)) ?_
        refine W_s (s_aload_n dX12_lines_18 rfl rfl) ?_
        refine W_s (s_iconst dX12_lines_19 kci_1) ?_
        refine W_s (pf_RX12_160 (b := true) rfl dX12_lines_20) ?_
        refine W_letM (fun μ7 => ?_)
        refine W_s (s_aload_n dX12_lines_23 rfl rfl) ?_
        refine W_s (s_iload_n dX12_lines_24 rfl rfl) ?_
        refine W_s (s_aload_n dX12_lines_25 rfl rfl) ?_
        refine W_s (gf_RX12_137 rfl dX12_lines_26) ?_
        refine W_s (s_iconst dX12_lines_29 kci_2) ?_
        refine W_fun (fun J => ∀ (j0_10 : Int64) (μ11 : gx_M), GoW E l Y_X12_lines 7 gx_eB 41 [some (.ref (E.2.2.1 + 206)), some (.int p1), none, some (.int x6)] [.long j0_10, .int p1, .ref (E.2.2.1 + 206)] μ11 (J j0_10 μ11)) ?_ (fun J8 hJ8 => ?_)
        · intro j0_10 μ11
          refine W_s (s_iload_n dX12_lines_41 rfl rfl) ?_
          refine W_bd (ec := gx_eB) (fun r_ μ_ hr_ => s_callV (As := [.int _, .long _, .int _]) dX12_lines_42 Lk_RX12_252 rfl g_206 (by decide) rfl (Nat.le_of_ble_eq_true rfl) (Nat.le_of_ble_eq_true rfl) (ev_X12_lineOf p1 j0_10 x6 μ11 hr_)) (fun r12 μ13 => ?_)
          refine W_s (s_istore_n dX12_lines_45 rfl (Nat.le_of_ble_eq_true rfl)) ?_
          refine W_s (s_iload_n dX12_lines_46 rfl rfl) ?_
          refine W_fun (fun J => ∀ (j0_19 : Bool) (μ20 : gx_M), GoW E l Y_X12_lines 7 gx_eB 63 [some (.ref (E.2.2.1 + 206)), some (.int p1), some (.int (gx_bi j0_19))] [] μ20 (J j0_19 μ20)) ?_ (fun J14 hJ14 => ?_)
          · intro j0_19 μ20
            refine W_s (s_iload_n dX12_lines_63 rfl rfl) ?_
            refine W_fun (fun J => ∀ (μ25 : gx_M), GoW E l Y_X12_lines 7 gx_eB 71 [some (.ref (E.2.2.1 + 206)), some (.int p1), some (.int (gx_bi j0_19))] [] μ25 (J μ25)) ?_ (fun J21 hJ21 => ?_)
            · intro μ25
              refine W_s (s_goto dX12_lines_71 rfl) ?_
              exact W_wk (ih j0_19 μ25) (le_s rfl (le_s rfl (le_s rfl le_n)))
            · skip
              refine W_ite (fun h22 => ?_) (fun h22 => ?_)
              · refine W_s (s_if_eq_f dX12_lines_64 rfl (gx_bt h22)) ?_
                refine W_s (s_aload_n dX12_lines_67 rfl rfl) ?_
                refine W_bd (ec := gx_eV) (fun r_ μ_ hr_ => s_callV (As := []) dX12_lines_68 Lk_RX12_164 rfl g_206 (by decide) rfl (Nat.le_of_ble_eq_true rfl) (Nat.le_of_ble_eq_true rfl) (ev_X12_token μ20 hr_)) (fun r23 μ24 => ?_)
                exact W_wk (hJ21 μ24) (le_s rfl (le_s rfl (le_s rfl le_n)))
              · refine W_s (s_if_eq_t dX12_lines_64 rfl (gx_bf h22)) ?_
                exact W_wk (hJ21 μ20) (le_s rfl (le_s rfl (le_s rfl le_n)))
          · skip
            refine W_ite (fun h15 => ?_) (fun h15 => ?_)
            · refine W_s (s_if_eq_f dX12_lines_47 rfl (gx_bt h15)) ?_
              refine W_s (s_aload_n dX12_lines_50 rfl rfl) ?_
              refine W_s (gf_RX12_137 rfl dX12_lines_51) ?_
              refine W_s (s_iconst dX12_lines_54 kci_4) ?_
              refine W_ite (fun h16 => ?_) (fun h16 => ?_)
              · refine W_s (s_icmp_eq_t dX12_lines_55 rfl h16) ?_
                exact W_wk (hJ14 r12 μ13) (le_s rfl (le_s rfl (le_s rfl le_n)))
              · refine W_s (s_icmp_eq_f dX12_lines_55 rfl h16) ?_
                refine W_s (s_aload_n dX12_lines_58 rfl rfl) ?_
                refine W_bd (ec := gx_eB) (fun r_ μ_ hr_ => s_callV (As := []) dX12_lines_59 Lk_RX12_152 rfl g_206 (by decide) rfl (Nat.le_of_ble_eq_true rfl) (Nat.le_of_ble_eq_true rfl) (ev_X12_fails μ13 hr_)) (fun r17 μ18 => ?_)
                refine W_s (s_istore_n dX12_lines_62 rfl (Nat.le_of_ble_eq_true rfl)) ?_
                exact W_wk (hJ14 r17 μ18) (le_s rfl (le_s rfl (le_s rfl le_n)))
            · refine W_s (s_if_eq_t dX12_lines_47 rfl (gx_bf h15)) ?_
              exact W_wk (hJ14 r12 μ13) (le_s rfl (le_s rfl (le_s rfl le_n)))
        · skip
          refine W_ite (fun h9 => ?_) (fun h9 => ?_)
          · refine W_s (s_icmp_ne_f dX12_lines_30 rfl h9) ?_
            refine W_s (s_aload_n dX12_lines_33 rfl rfl) ?_
            refine W_s (gf_RX12_133 rfl dX12_lines_34) ?_
            refine W_s (s_goto dX12_lines_37 rfl) ?_
            exact W_wk (hJ8 (μ7.2 206 15) μ7) (le_s rfl (le_s rfl (le_o (le_s rfl le_n))))
          · refine W_s (s_icmp_ne_t dX12_lines_30 rfl h9) ?_
            refine W_s (s_lconst dX12_lines_40 kcl_0) ?_
            exact W_wk (hJ8 0 μ7) (le_s rfl (le_s rfl (le_o (le_s rfl le_n))))
    · refine W_s (s_if_eq_t dX12_lines_3 rfl (gx_bf h4)) ?_
      exact W_wk (hk v2_1 μ2) (le_o (le_o (le_s rfl le_n)))
theorem ev_X12_lines {E : gx_E} {l : Launch} (p1 : Int32) (μ : gx_M) {r : Bool} {μ' : gx_M} (hr : f_X12_lines p1 μ = some (r, μ')) : gEv E l 7 Y_X12_lines [.ref (E.2.2.1 + 206), .int p1] gx_G1 μ (gx_eB r) gx_G1 μ' := by
  refine W_ev (by decide) (Nat.le_of_ble_eq_true rfl) (em := gx_eB) (T := f_X12_lines p1 μ) ?_ hr
  show GoW E l Y_X12_lines 7 gx_eB 0 (gx_el [.ref (E.2.2.1 + 206), .int p1]) [] μ (f_X12_lines p1 μ)
  unfold f_X12_lines
  refine W_s (s_iconst dX12_lines_0 kci_1) ?_
  refine W_s (s_istore_n dX12_lines_1 rfl (Nat.le_of_ble_eq_true rfl)) ?_
  refine W_wk (okL_X12_lines_2 ?_ 4000 true μ) (le_s rfl (le_s rfl (le_s rfl le_n)))
  intro x2_28 μ29
  refine W_s (s_iload_n dX12_lines_74 rfl rfl) ?_
  exact W_r (r := x2_28) (f_int (ty := .boolean) (x := gx_bi x2_28) dX12_lines_75 rfl (gx_bn x2_28))

def f_X12_till (p1 : Int32) (p2 : Int32) (μ : gx_M) : Option (Int32 × gx_M) := gx_lt (gx_uI μ 206 0 0) (fun (μ1 : gx_M) => gx_bd (f_X12_layAll p1 p2 μ1) (fun (r2 : Bool) (μ3 : gx_M) => if r2 = true then gx_br (f_X12_deeds μ3) (fun (r5 : Int32) => gx_bd (f_X12_play r5 μ3) (fun (r6 : Int32) (μ7 : gx_M) => some (r6, μ7))) else some ((-1), μ3)))
theorem ev_X12_till {E : gx_E} {l : Launch} (p1 : Int32) (p2 : Int32) (μ : gx_M) {r : Int32} {μ' : gx_M} (hr : f_X12_till p1 p2 μ = some (r, μ')) : gEv E l 7 Y_X12_till [.ref (E.2.2.1 + 206), .int p1, .int p2] gx_G1 μ (gx_eI r) gx_G1 μ' := by
  refine W_ev (by decide) (Nat.le_of_ble_eq_true rfl) (em := gx_eI) (T := f_X12_till p1 p2 μ) ?_ hr
  show GoW E l Y_X12_till 7 gx_eI 0 (gx_el [.ref (E.2.2.1 + 206), .int p1, .int p2]) [] μ (f_X12_till p1 p2 μ)
  unfold f_X12_till
  refine W_s (s_aload_n dX12_till_0 rfl rfl) ?_
  refine W_s (s_iconst dX12_till_1 kci_0) ?_
  refine W_s (pf_RX12_100 rfl dX12_till_2) ?_
  refine W_letM (fun μ1 => ?_)
  refine W_s (s_aload_n dX12_till_5 rfl rfl) ?_
  refine W_s (s_iload_n dX12_till_6 rfl rfl) ?_
  refine W_s (s_iload_n dX12_till_7 rfl rfl) ?_
  refine W_bd (ec := gx_eB) (fun r_ μ_ hr_ => s_callV (As := [.int _, .int _]) dX12_till_8 Lk_RX12_356 rfl g_206 (by decide) rfl (Nat.le_of_ble_eq_true rfl) (Nat.le_of_ble_eq_true rfl) (ev_X12_layAll p1 p2 μ1 hr_)) (fun r2 μ3 => ?_)
  refine W_ite (fun h4 => ?_) (fun h4 => ?_)
  · refine W_s (s_if_eq_f dX12_till_11 rfl (gx_bt h4)) ?_
    refine W_s (s_aload_n dX12_till_14 rfl rfl) ?_
    refine W_s (s_aload_n dX12_till_15 rfl rfl) ?_
    refine W_br (ec := gx_eI) (fun r_ hr_ => s_callV (As := []) dX12_till_16 Lk_RX12_307 rfl g_206 (by decide) rfl (Nat.le_of_ble_eq_true rfl) (Nat.le_of_ble_eq_true rfl) (ev_X12_deeds μ3 hr_)) (fun r5 => ?_)
    refine W_bd (ec := gx_eI) (fun r_ μ_ hr_ => s_callV (As := [.int _]) dX12_till_19 Lk_RX12_359 rfl g_206 (by decide) rfl (Nat.le_of_ble_eq_true rfl) (Nat.le_of_ble_eq_true rfl) (ev_X12_play r5 μ3 hr_)) (fun r6 μ7 => ?_)
    refine W_s (s_goto dX12_till_22 rfl) ?_
    exact W_r (r := r6) (f_int (ty := .int) dX12_till_26 rfl rfl)
  · refine W_s (s_if_eq_t dX12_till_11 rfl (gx_bf h4)) ?_
    refine W_s (s_iconst dX12_till_25 kci_m1) ?_
    exact W_r (r := (-1)) (f_int (ty := .int) dX12_till_26 rfl rfl)

def f_X12_state (p1 : Int32) (p2 : Int32) (p3 : Int32) (p4 : Int32) (μ : gx_M) : Option (Int32 × gx_M) := gx_lt (gx_uI μ 206 0 0) (fun (μ1 : gx_M) => gx_bd (f_X12_layAll p1 p2 μ1) (fun (r2 : Bool) (μ3 : gx_M) => if r2 = true then gx_br (f_X12_deeds μ3) (fun (r5 : Int32) => if (f_X12_in p3 0 r5) = true then gx_bd (f_X12_play p3 μ3) (fun (r7 : Int32) (μ8 : gx_M) => if r7 = p3 then gx_br (f_X12_ofState p4 μ8) (fun (r10 : Int32) => some (r10, μ8)) else some ((-2), μ8)) else some ((-2), μ3)) else some ((-2), μ3)))
theorem ev_X12_state {E : gx_E} {l : Launch} (p1 : Int32) (p2 : Int32) (p3 : Int32) (p4 : Int32) (μ : gx_M) {r : Int32} {μ' : gx_M} (hr : f_X12_state p1 p2 p3 p4 μ = some (r, μ')) : gEv E l 7 Y_X12_state [.ref (E.2.2.1 + 206), .int p1, .int p2, .int p3, .int p4] gx_G1 μ (gx_eI r) gx_G1 μ' := by
  refine W_ev (by decide) (Nat.le_of_ble_eq_true rfl) (em := gx_eI) (T := f_X12_state p1 p2 p3 p4 μ) ?_ hr
  show GoW E l Y_X12_state 7 gx_eI 0 (gx_el [.ref (E.2.2.1 + 206), .int p1, .int p2, .int p3, .int p4]) [] μ (f_X12_state p1 p2 p3 p4 μ)
  unfold f_X12_state
  refine W_s (s_aload_n dX12_state_0 rfl rfl) ?_
  refine W_s (s_iconst dX12_state_1 kci_0) ?_
  refine W_s (pf_RX12_100 rfl dX12_state_2) ?_
  refine W_letM (fun μ1 => ?_)
  refine W_s (s_aload_n dX12_state_5 rfl rfl) ?_
  refine W_s (s_iload_n dX12_state_6 rfl rfl) ?_
  refine W_s (s_iload_n dX12_state_7 rfl rfl) ?_
  refine W_bd (ec := gx_eB) (fun r_ μ_ hr_ => s_callV (As := [.int _, .int _]) dX12_state_8 Lk_RX12_356 rfl g_206 (by decide) rfl (Nat.le_of_ble_eq_true rfl) (Nat.le_of_ble_eq_true rfl) (ev_X12_layAll p1 p2 μ1 hr_)) (fun r2 μ3 => ?_)
  refine W_ite (fun h4 => ?_) (fun h4 => ?_)
  · refine W_s (s_if_eq_f dX12_state_11 rfl (gx_bt h4)) ?_
    refine W_s (s_iload_n dX12_state_14 rfl rfl) ?_
    refine W_s (s_iconst dX12_state_15 kci_0) ?_
    refine W_s (s_aload_n dX12_state_16 rfl rfl) ?_
    refine W_br (ec := gx_eI) (fun r_ hr_ => s_callV (As := []) dX12_state_17 Lk_RX12_307 rfl g_206 (by decide) rfl (Nat.le_of_ble_eq_true rfl) (Nat.le_of_ble_eq_true rfl) (ev_X12_deeds μ3 hr_)) (fun r5 => ?_)
    refine W_s (s_callS (As := [.int _, .int _, .int _]) dX12_state_20 Lk_RX12_112 rfl (Nat.le_of_ble_eq_true rfl) (Nat.le_of_ble_eq_true rfl) (ev_X12_in p3 0 r5 μ3)) ?_
    refine W_ite (fun h6 => ?_) (fun h6 => ?_)
    · refine W_s (s_if_eq_f dX12_state_23 rfl (gx_bt h6)) ?_
      refine W_s (s_aload_n dX12_state_26 rfl rfl) ?_
      refine W_s (s_iload_n dX12_state_27 rfl rfl) ?_
      refine W_bd (ec := gx_eI) (fun r_ μ_ hr_ => s_callV (As := [.int _]) dX12_state_28 Lk_RX12_359 rfl g_206 (by decide) rfl (Nat.le_of_ble_eq_true rfl) (Nat.le_of_ble_eq_true rfl) (ev_X12_play p3 μ3 hr_)) (fun r7 μ8 => ?_)
      refine W_s (s_iload_n dX12_state_31 rfl rfl) ?_
      refine W_ite (fun h9 => ?_) (fun h9 => ?_)
      · refine W_s (s_icmp_ne_f dX12_state_32 rfl h9) ?_
        refine W_s (s_aload_n dX12_state_35 rfl rfl) ?_
        refine W_s (s_iload dX12_state_36 rfl) ?_
        refine W_br (ec := gx_eI) (fun r_ hr_ => s_callV (As := [.int _]) dX12_state_38 Lk_RX12_368 rfl g_206 (by decide) rfl (Nat.le_of_ble_eq_true rfl) (Nat.le_of_ble_eq_true rfl) (ev_X12_ofState p4 μ8 hr_)) (fun r10 => ?_)
        refine W_s (s_goto dX12_state_41 rfl) ?_
        exact W_r (r := r10) (f_int (ty := .int) dX12_state_46 rfl rfl)
      · refine W_s (s_icmp_ne_t dX12_state_32 rfl h9) ?_
        refine W_s (s_bipush dX12_state_44 kcb_m2) ?_
        exact W_r (r := (-2)) (f_int (ty := .int) dX12_state_46 rfl rfl)
    · refine W_s (s_if_eq_t dX12_state_23 rfl (gx_bf h6)) ?_
      refine W_s (s_bipush dX12_state_44 kcb_m2) ?_
      exact W_r (r := (-2)) (f_int (ty := .int) dX12_state_46 rfl rfl)
  · refine W_s (s_if_eq_t dX12_state_11 rfl (gx_bf h4)) ?_
    refine W_s (s_bipush dX12_state_44 kcb_m2) ?_
    exact W_r (r := (-2)) (f_int (ty := .int) dX12_state_46 rfl rfl)

def f_X12_errands (p1 : Int32) (p2 : Int32) (p3 : Int32) (p4 : Int32) (μ : gx_M) : Option (Int32 × gx_M) := gx_lt (gx_uI μ 206 0 0) (fun (μ1 : gx_M) => gx_bd (f_X12_hand p1 μ1) (fun (r2 : Bool) (μ3 : gx_M) => if r2 = true then if (f_X12_isPerson p2 μ3) = true then if (f_X12_isSet p3 μ3) = true then if (f_X12_in p4 (-1) ((μ3.1 206 27) - 1)) = true then gx_bd (f_X12_costOf p2 p3 μ3) (fun (r8 : Int32) (μ9 : gx_M) => if r8 < 1000000 then if p4 = (-1) then some (r8, μ9) else gx_bd (f_X12_beginOf p2 p3 p4 μ9) (fun (r12 : Int32) (μ13 : gx_M) => some (r12, μ13)) else some ((-1), μ9)) else some ((-1), μ3) else some ((-1), μ3) else some ((-1), μ3) else some ((-1), μ3)))
theorem ev_X12_errands {E : gx_E} {l : Launch} (p1 : Int32) (p2 : Int32) (p3 : Int32) (p4 : Int32) (μ : gx_M) {r : Int32} {μ' : gx_M} (hr : f_X12_errands p1 p2 p3 p4 μ = some (r, μ')) : gEv E l 7 Y_X12_errands [.ref (E.2.2.1 + 206), .int p1, .int p2, .int p3, .int p4] gx_G1 μ (gx_eI r) gx_G1 μ' := by
  refine W_ev (by decide) (Nat.le_of_ble_eq_true rfl) (em := gx_eI) (T := f_X12_errands p1 p2 p3 p4 μ) ?_ hr
  show GoW E l Y_X12_errands 7 gx_eI 0 (gx_el [.ref (E.2.2.1 + 206), .int p1, .int p2, .int p3, .int p4]) [] μ (f_X12_errands p1 p2 p3 p4 μ)
  unfold f_X12_errands
  refine W_s (s_aload_n dX12_errands_0 rfl rfl) ?_
  refine W_s (s_iconst dX12_errands_1 kci_0) ?_
  refine W_s (pf_RX12_100 rfl dX12_errands_2) ?_
  refine W_letM (fun μ1 => ?_)
  refine W_s (s_aload_n dX12_errands_5 rfl rfl) ?_
  refine W_s (s_iload_n dX12_errands_6 rfl rfl) ?_
  refine W_bd (ec := gx_eB) (fun r_ μ_ hr_ => s_callV (As := [.int _]) dX12_errands_7 Lk_RX12_298 rfl g_206 (by decide) rfl (Nat.le_of_ble_eq_true rfl) (Nat.le_of_ble_eq_true rfl) (ev_X12_hand p1 μ1 hr_)) (fun r2 μ3 => ?_)
  refine W_ite (fun h4 => ?_) (fun h4 => ?_)
  · refine W_s (s_if_eq_f dX12_errands_10 rfl (gx_bt h4)) ?_
    refine W_s (s_aload_n dX12_errands_13 rfl rfl) ?_
    refine W_s (s_iload_n dX12_errands_14 rfl rfl) ?_
    refine W_s (s_callV (As := [.int _]) dX12_errands_15 Lk_RX12_316 rfl g_206 (by decide) rfl (Nat.le_of_ble_eq_true rfl) (Nat.le_of_ble_eq_true rfl) (ev_X12_isPerson p2 μ3)) ?_
    refine W_ite (fun h5 => ?_) (fun h5 => ?_)
    · refine W_s (s_if_eq_f dX12_errands_18 rfl (gx_bt h5)) ?_
      refine W_s (s_aload_n dX12_errands_21 rfl rfl) ?_
      refine W_s (s_iload_n dX12_errands_22 rfl rfl) ?_
      refine W_s (s_callV (As := [.int _]) dX12_errands_23 Lk_RX12_391 rfl g_206 (by decide) rfl (Nat.le_of_ble_eq_true rfl) (Nat.le_of_ble_eq_true rfl) (ev_X12_isSet p3 μ3)) ?_
      refine W_ite (fun h6 => ?_) (fun h6 => ?_)
      · refine W_s (s_if_eq_f dX12_errands_26 rfl (gx_bt h6)) ?_
        refine W_s (s_iload dX12_errands_29 rfl) ?_
        refine W_s (s_iconst dX12_errands_31 kci_m1) ?_
        refine W_s (s_aload_n dX12_errands_32 rfl rfl) ?_
        refine W_s (gf_RX12_289 rfl dX12_errands_33) ?_
        refine W_s (s_iconst dX12_errands_36 kci_1) ?_
        refine W_s (s_isub dX12_errands_37) ?_
        refine W_s (s_callS (As := [.int _, .int _, .int _]) dX12_errands_38 Lk_RX12_112 rfl (Nat.le_of_ble_eq_true rfl) (Nat.le_of_ble_eq_true rfl) (ev_X12_in p4 (-1) ((μ3.1 206 27) - 1) μ3)) ?_
        refine W_ite (fun h7 => ?_) (fun h7 => ?_)
        · refine W_s (s_if_ne_t dX12_errands_41 rfl (gx_bt h7)) ?_
          refine W_s (s_aload_n dX12_errands_46 rfl rfl) ?_
          refine W_s (s_iload_n dX12_errands_47 rfl rfl) ?_
          refine W_s (s_iload_n dX12_errands_48 rfl rfl) ?_
          refine W_bd (ec := gx_eI) (fun r_ μ_ hr_ => s_callV (As := [.int _, .int _]) dX12_errands_49 Lk_RX12_388 rfl g_206 (by decide) rfl (Nat.le_of_ble_eq_true rfl) (Nat.le_of_ble_eq_true rfl) (ev_X12_costOf p2 p3 μ3 hr_)) (fun r8 μ9 => ?_)
          refine W_s (s_istore dX12_errands_52 (Nat.le_of_ble_eq_true rfl)) ?_
          refine W_s (s_iload dX12_errands_54 rfl) ?_
          refine W_s (s_ldcw dX12_errands_56 kw_RX12_371) ?_
          refine W_ite (fun h10 => ?_) (fun h10 => ?_)
          · refine W_s (s_icmp_lt_t dX12_errands_59 rfl h10) ?_
            refine W_s (s_iload dX12_errands_66 rfl) ?_
            refine W_s (s_iconst dX12_errands_68 kci_m1) ?_
            refine W_ite (fun h11 => ?_) (fun h11 => ?_)
            · refine W_s (s_icmp_ne_f dX12_errands_69 rfl h11) ?_
              refine W_s (s_iload dX12_errands_72 rfl) ?_
              refine W_s (s_goto dX12_errands_74 rfl) ?_
              exact W_r (r := r8) (f_int (ty := .int) dX12_errands_85 rfl rfl)
            · refine W_s (s_icmp_ne_t dX12_errands_69 rfl h11) ?_
              refine W_s (s_aload_n dX12_errands_77 rfl rfl) ?_
              refine W_s (s_iload_n dX12_errands_78 rfl rfl) ?_
              refine W_s (s_iload_n dX12_errands_79 rfl rfl) ?_
              refine W_s (s_iload dX12_errands_80 rfl) ?_
              refine W_bd (ec := gx_eI) (fun r_ μ_ hr_ => s_callV (As := [.int _, .int _, .int _]) dX12_errands_82 Lk_RX12_394 rfl g_206 (by decide) rfl (Nat.le_of_ble_eq_true rfl) (Nat.le_of_ble_eq_true rfl) (ev_X12_beginOf p2 p3 p4 μ9 hr_)) (fun r12 μ13 => ?_)
              exact W_r (r := r12) (f_int (ty := .int) dX12_errands_85 rfl rfl)
          · refine W_s (s_icmp_lt_f dX12_errands_59 rfl h10) ?_
            refine W_s (s_iconst dX12_errands_62 kci_m1) ?_
            refine W_s (s_goto dX12_errands_63 rfl) ?_
            exact W_r (r := (-1)) (f_int (ty := .int) dX12_errands_85 rfl rfl)
        · refine W_s (s_if_ne_f dX12_errands_41 rfl (gx_bf h7)) ?_
          refine W_s (s_iconst dX12_errands_44 kci_m1) ?_
          exact W_r (r := (-1)) (f_int (ty := .int) dX12_errands_45 rfl rfl)
      · refine W_s (s_if_eq_t dX12_errands_26 rfl (gx_bf h6)) ?_
        refine W_s (s_iconst dX12_errands_44 kci_m1) ?_
        exact W_r (r := (-1)) (f_int (ty := .int) dX12_errands_45 rfl rfl)
    · refine W_s (s_if_eq_t dX12_errands_18 rfl (gx_bf h5)) ?_
      refine W_s (s_iconst dX12_errands_44 kci_m1) ?_
      exact W_r (r := (-1)) (f_int (ty := .int) dX12_errands_45 rfl rfl)
  · refine W_s (s_if_eq_t dX12_errands_10 rfl (gx_bf h4)) ?_
    refine W_s (s_iconst dX12_errands_44 kci_m1) ?_
    exact W_r (r := (-1)) (f_int (ty := .int) dX12_errands_45 rfl rfl)

def f_X12_after (p1 : Int32) (p2 : Int32) (p3 : Int32) (μ : gx_M) : Option (Int32 × gx_M) := gx_lt (gx_uI μ 206 0 0) (fun (μ1 : gx_M) => gx_bd (f_X12_layAll p1 p2 μ1) (fun (r2 : Bool) (μ3 : gx_M) => if r2 = true then if (f_X12_in p3 0 4) = true then gx_br (f_X12_deeds μ3) (fun (r6 : Int32) => gx_bd (f_X12_play r6 μ3) (fun (r7 : Int32) (μ8 : gx_M) => gx_br (f_X12_restless μ8) (fun (r9 : Int32) => if p3 = 0 then some ((μ8.1 206 34), μ8) else if p3 = 1 then gx_br (f_X12_richest μ8) (fun (r12 : Int32) => some (r12, μ8)) else if p3 = 2 then gx_br (f_X12_victim μ8) (fun (r14 : Int32) => some (r14, μ8)) else if p3 = 3 then some (r9, μ8) else if r9 = (-1) then some (0, μ8) else gx_ck (gx_ix r9 40 = true) (some ((μ8.1 224 r9.toNatClampNeg), μ8))))) else some ((-2), μ3) else some ((-2), μ3)))
theorem ev_X12_after {E : gx_E} {l : Launch} (p1 : Int32) (p2 : Int32) (p3 : Int32) (μ : gx_M) {r : Int32} {μ' : gx_M} (hr : f_X12_after p1 p2 p3 μ = some (r, μ')) : gEv E l 7 Y_X12_after [.ref (E.2.2.1 + 206), .int p1, .int p2, .int p3] gx_G1 μ (gx_eI r) gx_G1 μ' := by
  refine W_ev (by decide) (Nat.le_of_ble_eq_true rfl) (em := gx_eI) (T := f_X12_after p1 p2 p3 μ) ?_ hr
  show GoW E l Y_X12_after 7 gx_eI 0 (gx_el [.ref (E.2.2.1 + 206), .int p1, .int p2, .int p3]) [] μ (f_X12_after p1 p2 p3 μ)
  unfold f_X12_after
  refine W_s (s_aload_n dX12_after_0 rfl rfl) ?_
  refine W_s (s_iconst dX12_after_1 kci_0) ?_
  refine W_s (pf_RX12_100 rfl dX12_after_2) ?_
  refine W_letM (fun μ1 => ?_)
  refine W_s (s_aload_n dX12_after_5 rfl rfl) ?_
  refine W_s (s_iload_n dX12_after_6 rfl rfl) ?_
  refine W_s (s_iload_n dX12_after_7 rfl rfl) ?_
  refine W_bd (ec := gx_eB) (fun r_ μ_ hr_ => s_callV (As := [.int _, .int _]) dX12_after_8 Lk_RX12_356 rfl g_206 (by decide) rfl (Nat.le_of_ble_eq_true rfl) (Nat.le_of_ble_eq_true rfl) (ev_X12_layAll p1 p2 μ1 hr_)) (fun r2 μ3 => ?_)
  refine W_ite (fun h4 => ?_) (fun h4 => ?_)
  · refine W_s (s_if_eq_f dX12_after_11 rfl (gx_bt h4)) ?_
    refine W_s (s_iload_n dX12_after_14 rfl rfl) ?_
    refine W_s (s_iconst dX12_after_15 kci_0) ?_
    refine W_s (s_iconst dX12_after_16 kci_4) ?_
    refine W_s (s_callS (As := [.int _, .int _, .int _]) dX12_after_17 Lk_RX12_112 rfl (Nat.le_of_ble_eq_true rfl) (Nat.le_of_ble_eq_true rfl) (ev_X12_in p3 0 4 μ3)) ?_
    refine W_ite (fun h5 => ?_) (fun h5 => ?_)
    · refine W_s (s_if_ne_t dX12_after_20 rfl (gx_bt h5)) ?_
      refine W_s (s_aload_n dX12_after_26 rfl rfl) ?_
      refine W_s (s_aload_n dX12_after_27 rfl rfl) ?_
      refine W_br (ec := gx_eI) (fun r_ hr_ => s_callV (As := []) dX12_after_28 Lk_RX12_307 rfl g_206 (by decide) rfl (Nat.le_of_ble_eq_true rfl) (Nat.le_of_ble_eq_true rfl) (ev_X12_deeds μ3 hr_)) (fun r6 => ?_)
      refine W_bd (ec := gx_eI) (fun r_ μ_ hr_ => s_callV (As := [.int _]) dX12_after_31 Lk_RX12_359 rfl g_206 (by decide) rfl (Nat.le_of_ble_eq_true rfl) (Nat.le_of_ble_eq_true rfl) (ev_X12_play r6 μ3 hr_)) (fun r7 μ8 => ?_)
      refine W_s (s_pop dX12_after_34 rfl) ?_
      refine W_s (s_aload_n dX12_after_35 rfl rfl) ?_
      refine W_br (ec := gx_eI) (fun r_ hr_ => s_callV (As := []) dX12_after_36 Lk_RX12_535 rfl g_206 (by decide) rfl (Nat.le_of_ble_eq_true rfl) (Nat.le_of_ble_eq_true rfl) (ev_X12_restless μ8 hr_)) (fun r9 => ?_)
      refine W_s (s_istore dX12_after_39 (Nat.le_of_ble_eq_true rfl)) ?_
      refine W_s (s_iload_n dX12_after_41 rfl rfl) ?_
      refine W_ite (fun h10 => ?_) (fun h10 => ?_)
      · refine W_s (s_tsw_eq (c := 0) dX12_after_42 h10 (by decide) (by decide) rfl rfl) ?_
        refine W_s (s_aload_n dX12_after_72 rfl rfl) ?_
        refine W_s (gf_RX12_313 rfl dX12_after_73) ?_
        exact W_r (r := (μ8.1 206 34)) (f_int (ty := .int) dX12_after_76 rfl rfl)
      · skip
        refine W_ite (fun h11 => ?_) (fun h11 => ?_)
        · refine W_s (s_tsw_eq (c := 1) dX12_after_42 h11 (by decide) (by decide) rfl rfl) ?_
          refine W_s (s_aload_n dX12_after_77 rfl rfl) ?_
          refine W_br (ec := gx_eI) (fun r_ hr_ => s_callV (As := []) dX12_after_78 Lk_RX12_538 rfl g_206 (by decide) rfl (Nat.le_of_ble_eq_true rfl) (Nat.le_of_ble_eq_true rfl) (ev_X12_richest μ8 hr_)) (fun r12 => ?_)
          exact W_r (r := r12) (f_int (ty := .int) dX12_after_81 rfl rfl)
        · skip
          refine W_ite (fun h13 => ?_) (fun h13 => ?_)
          · refine W_s (s_tsw_eq (c := 2) dX12_after_42 h13 (by decide) (by decide) rfl rfl) ?_
            refine W_s (s_aload_n dX12_after_82 rfl rfl) ?_
            refine W_br (ec := gx_eI) (fun r_ hr_ => s_callV (As := []) dX12_after_83 Lk_RX12_541 rfl g_206 (by decide) rfl (Nat.le_of_ble_eq_true rfl) (Nat.le_of_ble_eq_true rfl) (ev_X12_victim μ8 hr_)) (fun r14 => ?_)
            exact W_r (r := r14) (f_int (ty := .int) dX12_after_86 rfl rfl)
          · skip
            refine W_ite (fun h15 => ?_) (fun h15 => ?_)
            · refine W_s (s_tsw_eq (c := 3) dX12_after_42 h15 (by decide) (by decide) rfl rfl) ?_
              refine W_s (s_iload dX12_after_87 rfl) ?_
              exact W_r (r := r9) (f_int (ty := .int) dX12_after_89 rfl rfl)
            · skip
              refine W_s (s_tsw_out dX12_after_42 (gx_out_0_4 h10 h11 h13 h15) rfl) ?_
              refine W_s (s_iload dX12_after_90 rfl) ?_
              refine W_s (s_iconst dX12_after_92 kci_m1) ?_
              refine W_ite (fun h16 => ?_) (fun h16 => ?_)
              · refine W_s (s_icmp_ne_f dX12_after_93 rfl h16) ?_
                refine W_s (s_iconst dX12_after_96 kci_0) ?_
                refine W_s (s_goto dX12_after_97 rfl) ?_
                exact W_r (r := 0) (f_int (ty := .int) dX12_after_107 rfl rfl)
              · refine W_s (s_icmp_ne_t dX12_after_93 rfl h16) ?_
                refine W_s (s_aload_n dX12_after_100 rfl rfl) ?_
                refine W_s (gf_RX12_63 rfl dX12_after_101) ?_
                refine W_s (s_iload dX12_after_104 rfl) ?_
                refine W_ck (fun h17 => ?_)
                refine W_s (s_iald dX12_after_106 g_224 (gx_ixv h17)) ?_
                exact W_r (r := (μ8.1 224 r9.toNatClampNeg)) (f_int (ty := .int) dX12_after_107 rfl rfl)
    · refine W_s (s_if_ne_f dX12_after_20 rfl (gx_bf h5)) ?_
      refine W_s (s_bipush dX12_after_23 kcb_m2) ?_
      exact W_r (r := (-2)) (f_int (ty := .int) dX12_after_25 rfl rfl)
  · refine W_s (s_if_eq_t dX12_after_11 rfl (gx_bf h4)) ?_
    refine W_s (s_bipush dX12_after_23 kcb_m2) ?_
    exact W_r (r := (-2)) (f_int (ty := .int) dX12_after_25 rfl rfl)

def f_X12_readText (p1 : Int32) (μ : gx_M) : Option (Bool × gx_M) := gx_bd (f_X12_blank p1 μ) (fun (r1 : Unit) (μ2 : gx_M) => gx_lt (gx_uI μ2 206 21 (-1)) (fun (μ3 : gx_M) => gx_lt (gx_uI μ3 206 22 (-1)) (fun (μ4 : gx_M) => gx_lt (gx_uI μ4 206 10 0) (fun (μ5 : gx_M) => gx_lt (gx_uI μ5 206 17 0) (fun (μ6 : gx_M) => gx_bd (f_X12_token μ6) (fun (r7 : Unit) (μ8 : gx_M) => gx_bd (f_X12_lines p1 μ8) (fun (r9 : Bool) (μ10 : gx_M) => gx_lt (fun (j0_21 : Bool) (μ22 : gx_M) => gx_lt (fun (μ29 : gx_M) => gx_lt (fun (j0_32 : Int32) (μ33 : gx_M) => gx_lt (gx_uI μ33 209 0 j0_32) (fun (μ34 : gx_M) => gx_lt (fun (j0_38 : Int32) (μ39 : gx_M) => gx_lt (gx_uI μ39 210 0 j0_38) (fun (μ40 : gx_M) => if (μ40.1 209 0) = 0 then some (true, μ40) else some (false, μ40))) (fun J35 => if r9 = true then if (μ34.1 206 17) ≤ 0 then J35 (-1) μ34 else J35 (μ34.1 206 18) μ34 else J35 (μ34.1 206 16) μ34))) (fun J30 => if r9 = true then J30 (μ29.1 206 17) μ29 else J30 1 μ29)) (fun J23 => if r9 = true then if (μ22.1 206 17) = 0 then if j0_21 = true then gx_bd (f_X12_later 4 (μ22.1 206 12) μ22) (fun (r27 : Unit) (μ28 : gx_M) => J23 μ28) else J23 μ22 else J23 μ22 else J23 μ22)) (fun J11 => if p1 = 0 then gx_lt (fun (μ20 : gx_M) => J11 true μ20) (fun J17 => if (μ10.1 216 0) ≤ (μ10.1 206 21) then J17 μ10 else if (μ10.1 206 22) < (μ10.1 216 1) then J11 false μ10 else J17 μ10) else gx_lt (fun (μ16 : gx_M) => J11 false μ16) (fun J13 => if p1 = 3 then if (μ10.1 206 22) < (μ10.1 216 0) then J13 μ10 else J11 true μ10 else J13 μ10)))))))))
theorem ev_X12_readText {E : gx_E} {l : Launch} (p1 : Int32) (μ : gx_M) {r : Bool} {μ' : gx_M} (hr : f_X12_readText p1 μ = some (r, μ')) : gEv E l 8 Y_X12_readText [.ref (E.2.2.1 + 206), .int p1] gx_G1 μ (gx_eB r) gx_G1 μ' := by
  refine W_ev (by decide) (Nat.le_of_ble_eq_true rfl) (em := gx_eB) (T := f_X12_readText p1 μ) ?_ hr
  show GoW E l Y_X12_readText 8 gx_eB 0 (gx_el [.ref (E.2.2.1 + 206), .int p1]) [] μ (f_X12_readText p1 μ)
  unfold f_X12_readText
  refine W_s (s_aload_n dX12_readText_0 rfl rfl) ?_
  refine W_s (s_iload_n dX12_readText_1 rfl rfl) ?_
  refine W_bd (ec := gx_eV) (fun r_ μ_ hr_ => s_callV (As := [.int _]) dX12_readText_2 Lk_RX12_256 rfl g_206 (by decide) rfl (Nat.le_of_ble_eq_true rfl) (Nat.le_of_ble_eq_true rfl) (ev_X12_blank p1 μ hr_)) (fun r1 μ2 => ?_)
  refine W_s (s_aload_n dX12_readText_5 rfl rfl) ?_
  refine W_s (s_iconst dX12_readText_6 kci_m1) ?_
  refine W_s (pf_RX12_170 rfl dX12_readText_7) ?_
  refine W_letM (fun μ3 => ?_)
  refine W_s (s_aload_n dX12_readText_10 rfl rfl) ?_
  refine W_s (s_iconst dX12_readText_11 kci_m1) ?_
  refine W_s (pf_RX12_177 rfl dX12_readText_12) ?_
  refine W_letM (fun μ4 => ?_)
  refine W_s (s_aload_n dX12_readText_15 rfl rfl) ?_
  refine W_s (s_iconst dX12_readText_16 kci_0) ?_
  refine W_s (pf_RX12_120 rfl dX12_readText_17) ?_
  refine W_letM (fun μ5 => ?_)
  refine W_s (s_aload_n dX12_readText_20 rfl rfl) ?_
  refine W_s (s_iconst dX12_readText_21 kci_0) ?_
  refine W_s (pf_RX12_146 rfl dX12_readText_22) ?_
  refine W_letM (fun μ6 => ?_)
  refine W_s (s_aload_n dX12_readText_25 rfl rfl) ?_
  refine W_bd (ec := gx_eV) (fun r_ μ_ hr_ => s_callV (As := []) dX12_readText_26 Lk_RX12_164 rfl g_206 (by decide) rfl (Nat.le_of_ble_eq_true rfl) (Nat.le_of_ble_eq_true rfl) (ev_X12_token μ6 hr_)) (fun r7 μ8 => ?_)
  refine W_s (s_aload_n dX12_readText_29 rfl rfl) ?_
  refine W_s (s_iload_n dX12_readText_30 rfl rfl) ?_
  refine W_bd (ec := gx_eB) (fun r_ μ_ hr_ => s_callV (As := [.int _]) dX12_readText_31 Lk_RX12_259 rfl g_206 (by decide) rfl (Nat.le_of_ble_eq_true rfl) (Nat.le_of_ble_eq_true rfl) (ev_X12_lines p1 μ8 hr_)) (fun r9 μ10 => ?_)
  refine W_s (s_istore_n dX12_readText_34 rfl (Nat.le_of_ble_eq_true rfl)) ?_
  refine W_s (s_iload_n dX12_readText_35 rfl rfl) ?_
  refine W_fun (fun J => ∀ (j0_21 : Bool) (μ22 : gx_M), GoW E l Y_X12_readText 8 gx_eB 96 [some (.ref (E.2.2.1 + 206)), none, some (.int (gx_bi r9))] [.int (gx_bi j0_21)] μ22 (J j0_21 μ22)) ?_ (fun J11 hJ11 => ?_)
  · intro j0_21 μ22
    refine W_s (s_istore_n dX12_readText_96 rfl (Nat.le_of_ble_eq_true rfl)) ?_
    refine W_s (s_iload_n dX12_readText_97 rfl rfl) ?_
    refine W_fun (fun J => ∀ (μ29 : gx_M), GoW E l Y_X12_readText 8 gx_eB 121 [some (.ref (E.2.2.1 + 206)), none, some (.int (gx_bi r9))] [] μ29 (J μ29)) ?_ (fun J23 hJ23 => ?_)
    · intro μ29
      refine W_s (s_aload_n dX12_readText_121 rfl rfl) ?_
      refine W_s (gf_RX12_17 rfl dX12_readText_122) ?_
      refine W_s (s_iconst dX12_readText_125 kci_0) ?_
      refine W_s (s_iload_n dX12_readText_126 rfl rfl) ?_
      refine W_fun (fun J => ∀ (j0_32 : Int32) (μ33 : gx_M), GoW E l Y_X12_readText 8 gx_eB 138 [some (.ref (E.2.2.1 + 206)), none, some (.int (gx_bi r9))] [.int j0_32, .int 0, .ref (E.2.2.1 + 209)] μ33 (J j0_32 μ33)) ?_ (fun J30 hJ30 => ?_)
      · intro j0_32 μ33
        refine W_s (s_iastL (k := 0) dX12_readText_138 g_209 (gx_inl (by decide)) (by decide)) ?_
        refine W_letM (fun μ34 => ?_)
        refine W_s (s_aload_n dX12_readText_139 rfl rfl) ?_
        refine W_s (gf_RX12_20 rfl dX12_readText_140) ?_
        refine W_s (s_iconst dX12_readText_143 kci_0) ?_
        refine W_s (s_iload_n dX12_readText_144 rfl rfl) ?_
        refine W_fun (fun J => ∀ (j0_38 : Int32) (μ39 : gx_M), GoW E l Y_X12_readText 8 gx_eB 170 [some (.ref (E.2.2.1 + 206))] [.int j0_38, .int 0, .ref (E.2.2.1 + 210)] μ39 (J j0_38 μ39)) ?_ (fun J35 hJ35 => ?_)
        · intro j0_38 μ39
          refine W_s (s_iastL (k := 0) dX12_readText_170 g_210 (gx_inl (by decide)) (by decide)) ?_
          refine W_letM (fun μ40 => ?_)
          refine W_s (s_aload_n dX12_readText_171 rfl rfl) ?_
          refine W_s (gf_RX12_17 rfl dX12_readText_172) ?_
          refine W_s (s_iconst dX12_readText_175 kci_0) ?_
          refine W_s (s_ialdL (k := 0) dX12_readText_176 g_209 (gx_inl (by decide)) (by decide)) ?_
          refine W_ite (fun h41 => ?_) (fun h41 => ?_)
          · refine W_s (s_if_ne_f dX12_readText_177 rfl h41) ?_
            refine W_s (s_iconst dX12_readText_180 kci_1) ?_
            refine W_s (s_goto dX12_readText_181 rfl) ?_
            exact W_r (r := true) (f_int (ty := .boolean) (x := gx_bi true) dX12_readText_185 rfl (gx_bn true))
          · refine W_s (s_if_ne_t dX12_readText_177 rfl h41) ?_
            refine W_s (s_iconst dX12_readText_184 kci_0) ?_
            exact W_r (r := false) (f_int (ty := .boolean) (x := gx_bi false) dX12_readText_185 rfl (gx_bn false))
        · skip
          refine W_ite (fun h36 => ?_) (fun h36 => ?_)
          · refine W_s (s_if_ne_t dX12_readText_145 rfl (gx_bt h36)) ?_
            refine W_s (s_aload_n dX12_readText_155 rfl rfl) ?_
            refine W_s (gf_RX12_146 rfl dX12_readText_156) ?_
            refine W_ite (fun h37 => ?_) (fun h37 => ?_)
            · refine W_s (s_if_le_t dX12_readText_159 rfl h37) ?_
              refine W_s (s_iconst dX12_readText_169 kci_m1) ?_
              exact W_wk (hJ35 (-1) μ34) (le_s rfl le_n)
            · refine W_s (s_if_le_f dX12_readText_159 rfl h37) ?_
              refine W_s (s_aload_n dX12_readText_162 rfl rfl) ?_
              refine W_s (gf_RX12_149 rfl dX12_readText_163) ?_
              refine W_s (s_goto dX12_readText_166 rfl) ?_
              exact W_wk (hJ35 (μ34.1 206 18) μ34) (le_s rfl le_n)
          · refine W_s (s_if_ne_f dX12_readText_145 rfl (gx_bf h36)) ?_
            refine W_s (s_aload_n dX12_readText_148 rfl rfl) ?_
            refine W_s (gf_RX12_143 rfl dX12_readText_149) ?_
            refine W_s (s_goto dX12_readText_152 rfl) ?_
            exact W_wk (hJ35 (μ34.1 206 16) μ34) (le_s rfl le_n)
      · skip
        refine W_ite (fun h31 => ?_) (fun h31 => ?_)
        · refine W_s (s_if_eq_f dX12_readText_127 rfl (gx_bt h31)) ?_
          refine W_s (s_aload_n dX12_readText_130 rfl rfl) ?_
          refine W_s (gf_RX12_146 rfl dX12_readText_131) ?_
          refine W_s (s_goto dX12_readText_134 rfl) ?_
          exact W_wk (hJ30 (μ29.1 206 17) μ29) (le_s rfl (le_o (le_s rfl le_n)))
        · refine W_s (s_if_eq_t dX12_readText_127 rfl (gx_bf h31)) ?_
          refine W_s (s_iconst dX12_readText_137 kci_1) ?_
          exact W_wk (hJ30 1 μ29) (le_s rfl (le_o (le_s rfl le_n)))
    · skip
      refine W_ite (fun h24 => ?_) (fun h24 => ?_)
      · refine W_s (s_if_eq_f dX12_readText_98 rfl (gx_bt h24)) ?_
        refine W_s (s_aload_n dX12_readText_101 rfl rfl) ?_
        refine W_s (gf_RX12_146 rfl dX12_readText_102) ?_
        refine W_ite (fun h25 => ?_) (fun h25 => ?_)
        · refine W_s (s_if_ne_f dX12_readText_105 rfl h25) ?_
          refine W_s (s_iload_n dX12_readText_108 rfl rfl) ?_
          refine W_ite (fun h26 => ?_) (fun h26 => ?_)
          · refine W_s (s_if_eq_f dX12_readText_109 rfl (gx_bt h26)) ?_
            refine W_s (s_aload_n dX12_readText_112 rfl rfl) ?_
            refine W_s (s_iconst dX12_readText_113 kci_4) ?_
            refine W_s (s_aload_n dX12_readText_114 rfl rfl) ?_
            refine W_s (gf_RX12_130 rfl dX12_readText_115) ?_
            refine W_bd (ec := gx_eV) (fun r_ μ_ hr_ => s_callV (As := [.int _, .int _]) dX12_readText_118 Lk_RX12_156 rfl g_206 (by decide) rfl (Nat.le_of_ble_eq_true rfl) (Nat.le_of_ble_eq_true rfl) (ev_X12_later 4 (μ22.1 206 12) μ22 hr_)) (fun r27 μ28 => ?_)
            exact W_wk (hJ23 μ28) (le_s rfl (le_o (le_s rfl le_n)))
          · refine W_s (s_if_eq_t dX12_readText_109 rfl (gx_bf h26)) ?_
            exact W_wk (hJ23 μ22) (le_s rfl (le_o (le_s rfl le_n)))
        · refine W_s (s_if_ne_t dX12_readText_105 rfl h25) ?_
          exact W_wk (hJ23 μ22) (le_s rfl (le_o (le_s rfl le_n)))
      · refine W_s (s_if_eq_t dX12_readText_98 rfl (gx_bf h24)) ?_
        exact W_wk (hJ23 μ22) (le_s rfl (le_o (le_s rfl le_n)))
  · skip
    refine W_ite (fun h12 => ?_) (fun h12 => ?_)
    · refine W_s (s_if_ne_f dX12_readText_36 rfl h12) ?_
      refine W_s (s_aload_n dX12_readText_39 rfl rfl) ?_
      refine W_s (gf_RX12_170 rfl dX12_readText_40) ?_
      refine W_s (s_aload_n dX12_readText_43 rfl rfl) ?_
      refine W_s (gf_RX12_38 rfl dX12_readText_44) ?_
      refine W_s (s_iconst dX12_readText_47 kci_0) ?_
      refine W_s (s_ialdL (k := 0) dX12_readText_48 g_216 (gx_inl (by decide)) (by decide)) ?_
      refine W_fun (fun J => ∀ (μ20 : gx_M), GoW E l Y_X12_readText 8 gx_eB 65 [some (.ref (E.2.2.1 + 206)), none, some (.int (gx_bi r9))] [] μ20 (J μ20)) ?_ (fun J17 hJ17 => ?_)
      · intro μ20
        refine W_s (s_iconst dX12_readText_65 kci_1) ?_
        refine W_s (s_goto dX12_readText_66 rfl) ?_
        exact W_wk (hJ11 true μ20) (le_s rfl (le_o (le_s rfl le_n)))
      · skip
        refine W_ite (fun h18 => ?_) (fun h18 => ?_)
        · refine W_s (s_icmp_ge_t dX12_readText_49 rfl h18) ?_
          exact W_wk (hJ17 μ10) (le_s rfl (le_o (le_s rfl le_n)))
        · refine W_s (s_icmp_ge_f dX12_readText_49 rfl h18) ?_
          refine W_s (s_aload_n dX12_readText_52 rfl rfl) ?_
          refine W_s (gf_RX12_177 rfl dX12_readText_53) ?_
          refine W_s (s_aload_n dX12_readText_56 rfl rfl) ?_
          refine W_s (gf_RX12_38 rfl dX12_readText_57) ?_
          refine W_s (s_iconst dX12_readText_60 kci_1) ?_
          refine W_s (s_ialdL (k := 1) dX12_readText_61 g_216 (gx_inl (by decide)) (by decide)) ?_
          refine W_ite (fun h19 => ?_) (fun h19 => ?_)
          · refine W_s (s_icmp_lt_t dX12_readText_62 rfl h19) ?_
            refine W_s (s_iconst dX12_readText_69 kci_0) ?_
            refine W_s (s_goto dX12_readText_70 rfl) ?_
            exact W_wk (hJ11 false μ10) (le_s rfl (le_o (le_s rfl le_n)))
          · refine W_s (s_icmp_lt_f dX12_readText_62 rfl h19) ?_
            exact W_wk (hJ17 μ10) (le_s rfl (le_o (le_s rfl le_n)))
    · refine W_s (s_if_ne_t dX12_readText_36 rfl h12) ?_
      refine W_s (s_iload_n dX12_readText_73 rfl rfl) ?_
      refine W_s (s_iconst dX12_readText_74 kci_3) ?_
      refine W_fun (fun J => ∀ (μ16 : gx_M), GoW E l Y_X12_readText 8 gx_eB 95 [some (.ref (E.2.2.1 + 206)), none, some (.int (gx_bi r9))] [] μ16 (J μ16)) ?_ (fun J13 hJ13 => ?_)
      · intro μ16
        refine W_s (s_iconst dX12_readText_95 kci_0) ?_
        exact W_wk (hJ11 false μ16) (le_s rfl (le_o (le_s rfl le_n)))
      · skip
        refine W_ite (fun h14 => ?_) (fun h14 => ?_)
        · refine W_s (s_icmp_ne_f dX12_readText_75 rfl h14) ?_
          refine W_s (s_aload_n dX12_readText_78 rfl rfl) ?_
          refine W_s (gf_RX12_177 rfl dX12_readText_79) ?_
          refine W_s (s_aload_n dX12_readText_82 rfl rfl) ?_
          refine W_s (gf_RX12_38 rfl dX12_readText_83) ?_
          refine W_s (s_iconst dX12_readText_86 kci_0) ?_
          refine W_s (s_ialdL (k := 0) dX12_readText_87 g_216 (gx_inl (by decide)) (by decide)) ?_
          refine W_ite (fun h15 => ?_) (fun h15 => ?_)
          · refine W_s (s_icmp_lt_t dX12_readText_88 rfl h15) ?_
            exact W_wk (hJ13 μ10) (le_s rfl (le_o (le_s rfl le_n)))
          · refine W_s (s_icmp_lt_f dX12_readText_88 rfl h15) ?_
            refine W_s (s_iconst dX12_readText_91 kci_1) ?_
            refine W_s (s_goto dX12_readText_92 rfl) ?_
            exact W_wk (hJ11 true μ10) (le_s rfl (le_o (le_s rfl le_n)))
        · refine W_s (s_icmp_ne_t dX12_readText_75 rfl h14) ?_
          exact W_wk (hJ13 μ10) (le_s rfl (le_o (le_s rfl le_n)))

def f_X12_text (p1 : Int32) (p2 : Int32) (μ : gx_M) : Option (Int32 × gx_M) := gx_lt (gx_uI μ 206 0 0) (fun (μ1 : gx_M) => gx_lt (gx_uI μ1 206 11 (μ1.1 208 0)) (fun (μ2 : gx_M) => gx_lt (gx_uI μ2 208 0 0) (fun (μ3 : gx_M) => gx_lt (gx_uI μ3 209 0 0) (fun (μ4 : gx_M) => gx_lt (gx_uI μ4 210 0 (-1)) (fun (μ5 : gx_M) => if (f_X12_in p1 0 3) = true then gx_lt (fun (μ13 : gx_M) => gx_bd (f_X12_readText p1 μ13) (fun (r14 : Bool) (μ15 : gx_M) => if r14 = true then gx_lt (fun (j0_20 : Int32) (μ21 : gx_M) => gx_ck (gx_ix p1 16 = true) (gx_lt (fun (j0_25 : Bool) (μ26 : gx_M) => gx_lt (gx_uI μ26 211 p1.toNatClampNeg ((μ21.1 211 p1.toNatClampNeg) + (gx_bi j0_25))) (fun (μ27 : gx_M) => gx_bd (f_X12_storeAll p1 j0_20 μ27) (fun (r28 : Unit) (μ29 : gx_M) => some (j0_20, μ29)))) (fun J23 => if p2 = (-1) then J23 true μ21 else J23 false μ21))) (fun J17 => if p2 = (-1) then gx_ck (gx_ix p1 16 = true) (J17 (μ15.1 211 p1.toNatClampNeg) μ15) else J17 p2 μ15) else some ((-1), μ15))) (fun J7 => if p2 = (-1) then gx_ck (gx_ix p1 16 = true) (if (μ5.1 211 p1.toNatClampNeg) = 2 then some ((-2), μ5) else J7 μ5) else gx_br (f_X12_is p1 p2 μ5) (fun (r9 : Bool) => if r9 = true then J7 μ5 else some ((-2), μ5))) else some ((-2), μ5))))))
theorem ev_X12_text {E : gx_E} {l : Launch} (p1 : Int32) (p2 : Int32) (μ : gx_M) {r : Int32} {μ' : gx_M} (hr : f_X12_text p1 p2 μ = some (r, μ')) : gEv E l 9 Y_X12_text [.ref (E.2.2.1 + 206), .int p1, .int p2] gx_G1 μ (gx_eI r) gx_G1 μ' := by
  refine W_ev (by decide) (Nat.le_of_ble_eq_true rfl) (em := gx_eI) (T := f_X12_text p1 p2 μ) ?_ hr
  show GoW E l Y_X12_text 9 gx_eI 0 (gx_el [.ref (E.2.2.1 + 206), .int p1, .int p2]) [] μ (f_X12_text p1 p2 μ)
  unfold f_X12_text
  refine W_s (s_aload_n dX12_text_0 rfl rfl) ?_
  refine W_s (s_iconst dX12_text_1 kci_0) ?_
  refine W_s (pf_RX12_100 rfl dX12_text_2) ?_
  refine W_letM (fun μ1 => ?_)
  refine W_s (s_aload_n dX12_text_5 rfl rfl) ?_
  refine W_s (s_aload_n dX12_text_6 rfl rfl) ?_
  refine W_s (gf_RX12_13 rfl dX12_text_7) ?_
  refine W_s (s_iconst dX12_text_10 kci_0) ?_
  refine W_s (s_ialdL (k := 0) dX12_text_11 g_208 (gx_inl (by decide)) (by decide)) ?_
  refine W_s (pf_RX12_123 rfl dX12_text_12) ?_
  refine W_letM (fun μ2 => ?_)
  refine W_s (s_aload_n dX12_text_15 rfl rfl) ?_
  refine W_s (gf_RX12_13 rfl dX12_text_16) ?_
  refine W_s (s_iconst dX12_text_19 kci_0) ?_
  refine W_s (s_iconst dX12_text_20 kci_0) ?_
  refine W_s (s_iastL (k := 0) dX12_text_21 g_208 (gx_inl (by decide)) (by decide)) ?_
  refine W_letM (fun μ3 => ?_)
  refine W_s (s_aload_n dX12_text_22 rfl rfl) ?_
  refine W_s (gf_RX12_17 rfl dX12_text_23) ?_
  refine W_s (s_iconst dX12_text_26 kci_0) ?_
  refine W_s (s_iconst dX12_text_27 kci_0) ?_
  refine W_s (s_iastL (k := 0) dX12_text_28 g_209 (gx_inl (by decide)) (by decide)) ?_
  refine W_letM (fun μ4 => ?_)
  refine W_s (s_aload_n dX12_text_29 rfl rfl) ?_
  refine W_s (gf_RX12_20 rfl dX12_text_30) ?_
  refine W_s (s_iconst dX12_text_33 kci_0) ?_
  refine W_s (s_iconst dX12_text_34 kci_m1) ?_
  refine W_s (s_iastL (k := 0) dX12_text_35 g_210 (gx_inl (by decide)) (by decide)) ?_
  refine W_letM (fun μ5 => ?_)
  refine W_s (s_iload_n dX12_text_36 rfl rfl) ?_
  refine W_s (s_iconst dX12_text_37 kci_0) ?_
  refine W_s (s_iconst dX12_text_38 kci_3) ?_
  refine W_s (s_callS (As := [.int _, .int _, .int _]) dX12_text_39 Lk_RX12_112 rfl (Nat.le_of_ble_eq_true rfl) (Nat.le_of_ble_eq_true rfl) (ev_X12_in p1 0 3 μ5)) ?_
  refine W_ite (fun h6 => ?_) (fun h6 => ?_)
  · refine W_s (s_if_eq_f dX12_text_42 rfl (gx_bt h6)) ?_
    refine W_s (s_iload_n dX12_text_45 rfl rfl) ?_
    refine W_s (s_iconst dX12_text_46 kci_m1) ?_
    refine W_fun (fun J => ∀ (μ13 : gx_M), GoW E l Y_X12_text 9 gx_eI 75 [some (.ref (E.2.2.1 + 206)), some (.int p1), some (.int p2)] [] μ13 (J μ13)) ?_ (fun J7 hJ7 => ?_)
    · intro μ13
      refine W_s (s_aload_n dX12_text_75 rfl rfl) ?_
      refine W_s (s_iload_n dX12_text_76 rfl rfl) ?_
      refine W_bd (ec := gx_eB) (fun r_ μ_ hr_ => s_callV (As := [.int _]) dX12_text_77 Lk_RX12_270 rfl g_206 (by decide) rfl (Nat.le_of_ble_eq_true rfl) (Nat.le_of_ble_eq_true rfl) (ev_X12_readText p1 μ13 hr_)) (fun r14 μ15 => ?_)
      refine W_ite (fun h16 => ?_) (fun h16 => ?_)
      · refine W_s (s_if_ne_t dX12_text_80 rfl (gx_bt h16)) ?_
        refine W_s (s_iload_n dX12_text_85 rfl rfl) ?_
        refine W_s (s_iconst dX12_text_86 kci_m1) ?_
        refine W_fun (fun J => ∀ (j0_20 : Int32) (μ21 : gx_M), GoW E l Y_X12_text 9 gx_eI 100 [some (.ref (E.2.2.1 + 206)), some (.int p1), some (.int p2)] [.int j0_20] μ21 (J j0_20 μ21)) ?_ (fun J17 hJ17 => ?_)
        · intro j0_20 μ21
          refine W_s (s_istore_n dX12_text_100 rfl (Nat.le_of_ble_eq_true rfl)) ?_
          refine W_s (s_aload_n dX12_text_101 rfl rfl) ?_
          refine W_s (gf_RX12_23 rfl dX12_text_102) ?_
          refine W_s (s_iload_n dX12_text_105 rfl rfl) ?_
          refine W_s (s_dup2 dX12_text_106 rfl rfl) ?_
          refine W_ck (fun h22 => ?_)
          refine W_s (s_iald dX12_text_107 g_211 (gx_ixv h22)) ?_
          refine W_s (s_iload_n dX12_text_108 rfl rfl) ?_
          refine W_s (s_iconst dX12_text_109 kci_m1) ?_
          refine W_fun (fun J => ∀ (j0_25 : Bool) (μ26 : gx_M), GoW E l Y_X12_text 9 gx_eI 118 [some (.ref (E.2.2.1 + 206)), some (.int p1), none, some (.int j0_20)] [.int (gx_bi j0_25), .int (μ21.1 211 p1.toNatClampNeg), .int p1, .ref (E.2.2.1 + 211)] μ26 (J j0_25 μ26)) ?_ (fun J23 hJ23 => ?_)
          · intro j0_25 μ26
            refine W_s (s_iadd dX12_text_118) ?_
            refine W_s (s_iast dX12_text_119 g_211 (gx_ixv h22)) ?_
            refine W_letM (fun μ27 => ?_)
            refine W_s (s_aload_n dX12_text_120 rfl rfl) ?_
            refine W_s (s_iload_n dX12_text_121 rfl rfl) ?_
            refine W_s (s_iload_n dX12_text_122 rfl rfl) ?_
            refine W_bd (ec := gx_eV) (fun r_ μ_ hr_ => s_callV (As := [.int _, .int _]) dX12_text_123 Lk_RX12_273 rfl g_206 (by decide) rfl (Nat.le_of_ble_eq_true rfl) (Nat.le_of_ble_eq_true rfl) (ev_X12_storeAll p1 j0_20 μ27 hr_)) (fun r28 μ29 => ?_)
            refine W_s (s_iload_n dX12_text_126 rfl rfl) ?_
            exact W_r (r := j0_20) (f_int (ty := .int) dX12_text_127 rfl rfl)
          · skip
            refine W_ite (fun h24 => ?_) (fun h24 => ?_)
            · refine W_s (s_icmp_ne_f dX12_text_110 rfl h24) ?_
              refine W_s (s_iconst dX12_text_113 kci_1) ?_
              refine W_s (s_goto dX12_text_114 rfl) ?_
              exact W_wk (hJ23 true μ21) (le_s rfl (le_s rfl (le_o (le_s rfl le_n))))
            · refine W_s (s_icmp_ne_t dX12_text_110 rfl h24) ?_
              refine W_s (s_iconst dX12_text_117 kci_0) ?_
              exact W_wk (hJ23 false μ21) (le_s rfl (le_s rfl (le_o (le_s rfl le_n))))
        · skip
          refine W_ite (fun h18 => ?_) (fun h18 => ?_)
          · refine W_s (s_icmp_ne_f dX12_text_87 rfl h18) ?_
            refine W_s (s_aload_n dX12_text_90 rfl rfl) ?_
            refine W_s (gf_RX12_23 rfl dX12_text_91) ?_
            refine W_s (s_iload_n dX12_text_94 rfl rfl) ?_
            refine W_ck (fun h19 => ?_)
            refine W_s (s_iald dX12_text_95 g_211 (gx_ixv h19)) ?_
            refine W_s (s_goto dX12_text_96 rfl) ?_
            exact W_wk (hJ17 (μ15.1 211 p1.toNatClampNeg) μ15) (le_s rfl (le_s rfl (le_s rfl le_n)))
          · refine W_s (s_icmp_ne_t dX12_text_87 rfl h18) ?_
            refine W_s (s_iload_n dX12_text_99 rfl rfl) ?_
            exact W_wk (hJ17 p2 μ15) (le_s rfl (le_s rfl (le_s rfl le_n)))
      · refine W_s (s_if_ne_f dX12_text_80 rfl (gx_bf h16)) ?_
        refine W_s (s_iconst dX12_text_83 kci_m1) ?_
        exact W_r (r := (-1)) (f_int (ty := .int) dX12_text_84 rfl rfl)
    · skip
      refine W_ite (fun h8 => ?_) (fun h8 => ?_)
      · refine W_s (s_icmp_ne_f dX12_text_47 rfl h8) ?_
        refine W_s (s_aload_n dX12_text_50 rfl rfl) ?_
        refine W_s (gf_RX12_23 rfl dX12_text_51) ?_
        refine W_s (s_iload_n dX12_text_54 rfl rfl) ?_
        refine W_ck (fun h11 => ?_)
        refine W_s (s_iald dX12_text_55 g_211 (gx_ixv h11)) ?_
        refine W_s (s_iconst dX12_text_56 kci_2) ?_
        refine W_ite (fun h12 => ?_) (fun h12 => ?_)
        · refine W_s (s_icmp_ne_f dX12_text_57 rfl h12) ?_
          refine W_s (s_goto dX12_text_60 rfl) ?_
          refine W_s (s_bipush dX12_text_72 kcb_m2) ?_
          exact W_r (r := (-2)) (f_int (ty := .int) dX12_text_74 rfl rfl)
        · refine W_s (s_icmp_ne_t dX12_text_57 rfl h12) ?_
          exact W_wk (hJ7 μ5) (le_s rfl (le_s rfl (le_s rfl le_n)))
      · refine W_s (s_icmp_ne_t dX12_text_47 rfl h8) ?_
        refine W_s (s_aload_n dX12_text_63 rfl rfl) ?_
        refine W_s (s_iload_n dX12_text_64 rfl rfl) ?_
        refine W_s (s_iload_n dX12_text_65 rfl rfl) ?_
        refine W_br (ec := gx_eB) (fun r_ hr_ => s_callV (As := [.int _, .int _]) dX12_text_66 Lk_RX12_267 rfl g_206 (by decide) rfl (Nat.le_of_ble_eq_true rfl) (Nat.le_of_ble_eq_true rfl) (ev_X12_is p1 p2 μ5 hr_)) (fun r9 => ?_)
        refine W_ite (fun h10 => ?_) (fun h10 => ?_)
        · refine W_s (s_if_ne_t dX12_text_69 rfl (gx_bt h10)) ?_
          exact W_wk (hJ7 μ5) (le_s rfl (le_s rfl (le_s rfl le_n)))
        · refine W_s (s_if_ne_f dX12_text_69 rfl (gx_bf h10)) ?_
          refine W_s (s_bipush dX12_text_72 kcb_m2) ?_
          exact W_r (r := (-2)) (f_int (ty := .int) dX12_text_74 rfl rfl)
  · refine W_s (s_if_eq_t dX12_text_42 rfl (gx_bf h6)) ?_
    refine W_s (s_bipush dX12_text_72 kcb_m2) ?_
    exact W_r (r := (-2)) (f_int (ty := .int) dX12_text_74 rfl rfl)

