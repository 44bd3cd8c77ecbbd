theorem gx_il {c : Prop} [Decidable c] {a b n : Nat} (ha : a < n) (hb : b < n) : (if c then a else b) < n := by
  by_cases h : c
  · rw [if_pos h]; exact ha
  · rw [if_neg h]; exact hb

def f_X0_rowShift (p0 : Int32) : Int32 := (((5 : Int32) - p0) * 6)
theorem ev_X0_rowShift {E : gx_E} {l : Launch} (p0 : Int32) (μ : gx_M) : gEv E l 0 Y_X0_rowShift [.int p0] gx_G1 μ (gx_eI (f_X0_rowShift p0)) gx_G1 μ := by
  refine P_ev (by decide) (Nat.le_of_ble_eq_true rfl) (em := gx_eI) (T := f_X0_rowShift p0) ?_
  show GoP E l Y_X0_rowShift 0 gx_eI 0 (gx_el [.int p0]) [] μ (f_X0_rowShift p0)
  unfold f_X0_rowShift
  refine P_s (s_iconst dX0_rowShift_0 kci_5) ?_
  refine P_s (s_iload_n dX0_rowShift_1 rfl rfl) ?_
  refine P_s (s_isub dX0_rowShift_2) ?_
  refine P_s (s_bipush dX0_rowShift_3 kcb_6) ?_
  refine P_s (s_imul dX0_rowShift_5) ?_
  exact P_r (r := (((5 : Int32) - p0) * 6)) (f_int (ty := .int) dX0_rowShift_6 rfl rfl)

def f_X0_costIn (p0 : Int64) : Int32 := if 1152921504606846976 ≤ p0 then (-1) else ((p0 >>> ((36 : Int32).toInt64 &&& 63)) : Int64).toInt32
theorem ev_X0_costIn {E : gx_E} {l : Launch} (p0 : Int64) (μ : gx_M) : gEv E l 0 Y_X0_costIn [.long p0] gx_G1 μ (gx_eI (f_X0_costIn p0)) gx_G1 μ := by
  refine P_ev (by decide) (Nat.le_of_ble_eq_true rfl) (em := gx_eI) (T := f_X0_costIn p0) ?_
  show GoP E l Y_X0_costIn 0 gx_eI 0 (gx_el [.long p0]) [] μ (f_X0_costIn p0)
  unfold f_X0_costIn
  refine P_s (s_lload_n dX0_costIn_0 rfl rfl) ?_
  refine P_s (s_ldc2 dX0_costIn_1 kw_RX0_30) ?_
  refine P_s (s_lcmp dX0_costIn_4) ?_
  refine P_ite (fun h1 => ?_) (fun h1 => ?_)
  · refine P_s (s_if_ge_t dX0_costIn_5 rfl ((lgc_ge p0 1152921504606846976).mpr h1)) ?_
    refine P_s (s_iconst dX0_costIn_16 kci_m1) ?_
    exact P_r (r := (-1)) (f_int (ty := .int) dX0_costIn_17 rfl rfl)
  · refine P_s (s_if_ge_f dX0_costIn_5 rfl (fun hc => h1 ((lgc_ge p0 1152921504606846976).mp hc))) ?_
    refine P_s (s_lload_n dX0_costIn_8 rfl rfl) ?_
    refine P_s (s_bipush dX0_costIn_9 kcb_36) ?_
    refine P_s (s_lshr dX0_costIn_11) ?_
    refine P_s (s_l2i dX0_costIn_12) ?_
    refine P_s (s_goto dX0_costIn_13 rfl) ?_
    exact P_r (r := ((p0 >>> ((36 : Int32).toInt64 &&& 63)) : Int64).toInt32) (f_int (ty := .int) dX0_costIn_17 rfl rfl)

def f_X0_behind (a0 : Nat) (p1 : Int32) (p2 : Int32) (p3 : Int32) (μ : gx_M) : Option Int32 := gx_ck (gx_ix p3 6 = true) (some (((p1 + (μ.1 (a0 + 4) p3.toNatClampNeg)) * 64) + (p2 ||| ((1 : Int32) <<< (p3 &&& 31)))))
theorem ev_X0_behind {E : gx_E} {l : Launch} (a0 : Nat) (p1 : Int32) (p2 : Int32) (p3 : Int32) (ha0 : gx_St a0) (μ : gx_M) {r : Int32} (hr : f_X0_behind a0 p1 p2 p3 μ = some r) : gEv E l 0 Y_X0_behind [.ref (E.2.2.1 + a0), .int p1, .int p2, .int p3] gx_G1 μ (gx_eI r) gx_G1 μ := by
  refine R_ev (by decide) (Nat.le_of_ble_eq_true rfl) (em := gx_eI) (T := f_X0_behind a0 p1 p2 p3 μ) ?_ hr
  show GoR E l Y_X0_behind 0 gx_eI 0 (gx_el [.ref (E.2.2.1 + a0), .int p1, .int p2, .int p3]) [] μ (f_X0_behind a0 p1 p2 p3 μ)
  unfold f_X0_behind
  refine R_s (s_iload_n dX0_behind_0 rfl rfl) ?_
  refine R_s (s_aload_n dX0_behind_1 rfl rfl) ?_
  refine R_s (gfm_RX0_91 ha0 rfl dX0_behind_2) ?_
  refine R_s (s_iload_n dX0_behind_5 rfl rfl) ?_
  refine R_ck (fun h1 => ?_)
  refine R_s (s_iald dX0_behind_6 (St_4 ha0) (gx_ixv h1)) ?_
  refine R_s (s_iadd dX0_behind_7) ?_
  refine R_s (s_bipush dX0_behind_8 kcb_64) ?_
  refine R_s (s_imul dX0_behind_10) ?_
  refine R_s (s_iload_n dX0_behind_11 rfl rfl) ?_
  refine R_s (s_iconst dX0_behind_12 kci_1) ?_
  refine R_s (s_iload_n dX0_behind_13 rfl rfl) ?_
  refine R_s (s_ishl dX0_behind_14) ?_
  refine R_s (s_ior dX0_behind_15) ?_
  refine R_s (s_iadd dX0_behind_16) ?_
  exact R_r (r := (((p1 + (μ.1 (a0 + 4) p3.toNatClampNeg)) * 64) + (p2 ||| ((1 : Int32) <<< (p3 &&& 31))))) (f_int (ty := .int) dX0_behind_17 rfl rfl)

def f_X0_lower (a0 : Nat) (n0 : Nat) (p1 : Int32) (p2 : Int64) (μ : gx_M) : Option (Unit × gx_M) := if p1 < 0 then some ((), μ) else if (Int32.ofNat n0) ≤ p1 then some ((), μ) else gx_ck (gx_ix p1 n0 = true) (if (μ.2 a0 p1.toNatClampNeg) ≤ p2 then some ((), μ) else gx_lt (gx_uL μ a0 p1.toNatClampNeg p2) (fun (μ5 : gx_M) => some ((), μ5)))
theorem ev_X0_lower {E : gx_E} {l : Launch} (a0 : Nat) (n0 : Nat) (p1 : Int32) (p2 : Int64) (ha0 : gx_G1[a0]? = some (53, n0, [])) (μ : gx_M) {r : Unit} {μ' : gx_M} (hr : f_X0_lower a0 n0 p1 p2 μ = some (r, μ')) : gEv E l 0 Y_X0_lower [.ref (E.2.2.1 + a0), .int p1, .long p2] gx_G1 μ (gx_eV r) gx_G1 μ' := by
  refine W_ev (by decide) (Nat.le_of_ble_eq_true rfl) (em := gx_eV) (T := f_X0_lower a0 n0 p1 p2 μ) ?_ hr
  show GoW E l Y_X0_lower 0 gx_eV 0 (gx_el [.ref (E.2.2.1 + a0), .int p1, .long p2]) [] μ (f_X0_lower a0 n0 p1 p2 μ)
  unfold f_X0_lower
  refine W_s (s_iload_n dX0_lower_0 rfl rfl) ?_
  refine W_ite (fun h1 => ?_) (fun h1 => ?_)
  · refine W_s (s_if_lt_t dX0_lower_1 rfl h1) ?_
    exact W_r (r := ()) (f_void dX0_lower_22 rfl)
  · refine W_s (s_if_lt_f dX0_lower_1 rfl h1) ?_
    refine W_s (s_iload_n dX0_lower_4 rfl rfl) ?_
    refine W_s (s_aload_n dX0_lower_5 rfl rfl) ?_
    refine W_s (s_alenA (ty := .int) dX0_lower_6 ha0 (by decide) rfl) ?_
    refine W_ite (fun h2 => ?_) (fun h2 => ?_)
    · refine W_s (s_icmp_ge_t dX0_lower_7 rfl h2) ?_
      exact W_r (r := ()) (f_void dX0_lower_22 rfl)
    · refine W_s (s_icmp_ge_f dX0_lower_7 rfl h2) ?_
      refine W_s (s_lload_n dX0_lower_10 rfl rfl) ?_
      refine W_s (s_aload_n dX0_lower_11 rfl rfl) ?_
      refine W_s (s_iload_n dX0_lower_12 rfl rfl) ?_
      refine W_ck (fun h3 => ?_)
      refine W_s (s_lald dX0_lower_13 ha0 (gx_ixv h3)) ?_
      refine W_s (s_lcmp dX0_lower_14) ?_
      refine W_ite (fun h4 => ?_) (fun h4 => ?_)
      · refine W_s (s_if_ge_t dX0_lower_15 rfl ((lgc_ge p2 (μ.2 a0 p1.toNatClampNeg)).mpr h4)) ?_
        exact W_r (r := ()) (f_void dX0_lower_22 rfl)
      · refine W_s (s_if_ge_f dX0_lower_15 rfl (fun hc => h4 ((lgc_ge p2 (μ.2 a0 p1.toNatClampNeg)).mp hc))) ?_
        refine W_s (s_aload_n dX0_lower_18 rfl rfl) ?_
        refine W_s (s_iload_n dX0_lower_19 rfl rfl) ?_
        refine W_s (s_lload_n dX0_lower_20 rfl rfl) ?_
        refine W_s (s_last dX0_lower_21 ha0 (gx_ixv h3)) ?_
        refine W_letM (fun μ5 => ?_)
        exact W_r (r := ()) (f_void dX0_lower_22 rfl)

def L_X0_lastUsed_8 (μ : gx_M) (a1 : Nat) (p2 : Int32) (k3 : Option Int32) : Nat → Int32 → Option Int32
  | 0, _ => none
  | n + 1, v3_2 => if (μ.1 a1 0) < v3_2 then k3 else gx_ck (gx_ix ((v3_2 * 64) + p2) 2624 = true) (if 1152921504606846976 ≤ (μ.2 77 ((v3_2 * 64) + p2).toNatClampNeg) then L_X0_lastUsed_8 μ a1 p2 k3 n (v3_2 + 1) else some (v3_2 - 1))
def f_X0_lastUsed (a1 : Nat) (p2 : Int32) (μ : gx_M) : Option Int32 := if p2 = 0 then some 0 else L_X0_lastUsed_8 μ a1 p2 (some (-1)) 4000 1
theorem okL_X0_lastUsed_8 {E : gx_E} {l : Launch} {μ : gx_M} {a1 : Nat} {p2 : Int32} (ha1 : gx_St a1) {k3 : Option Int32} (hk : GoR E l Y_X0_lastUsed 0 gx_eI 44 [] [] μ (k3)) : ∀ (n : Nat) (v3_2 : Int32), GoR E l Y_X0_lastUsed 0 gx_eI 8 [some (.ref (E.2.2.1 + 75)), some (.ref (E.2.2.1 + a1)), some (.int p2), some (.int v3_2)] [] μ (L_X0_lastUsed_8 μ a1 p2 k3 n v3_2) := by
  intro n
  induction n with
  | zero => intros; exact R_no
  | succ n ih =>
    intro v3_2
    rw [L_X0_lastUsed_8.eq_2]
    refine R_s (s_iload_n dX0_lastUsed_8 rfl rfl) ?_
    refine R_s (s_aload_n dX0_lastUsed_9 rfl rfl) ?_
    refine R_s (gfm_RX0_27 ha1 rfl dX0_lastUsed_10) ?_
    refine R_ite (fun h4 => ?_) (fun h4 => ?_)
    · refine R_s (s_icmp_gt_t dX0_lastUsed_13 rfl h4) ?_
      exact R_wk (hk) le_n
    · refine R_s (s_icmp_gt_f dX0_lastUsed_13 rfl h4) ?_
      refine R_s (s_aload_n dX0_lastUsed_16 rfl rfl) ?_
      refine R_s (gf_RX0_15 rfl dX0_lastUsed_17) ?_
      refine R_s (s_iload_n dX0_lastUsed_20 rfl rfl) ?_
      refine R_s (s_bipush dX0_lastUsed_21 kcb_64) ?_
      refine R_s (s_imul dX0_lastUsed_23) ?_
      refine R_s (s_iload_n dX0_lastUsed_24 rfl rfl) ?_
      refine R_s (s_iadd dX0_lastUsed_25) ?_
      refine R_ck (fun h5 => ?_)
      refine R_s (s_lald dX0_lastUsed_26 g_77 (gx_ixv h5)) ?_
      refine R_s (s_ldc2 dX0_lastUsed_27 kw_RX0_30) ?_
      refine R_s (s_lcmp dX0_lastUsed_30) ?_
      refine R_ite (fun h6 => ?_) (fun h6 => ?_)
      · refine R_s (s_if_ge_t dX0_lastUsed_31 rfl ((lgc_ge (μ.2 77 ((v3_2 * 64) + p2).toNatClampNeg) 1152921504606846976).mpr h6)) ?_
        refine R_s (s_iinc dX0_lastUsed_38 rfl (kinc_1 v3_2) (Nat.le_of_ble_eq_true rfl)) ?_
        refine R_s (s_goto dX0_lastUsed_41 rfl) ?_
        exact R_wk (ih (v3_2 + 1)) (le_s rfl (le_s rfl (le_s rfl (le_s rfl le_n))))
      · refine R_s (s_if_ge_f dX0_lastUsed_31 rfl (fun hc => h6 ((lgc_ge (μ.2 77 ((v3_2 * 64) + p2).toNatClampNeg) 1152921504606846976).mp hc))) ?_
        refine R_s (s_iload_n dX0_lastUsed_34 rfl rfl) ?_
        refine R_s (s_iconst dX0_lastUsed_35 kci_1) ?_
        refine R_s (s_isub dX0_lastUsed_36) ?_
        exact R_r (r := (v3_2 - 1)) (f_int (ty := .int) dX0_lastUsed_37 rfl rfl)
theorem ev_X0_lastUsed {E : gx_E} {l : Launch} (a1 : Nat) (p2 : Int32) (ha1 : gx_St a1) (μ : gx_M) {r : Int32} (hr : f_X0_lastUsed a1 p2 μ = some r) : gEv E l 0 Y_X0_lastUsed [.ref (E.2.2.1 + 75), .ref (E.2.2.1 + a1), .int p2] gx_G1 μ (gx_eI r) gx_G1 μ := by
  refine R_ev (by decide) (Nat.le_of_ble_eq_true rfl) (em := gx_eI) (T := f_X0_lastUsed a1 p2 μ) ?_ hr
  show GoR E l Y_X0_lastUsed 0 gx_eI 0 (gx_el [.ref (E.2.2.1 + 75), .ref (E.2.2.1 + a1), .int p2]) [] μ (f_X0_lastUsed a1 p2 μ)
  unfold f_X0_lastUsed
  refine R_s (s_iload_n dX0_lastUsed_0 rfl rfl) ?_
  refine R_ite (fun h1 => ?_) (fun h1 => ?_)
  · refine R_s (s_if_ne_f dX0_lastUsed_1 rfl h1) ?_
    refine R_s (s_iconst dX0_lastUsed_4 kci_0) ?_
    exact R_r (r := 0) (f_int (ty := .int) dX0_lastUsed_5 rfl rfl)
  · refine R_s (s_if_ne_t dX0_lastUsed_1 rfl h1) ?_
    refine R_s (s_iconst dX0_lastUsed_6 kci_1) ?_
    refine R_s (s_istore_n dX0_lastUsed_7 rfl (Nat.le_of_ble_eq_true rfl)) ?_
    refine R_wk (okL_X0_lastUsed_8 ha1 ?_ 4000 1) (le_s rfl (le_s rfl (le_s rfl (le_s rfl le_n))))
    refine R_s (s_iconst dX0_lastUsed_44 kci_m1) ?_
    exact R_r (r := (-1)) (f_int (ty := .int) dX0_lastUsed_45 rfl rfl)

def L_X0_firstNotHis_2 (μ : gx_M) (a0 : Nat) (p1 : Int32) (k2 : Option Int32) : Nat → Int32 → Option Int32
  | 0, _ => none
  | n + 1, v2_1 => if (μ.1 a0 0) ≤ v2_1 then k2 else gx_ck (gx_ix v2_1 40 = true) (if (μ.1 (a0 + 3) v2_1.toNatClampNeg) = p1 then L_X0_firstNotHis_2 μ a0 p1 k2 n (v2_1 + 1) else some v2_1)
def f_X0_firstNotHis (a0 : Nat) (p1 : Int32) (μ : gx_M) : Option Int32 := L_X0_firstNotHis_2 μ a0 p1 (some (-1)) 4000 0
theorem okL_X0_firstNotHis_2 {E : gx_E} {l : Launch} {μ : gx_M} {a0 : Nat} {p1 : Int32} (ha0 : gx_St a0) {k2 : Option Int32} (hk : GoR E l Y_X0_firstNotHis 0 gx_eI 28 [] [] μ (k2)) : ∀ (n : Nat) (v2_1 : Int32), GoR E l Y_X0_firstNotHis 0 gx_eI 2 [some (.ref (E.2.2.1 + a0)), some (.int p1), some (.int v2_1)] [] μ (L_X0_firstNotHis_2 μ a0 p1 k2 n v2_1) := by
  intro n
  induction n with
  | zero => intros; exact R_no
  | succ n ih =>
    intro v2_1
    rw [L_X0_firstNotHis_2.eq_2]
    refine R_s (s_iload_n dX0_firstNotHis_2 rfl rfl) ?_
    refine R_s (s_aload_n dX0_firstNotHis_3 rfl rfl) ?_
    refine R_s (gfm_RX0_27 ha0 rfl dX0_firstNotHis_4) ?_
    refine R_ite (fun h3 => ?_) (fun h3 => ?_)
    · refine R_s (s_icmp_ge_t dX0_firstNotHis_7 rfl h3) ?_
      exact R_wk (hk) le_n
    · refine R_s (s_icmp_ge_f dX0_firstNotHis_7 rfl h3) ?_
      refine R_s (s_aload_n dX0_firstNotHis_10 rfl rfl) ?_
      refine R_s (gfm_RX0_144 ha0 rfl dX0_firstNotHis_11) ?_
      refine R_s (s_iload_n dX0_firstNotHis_14 rfl rfl) ?_
      refine R_ck (fun h4 => ?_)
      refine R_s (s_iald dX0_firstNotHis_15 (St_3 ha0) (gx_ixv h4)) ?_
      refine R_s (s_iload_n dX0_firstNotHis_16 rfl rfl) ?_
      refine R_ite (fun h5 => ?_) (fun h5 => ?_)
      · refine R_s (s_icmp_eq_t dX0_firstNotHis_17 rfl h5) ?_
        refine R_s (s_iinc dX0_firstNotHis_22 rfl (kinc_1 v2_1) (Nat.le_of_ble_eq_true rfl)) ?_
        refine R_s (s_goto dX0_firstNotHis_25 rfl) ?_
        exact R_wk (ih (v2_1 + 1)) (le_s rfl (le_s rfl (le_s rfl le_n)))
      · refine R_s (s_icmp_eq_f dX0_firstNotHis_17 rfl h5) ?_
        refine R_s (s_iload_n dX0_firstNotHis_20 rfl rfl) ?_
        exact R_r (r := v2_1) (f_int (ty := .int) dX0_firstNotHis_21 rfl rfl)
theorem ev_X0_firstNotHis {E : gx_E} {l : Launch} (a0 : Nat) (p1 : Int32) (ha0 : gx_St a0) (μ : gx_M) {r : Int32} (hr : f_X0_firstNotHis a0 p1 μ = some r) : gEv E l 0 Y_X0_firstNotHis [.ref (E.2.2.1 + a0), .int p1] gx_G1 μ (gx_eI r) gx_G1 μ := by
  refine R_ev (by decide) (Nat.le_of_ble_eq_true rfl) (em := gx_eI) (T := f_X0_firstNotHis a0 p1 μ) ?_ hr
  show GoR E l Y_X0_firstNotHis 0 gx_eI 0 (gx_el [.ref (E.2.2.1 + a0), .int p1]) [] μ (f_X0_firstNotHis a0 p1 μ)
  unfold f_X0_firstNotHis
  refine R_s (s_iconst dX0_firstNotHis_0 kci_0) ?_
  refine R_s (s_istore_n dX0_firstNotHis_1 rfl (Nat.le_of_ble_eq_true rfl)) ?_
  refine R_wk (okL_X0_firstNotHis_2 ha0 ?_ 4000 0) (le_s rfl (le_s rfl (le_s rfl le_n)))
  refine R_s (s_iconst dX0_firstNotHis_28 kci_m1) ?_
  exact R_r (r := (-1)) (f_int (ty := .int) dX0_firstNotHis_29 rfl rfl)

def L_X0_dearestNotHis_9 (p2 : Int32) (p3 : Int32) (μ : gx_M) (a0 : Nat) (p1 : Int32) (k4 : Int32 → Option Int32) : Nat → Int32 → Int32 → Int32 → Option Int32
  | 0, _, _, _ => none
  | n + 1, v4_1, v5_2, v6_3 => gx_ck (gx_ix p2 6 = true) (if (p3 + (μ.1 (a0 + 4) p2.toNatClampNeg)) ≤ v6_3 then k4 v4_1 else if (μ.1 a0 0) ≤ v6_3 then k4 v4_1 else gx_ck (gx_ix v6_3 40 = true) (gx_lt (fun (j0_13 : Int32) (j1_14 : Int32) => L_X0_dearestNotHis_9 p2 p3 μ a0 p1 k4 n j0_13 j1_14 (v6_3 + 1)) (fun J9 => if (μ.1 (a0 + 3) v6_3.toNatClampNeg) = p1 then J9 v4_1 v5_2 else if (μ.1 (a0 + 2) v6_3.toNatClampNeg) ≤ v5_2 then J9 v4_1 v5_2 else gx_lt (μ.1 (a0 + 2) v6_3.toNatClampNeg) (fun (x12 : Int32) => J9 v6_3 x12))))
def f_X0_dearestNotHis (a0 : Nat) (p1 : Int32) (p2 : Int32) (p3 : Int32) (μ : gx_M) : Option Int32 := L_X0_dearestNotHis_9 p2 p3 μ a0 p1 (fun (x4_16 : Int32) => some x4_16) 4000 (-1) (-1) p3
theorem okL_X0_dearestNotHis_9 {E : gx_E} {l : Launch} {p2 : Int32} {p3 : Int32} {μ : gx_M} {a0 : Nat} {p1 : Int32} (ha0 : gx_St a0) {k4 : Int32 → Option Int32} (hk : ∀ (w15 : Int32), GoR E l Y_X0_dearestNotHis 0 gx_eI 73 [none, none, none, none, some (.int w15)] [] μ (k4 w15)) : ∀ (n : Nat) (v4_1 : Int32) (v5_2 : Int32) (v6_3 : Int32), GoR E l Y_X0_dearestNotHis 0 gx_eI 9 [some (.ref (E.2.2.1 + a0)), some (.int p1), some (.int p2), some (.int p3), some (.int v4_1), some (.int v5_2), some (.int v6_3)] [] μ (L_X0_dearestNotHis_9 p2 p3 μ a0 p1 k4 n v4_1 v5_2 v6_3) := by
  intro n
  induction n with
  | zero => intros; exact R_no
  | succ n ih =>
    intro v4_1 v5_2 v6_3
    rw [L_X0_dearestNotHis_9.eq_2]
    refine R_s (s_iload dX0_dearestNotHis_9 rfl) ?_
    refine R_s (s_iload_n dX0_dearestNotHis_11 rfl rfl) ?_
    refine R_s (s_aload_n dX0_dearestNotHis_12 rfl rfl) ?_
    refine R_s (gfm_RX0_91 ha0 rfl dX0_dearestNotHis_13) ?_
    refine R_s (s_iload_n dX0_dearestNotHis_16 rfl rfl) ?_
    refine R_ck (fun h5 => ?_)
    refine R_s (s_iald dX0_dearestNotHis_17 (St_4 ha0) (gx_ixv h5)) ?_
    refine R_s (s_iadd dX0_dearestNotHis_18) ?_
    refine R_ite (fun h6 => ?_) (fun h6 => ?_)
    · refine R_s (s_icmp_ge_t dX0_dearestNotHis_19 rfl h6) ?_
      exact R_wk (hk v4_1) (le_o (le_o (le_o (le_o (le_s rfl le_n)))))
    · refine R_s (s_icmp_ge_f dX0_dearestNotHis_19 rfl h6) ?_
      refine R_s (s_iload dX0_dearestNotHis_22 rfl) ?_
      refine R_s (s_aload_n dX0_dearestNotHis_24 rfl rfl) ?_
      refine R_s (gfm_RX0_27 ha0 rfl dX0_dearestNotHis_25) ?_
      refine R_ite (fun h7 => ?_) (fun h7 => ?_)
      · refine R_s (s_icmp_ge_t dX0_dearestNotHis_28 rfl h7) ?_
        exact R_wk (hk v4_1) (le_o (le_o (le_o (le_o (le_s rfl le_n)))))
      · refine R_s (s_icmp_ge_f dX0_dearestNotHis_28 rfl h7) ?_
        refine R_s (s_aload_n dX0_dearestNotHis_31 rfl rfl) ?_
        refine R_s (gfm_RX0_144 ha0 rfl dX0_dearestNotHis_32) ?_
        refine R_s (s_iload dX0_dearestNotHis_35 rfl) ?_
        refine R_ck (fun h8 => ?_)
        refine R_s (s_iald dX0_dearestNotHis_37 (St_3 ha0) (gx_ixv h8)) ?_
        refine R_s (s_iload_n dX0_dearestNotHis_38 rfl rfl) ?_
        refine R_fun (fun J => ∀ (j0_13 : Int32) (j1_14 : Int32), GoR E l Y_X0_dearestNotHis 0 gx_eI 67 [some (.ref (E.2.2.1 + a0)), some (.int p1), some (.int p2), some (.int p3), some (.int j0_13), some (.int j1_14), some (.int v6_3)] [] μ (J j0_13 j1_14)) ?_ (fun J9 hJ9 => ?_)
        · intro j0_13 j1_14
          refine R_s (s_iinc dX0_dearestNotHis_67 rfl (kinc_1 v6_3) (Nat.le_of_ble_eq_true rfl)) ?_
          refine R_s (s_goto dX0_dearestNotHis_70 rfl) ?_
          exact R_wk (ih j0_13 j1_14 (v6_3 + 1)) (le_s rfl (le_s rfl (le_s rfl (le_s rfl (le_s rfl (le_s rfl (le_s rfl le_n)))))))
        · skip
          refine R_ite (fun h10 => ?_) (fun h10 => ?_)
          · refine R_s (s_icmp_eq_t dX0_dearestNotHis_39 rfl h10) ?_
            exact R_wk (hJ9 v4_1 v5_2) (le_s rfl (le_s rfl (le_s rfl (le_s rfl (le_s rfl (le_s rfl (le_s rfl le_n)))))))
          · refine R_s (s_icmp_eq_f dX0_dearestNotHis_39 rfl h10) ?_
            refine R_s (s_aload_n dX0_dearestNotHis_42 rfl rfl) ?_
            refine R_s (gfm_RX0_154 ha0 rfl dX0_dearestNotHis_43) ?_
            refine R_s (s_iload dX0_dearestNotHis_46 rfl) ?_
            refine R_s (s_iald dX0_dearestNotHis_48 (St_2 ha0) (gx_ixv h8)) ?_
            refine R_s (s_iload dX0_dearestNotHis_49 rfl) ?_
            refine R_ite (fun h11 => ?_) (fun h11 => ?_)
            · refine R_s (s_icmp_le_t dX0_dearestNotHis_51 rfl h11) ?_
              exact R_wk (hJ9 v4_1 v5_2) (le_s rfl (le_s rfl (le_s rfl (le_s rfl (le_s rfl (le_s rfl (le_s rfl le_n)))))))
            · refine R_s (s_icmp_le_f dX0_dearestNotHis_51 rfl h11) ?_
              refine R_s (s_aload_n dX0_dearestNotHis_54 rfl rfl) ?_
              refine R_s (gfm_RX0_154 ha0 rfl dX0_dearestNotHis_55) ?_
              refine R_s (s_iload dX0_dearestNotHis_58 rfl) ?_
              refine R_s (s_iald dX0_dearestNotHis_60 (St_2 ha0) (gx_ixv h8)) ?_
              refine R_letI (fun x12 => ?_)
              refine R_s (s_istore dX0_dearestNotHis_61 (Nat.le_of_ble_eq_true rfl)) ?_
              refine R_s (s_iload dX0_dearestNotHis_63 rfl) ?_
              refine R_s (s_istore dX0_dearestNotHis_65 (Nat.le_of_ble_eq_true rfl)) ?_
              exact R_wk (hJ9 v6_3 x12) (le_s rfl (le_s rfl (le_s rfl (le_s rfl (le_s rfl (le_s rfl (le_s rfl le_n)))))))
theorem ev_X0_dearestNotHis {E : gx_E} {l : Launch} (a0 : Nat) (p1 : Int32) (p2 : Int32) (p3 : Int32) (ha0 : gx_St a0) (μ : gx_M) {r : Int32} (hr : f_X0_dearestNotHis a0 p1 p2 p3 μ = some r) : gEv E l 0 Y_X0_dearestNotHis [.ref (E.2.2.1 + a0), .int p1, .int p2, .int p3] gx_G1 μ (gx_eI r) gx_G1 μ := by
  refine R_ev (by decide) (Nat.le_of_ble_eq_true rfl) (em := gx_eI) (T := f_X0_dearestNotHis a0 p1 p2 p3 μ) ?_ hr
  show GoR E l Y_X0_dearestNotHis 0 gx_eI 0 (gx_el [.ref (E.2.2.1 + a0), .int p1, .int p2, .int p3]) [] μ (f_X0_dearestNotHis a0 p1 p2 p3 μ)
  unfold f_X0_dearestNotHis
  refine R_s (s_iconst dX0_dearestNotHis_0 kci_m1) ?_
  refine R_s (s_istore dX0_dearestNotHis_1 (Nat.le_of_ble_eq_true rfl)) ?_
  refine R_s (s_iconst dX0_dearestNotHis_3 kci_m1) ?_
  refine R_s (s_istore dX0_dearestNotHis_4 (Nat.le_of_ble_eq_true rfl)) ?_
  refine R_s (s_iload_n dX0_dearestNotHis_6 rfl rfl) ?_
  refine R_s (s_istore dX0_dearestNotHis_7 (Nat.le_of_ble_eq_true rfl)) ?_
  refine R_wk (okL_X0_dearestNotHis_9 ha0 ?_ 4000 (-1) (-1) p3) (le_s rfl (le_s rfl (le_s rfl (le_s rfl (le_s rfl (le_s rfl (le_s rfl le_n)))))))
  intro x4_16
  refine R_s (s_iload dX0_dearestNotHis_73 rfl) ?_
  exact R_r (r := x4_16) (f_int (ty := .int) dX0_dearestNotHis_75 rfl rfl)

def f_X1_answer (p1 : Int32) (μ : gx_M) : Option Int32 := if (μ.1 79 2) = (-1) then some (μ.1 79 2) else if p1 = (-1) then some (μ.1 79 2) else if p1 < 0 then some (-1) else if (μ.1 79 2) ≤ p1 then some (-1) else gx_ck (gx_ix p1 3 = true) (some (μ.1 81 p1.toNatClampNeg))
theorem ev_X1_answer {E : gx_E} {l : Launch} (p1 : Int32) (μ : gx_M) {r : Int32} (hr : f_X1_answer p1 μ = some r) : gEv E l 0 Y_X1_answer [.ref (E.2.2.1 + 79), .int p1] gx_G1 μ (gx_eI r) gx_G1 μ := by
  refine R_ev (by decide) (Nat.le_of_ble_eq_true rfl) (em := gx_eI) (T := f_X1_answer p1 μ) ?_ hr
  show GoR E l Y_X1_answer 0 gx_eI 0 (gx_el [.ref (E.2.2.1 + 79), .int p1]) [] μ (f_X1_answer p1 μ)
  unfold f_X1_answer
  refine R_s (s_aload_n dX1_answer_0 rfl rfl) ?_
  refine R_s (gf_RX1_22 rfl dX1_answer_1) ?_
  refine R_s (s_iconst dX1_answer_4 kci_m1) ?_
  refine R_ite (fun h1 => ?_) (fun h1 => ?_)
  · refine R_s (s_icmp_eq_t dX1_answer_5 rfl h1) ?_
    refine R_s (s_aload_n dX1_answer_13 rfl rfl) ?_
    refine R_s (gf_RX1_22 rfl dX1_answer_14) ?_
    exact R_r (r := (μ.1 79 2)) (f_int (ty := .int) dX1_answer_17 rfl rfl)
  · refine R_s (s_icmp_eq_f dX1_answer_5 rfl h1) ?_
    refine R_s (s_iload_n dX1_answer_8 rfl rfl) ?_
    refine R_s (s_iconst dX1_answer_9 kci_m1) ?_
    refine R_ite (fun h2 => ?_) (fun h2 => ?_)
    · refine R_s (s_icmp_ne_f dX1_answer_10 rfl h2) ?_
      refine R_s (s_aload_n dX1_answer_13 rfl rfl) ?_
      refine R_s (gf_RX1_22 rfl dX1_answer_14) ?_
      exact R_r (r := (μ.1 79 2)) (f_int (ty := .int) dX1_answer_17 rfl rfl)
    · refine R_s (s_icmp_ne_t dX1_answer_10 rfl h2) ?_
      refine R_s (s_iload_n dX1_answer_18 rfl rfl) ?_
      refine R_ite (fun h3 => ?_) (fun h3 => ?_)
      · refine R_s (s_if_lt_t dX1_answer_19 rfl h3) ?_
        refine R_s (s_iconst dX1_answer_39 kci_m1) ?_
        exact R_r (r := (-1)) (f_int (ty := .int) dX1_answer_40 rfl rfl)
      · refine R_s (s_if_lt_f dX1_answer_19 rfl h3) ?_
        refine R_s (s_iload_n dX1_answer_22 rfl rfl) ?_
        refine R_s (s_aload_n dX1_answer_23 rfl rfl) ?_
        refine R_s (gf_RX1_22 rfl dX1_answer_24) ?_
        refine R_ite (fun h4 => ?_) (fun h4 => ?_)
        · refine R_s (s_icmp_ge_t dX1_answer_27 rfl h4) ?_
          refine R_s (s_iconst dX1_answer_39 kci_m1) ?_
          exact R_r (r := (-1)) (f_int (ty := .int) dX1_answer_40 rfl rfl)
        · refine R_s (s_icmp_ge_f dX1_answer_27 rfl h4) ?_
          refine R_s (s_aload_n dX1_answer_30 rfl rfl) ?_
          refine R_s (gf_RX1_15 rfl dX1_answer_31) ?_
          refine R_s (s_iload_n dX1_answer_34 rfl rfl) ?_
          refine R_ck (fun h5 => ?_)
          refine R_s (s_iald dX1_answer_35 g_81 (gx_ixv h5)) ?_
          refine R_s (s_goto dX1_answer_36 rfl) ?_
          exact R_r (r := (μ.1 81 p1.toNatClampNeg)) (f_int (ty := .int) dX1_answer_40 rfl rfl)

def f_X1_noteRun (p1 : Int32) (p2 : Int32) (μ : gx_M) : Option (Unit × gx_M) := if 40 ≤ p1 then some ((), μ) else gx_ck (gx_ix p1 40 = true) (gx_lt (fun (μ6 : gx_M) => gx_lt (gx_uI μ6 80 p1.toNatClampNeg p2) (fun (μ7 : gx_M) => some ((), μ7))) (fun J3 => if (μ.1 80 p1.toNatClampNeg) = 0 then J3 μ else if (μ.1 80 p1.toNatClampNeg) ≤ p2 then some ((), μ) else J3 μ))
theorem ev_X1_noteRun {E : gx_E} {l : Launch} (p1 : Int32) (p2 : Int32) (μ : gx_M) {r : Unit} {μ' : gx_M} (hr : f_X1_noteRun p1 p2 μ = some (r, μ')) : gEv E l 0 Y_X1_noteRun [.ref (E.2.2.1 + 79), .int p1, .int p2] gx_G1 μ (gx_eV r) gx_G1 μ' := by
  refine W_ev (by decide) (Nat.le_of_ble_eq_true rfl) (em := gx_eV) (T := f_X1_noteRun p1 p2 μ) ?_ hr
  show GoW E l Y_X1_noteRun 0 gx_eV 0 (gx_el [.ref (E.2.2.1 + 79), .int p1, .int p2]) [] μ (f_X1_noteRun p1 p2 μ)
  unfold f_X1_noteRun
  refine W_s (s_iload_n dX1_noteRun_0 rfl rfl) ?_
  refine W_s (s_bipush dX1_noteRun_1 kcb_40) ?_
  refine W_ite (fun h1 => ?_) (fun h1 => ?_)
  · refine W_s (s_icmp_ge_t dX1_noteRun_3 rfl h1) ?_
    exact W_r (r := ()) (f_void dX1_noteRun_32 rfl)
  · refine W_s (s_icmp_ge_f dX1_noteRun_3 rfl h1) ?_
    refine W_s (s_aload_n dX1_noteRun_6 rfl rfl) ?_
    refine W_s (gf_RX1_9 rfl dX1_noteRun_7) ?_
    refine W_s (s_iload_n dX1_noteRun_10 rfl rfl) ?_
    refine W_ck (fun h2 => ?_)
    refine W_s (s_iald dX1_noteRun_11 g_80 (gx_ixv h2)) ?_
    refine W_fun (fun J => ∀ (μ6 : gx_M), GoW E l Y_X1_noteRun 0 gx_eV 25 [some (.ref (E.2.2.1 + 79)), some (.int p1), some (.int p2)] [] μ6 (J μ6)) ?_ (fun J3 hJ3 => ?_)
    · intro μ6
      refine W_s (s_aload_n dX1_noteRun_25 rfl rfl) ?_
      refine W_s (gf_RX1_9 rfl dX1_noteRun_26) ?_
      refine W_s (s_iload_n dX1_noteRun_29 rfl rfl) ?_
      refine W_s (s_iload_n dX1_noteRun_30 rfl rfl) ?_
      refine W_s (s_iast dX1_noteRun_31 g_80 (gx_ixv h2)) ?_
      refine W_letM (fun μ7 => ?_)
      exact W_r (r := ()) (f_void dX1_noteRun_32 rfl)
    · skip
      refine W_ite (fun h4 => ?_) (fun h4 => ?_)
      · refine W_s (s_if_eq_t dX1_noteRun_12 rfl h4) ?_
        exact W_wk (hJ3 μ) (le_s rfl (le_s rfl (le_s rfl le_n)))
      · refine W_s (s_if_eq_f dX1_noteRun_12 rfl h4) ?_
        refine W_s (s_iload_n dX1_noteRun_15 rfl rfl) ?_
        refine W_s (s_aload_n dX1_noteRun_16 rfl rfl) ?_
        refine W_s (gf_RX1_9 rfl dX1_noteRun_17) ?_
        refine W_s (s_iload_n dX1_noteRun_20 rfl rfl) ?_
        refine W_s (s_iald dX1_noteRun_21 g_80 (gx_ixv h2)) ?_
        refine W_ite (fun h5 => ?_) (fun h5 => ?_)
        · refine W_s (s_icmp_ge_t dX1_noteRun_22 rfl h5) ?_
          exact W_r (r := ()) (f_void dX1_noteRun_32 rfl)
        · refine W_s (s_icmp_ge_f dX1_noteRun_22 rfl h5) ?_
          exact W_wk (hJ3 μ) (le_s rfl (le_s rfl (le_s rfl le_n)))

def L_X1_firstUncovered_4 (μ : gx_M) (p1 : Int32) (k3 : Option Int32) : Nat → Int32 → Option Int32
  | 0, _ => none
  | n + 1, v2_2 => if 40 ≤ v2_2 then k3 else gx_ck (gx_ix v2_2 40 = true) (gx_lt (L_X1_firstUncovered_4 μ p1 k3 n (v2_2 + 1)) (fun J6 => if (μ.1 80 v2_2.toNatClampNeg) ≤ 0 then J6 else if ((v2_2 - (μ.1 80 v2_2.toNatClampNeg)) + 1) ≤ p1 then J6 else some v2_2))
def f_X1_firstUncovered (p1 : Int32) (μ : gx_M) : Option Int32 := gx_lt (p1 + 1) (fun (x1 : Int32) => L_X1_firstUncovered_4 μ p1 (some (-1)) 4000 x1)
theorem okL_X1_firstUncovered_4 {E : gx_E} {l : Launch} {μ : gx_M} {p1 : Int32} {k3 : Option Int32} (hk : GoR E l Y_X1_firstUncovered 0 gx_eI 41 [] [] μ (k3)) : ∀ (n : Nat) (v2_2 : Int32), GoR E l Y_X1_firstUncovered 0 gx_eI 4 [some (.ref (E.2.2.1 + 79)), some (.int p1), some (.int v2_2)] [] μ (L_X1_firstUncovered_4 μ p1 k3 n v2_2) := by
  intro n
  induction n with
  | zero => intros; exact R_no
  | succ n ih =>
    intro v2_2
    rw [L_X1_firstUncovered_4.eq_2]
    refine R_s (s_iload_n dX1_firstUncovered_4 rfl rfl) ?_
    refine R_s (s_bipush dX1_firstUncovered_5 kcb_40) ?_
    refine R_ite (fun h4 => ?_) (fun h4 => ?_)
    · refine R_s (s_icmp_ge_t dX1_firstUncovered_7 rfl h4) ?_
      exact R_wk (hk) le_n
    · refine R_s (s_icmp_ge_f dX1_firstUncovered_7 rfl h4) ?_
      refine R_s (s_aload_n dX1_firstUncovered_10 rfl rfl) ?_
      refine R_s (gf_RX1_9 rfl dX1_firstUncovered_11) ?_
      refine R_s (s_iload_n dX1_firstUncovered_14 rfl rfl) ?_
      refine R_ck (fun h5 => ?_)
      refine R_s (s_iald dX1_firstUncovered_15 g_80 (gx_ixv h5)) ?_
      refine R_fun (fun J => GoR E l Y_X1_firstUncovered 0 gx_eI 35 [some (.ref (E.2.2.1 + 79)), some (.int p1), some (.int v2_2)] [] μ (J)) ?_ (fun J6 hJ6 => ?_)
      · skip
        refine R_s (s_iinc dX1_firstUncovered_35 rfl (kinc_1 v2_2) (Nat.le_of_ble_eq_true rfl)) ?_
        refine R_s (s_goto dX1_firstUncovered_38 rfl) ?_
        exact R_wk (ih (v2_2 + 1)) (le_s rfl (le_s rfl (le_s rfl le_n)))
      · skip
        refine R_ite (fun h7 => ?_) (fun h7 => ?_)
        · refine R_s (s_if_le_t dX1_firstUncovered_16 rfl h7) ?_
          exact R_wk (hJ6) (le_s rfl (le_s rfl (le_s rfl le_n)))
        · refine R_s (s_if_le_f dX1_firstUncovered_16 rfl h7) ?_
          refine R_s (s_iload_n dX1_firstUncovered_19 rfl rfl) ?_
          refine R_s (s_aload_n dX1_firstUncovered_20 rfl rfl) ?_
          refine R_s (gf_RX1_9 rfl dX1_firstUncovered_21) ?_
          refine R_s (s_iload_n dX1_firstUncovered_24 rfl rfl) ?_
          refine R_s (s_iald dX1_firstUncovered_25 g_80 (gx_ixv h5)) ?_
          refine R_s (s_isub dX1_firstUncovered_26) ?_
          refine R_s (s_iconst dX1_firstUncovered_27 kci_1) ?_
          refine R_s (s_iadd dX1_firstUncovered_28) ?_
          refine R_s (s_iload_n dX1_firstUncovered_29 rfl rfl) ?_
          refine R_ite (fun h8 => ?_) (fun h8 => ?_)
          · refine R_s (s_icmp_le_t dX1_firstUncovered_30 rfl h8) ?_
            exact R_wk (hJ6) (le_s rfl (le_s rfl (le_s rfl le_n)))
          · refine R_s (s_icmp_le_f dX1_firstUncovered_30 rfl h8) ?_
            refine R_s (s_iload_n dX1_firstUncovered_33 rfl rfl) ?_
            exact R_r (r := v2_2) (f_int (ty := .int) dX1_firstUncovered_34 rfl rfl)
theorem ev_X1_firstUncovered {E : gx_E} {l : Launch} (p1 : Int32) (μ : gx_M) {r : Int32} (hr : f_X1_firstUncovered p1 μ = some r) : gEv E l 0 Y_X1_firstUncovered [.ref (E.2.2.1 + 79), .int p1] gx_G1 μ (gx_eI r) gx_G1 μ := by
  refine R_ev (by decide) (Nat.le_of_ble_eq_true rfl) (em := gx_eI) (T := f_X1_firstUncovered p1 μ) ?_ hr
  show GoR E l Y_X1_firstUncovered 0 gx_eI 0 (gx_el [.ref (E.2.2.1 + 79), .int p1]) [] μ (f_X1_firstUncovered p1 μ)
  unfold f_X1_firstUncovered
  refine R_s (s_iload_n dX1_firstUncovered_0 rfl rfl) ?_
  refine R_s (s_iconst dX1_firstUncovered_1 kci_1) ?_
  refine R_s (s_iadd dX1_firstUncovered_2) ?_
  refine R_letI (fun x1 => ?_)
  refine R_s (s_istore_n dX1_firstUncovered_3 rfl (Nat.le_of_ble_eq_true rfl)) ?_
  refine R_wk (okL_X1_firstUncovered_4 ?_ 4000 x1) (le_s rfl (le_s rfl (le_s rfl le_n)))
  refine R_s (s_iconst dX1_firstUncovered_41 kci_m1) ?_
  exact R_r (r := (-1)) (f_int (ty := .int) dX1_firstUncovered_42 rfl rfl)

def f_X2_append (a0 : Nat) (n0 : Nat) (p1 : Int32) (p2 : Int32) (p3 : Int32) (p4 : Int32) (μ : gx_M) : Option (Unit × gx_M) := if (μ.1 a0 3) < (μ.1 a0 0) then gx_ck (gx_ix (μ.1 a0 3) n0 = true) (gx_lt (gx_uI μ (a0 + 1) (μ.1 a0 3).toNatClampNeg p1) (fun (μ3 : gx_M) => gx_ck (gx_ix ((μ3.1 a0 3) * 3) (n0 * 3) = true) (gx_lt (gx_uI μ3 (a0 + 2) ((μ3.1 a0 3) * 3).toNatClampNeg p2) (fun (μ5 : gx_M) => gx_ck (gx_ix (((μ5.1 a0 3) * 3) + 1) (n0 * 3) = true) (gx_lt (gx_uI μ5 (a0 + 2) (((μ5.1 a0 3) * 3) + 1).toNatClampNeg p3) (fun (μ7 : gx_M) => gx_ck (gx_ix (((μ7.1 a0 3) * 3) + 2) (n0 * 3) = true) (gx_lt (gx_uI μ7 (a0 + 2) (((μ7.1 a0 3) * 3) + 2).toNatClampNeg p4) (fun (μ9 : gx_M) => gx_lt (gx_uI μ9 a0 3 ((μ9.1 a0 3) + 1)) (fun (μ10 : gx_M) => some ((), μ10)))))))))) else some ((), μ)
theorem ev_X2_append {E : gx_E} {l : Launch} (a0 : Nat) (n0 : Nat) (p1 : Int32) (p2 : Int32) (p3 : Int32) (p4 : Int32) (ha0 : gx_Ln a0 n0) (μ : gx_M) {r : Unit} {μ' : gx_M} (hr : f_X2_append a0 n0 p1 p2 p3 p4 μ = some (r, μ')) : gEv E l 0 Y_X2_append [.ref (E.2.2.1 + a0), .int p1, .int p2, .int p3, .int p4] gx_G1 μ (gx_eV r) gx_G1 μ' := by
  refine W_ev (by decide) (Nat.le_of_ble_eq_true rfl) (em := gx_eV) (T := f_X2_append a0 n0 p1 p2 p3 p4 μ) ?_ hr
  show GoW E l Y_X2_append 0 gx_eV 0 (gx_el [.ref (E.2.2.1 + a0), .int p1, .int p2, .int p3, .int p4]) [] μ (f_X2_append a0 n0 p1 p2 p3 p4 μ)
  unfold f_X2_append
  refine W_s (s_aload_n dX2_append_0 rfl rfl) ?_
  refine W_s (gfm_RX2_20 ha0 rfl dX2_append_1) ?_
  refine W_s (s_aload_n dX2_append_4 rfl rfl) ?_
  refine W_s (gfm_RX2_7 ha0 rfl dX2_append_5) ?_
  refine W_ite (fun h1 => ?_) (fun h1 => ?_)
  · refine W_s (s_icmp_lt_t dX2_append_8 rfl h1) ?_
    refine W_s (s_aload_n dX2_append_12 rfl rfl) ?_
    refine W_s (gfm_RX2_13 ha0 rfl dX2_append_13) ?_
    refine W_s (s_aload_n dX2_append_16 rfl rfl) ?_
    refine W_s (gfm_RX2_20 ha0 rfl dX2_append_17) ?_
    refine W_s (s_iload_n dX2_append_20 rfl rfl) ?_
    refine W_ck (fun h2 => ?_)
    refine W_s (s_iast dX2_append_21 (Ln_1 ha0) (gx_ixv h2)) ?_
    refine W_letM (fun μ3 => ?_)
    refine W_s (s_aload_n dX2_append_22 rfl rfl) ?_
    refine W_s (gfm_RX2_17 ha0 rfl dX2_append_23) ?_
    refine W_s (s_aload_n dX2_append_26 rfl rfl) ?_
    refine W_s (gfm_RX2_20 ha0 rfl dX2_append_27) ?_
    refine W_s (s_iconst dX2_append_30 kci_3) ?_
    refine W_s (s_imul dX2_append_31) ?_
    refine W_s (s_iload_n dX2_append_32 rfl rfl) ?_
    refine W_ck (fun h4 => ?_)
    refine W_s (s_iast dX2_append_33 (Ln_2 ha0) (gx_ixv h4)) ?_
    refine W_letM (fun μ5 => ?_)
    refine W_s (s_aload_n dX2_append_34 rfl rfl) ?_
    refine W_s (gfm_RX2_17 ha0 rfl dX2_append_35) ?_
    refine W_s (s_aload_n dX2_append_38 rfl rfl) ?_
    refine W_s (gfm_RX2_20 ha0 rfl dX2_append_39) ?_
    refine W_s (s_iconst dX2_append_42 kci_3) ?_
    refine W_s (s_imul dX2_append_43) ?_
    refine W_s (s_iconst dX2_append_44 kci_1) ?_
    refine W_s (s_iadd dX2_append_45) ?_
    refine W_s (s_iload_n dX2_append_46 rfl rfl) ?_
    refine W_ck (fun h6 => ?_)
    refine W_s (s_iast dX2_append_47 (Ln_2 ha0) (gx_ixv h6)) ?_
    refine W_letM (fun μ7 => ?_)
    refine W_s (s_aload_n dX2_append_48 rfl rfl) ?_
    refine W_s (gfm_RX2_17 ha0 rfl dX2_append_49) ?_
    refine W_s (s_aload_n dX2_append_52 rfl rfl) ?_
    refine W_s (gfm_RX2_20 ha0 rfl dX2_append_53) ?_
    refine W_s (s_iconst dX2_append_56 kci_3) ?_
    refine W_s (s_imul dX2_append_57) ?_
    refine W_s (s_iconst dX2_append_58 kci_2) ?_
    refine W_s (s_iadd dX2_append_59) ?_
    refine W_s (s_iload dX2_append_60 rfl) ?_
    refine W_ck (fun h8 => ?_)
    refine W_s (s_iast dX2_append_62 (Ln_2 ha0) (gx_ixv h8)) ?_
    refine W_letM (fun μ9 => ?_)
    refine W_s (s_aload_n dX2_append_63 rfl rfl) ?_
    refine W_s (s_dup dX2_append_64 rfl) ?_
    refine W_s (gfm_RX2_20 ha0 rfl dX2_append_65) ?_
    refine W_s (s_iconst dX2_append_68 kci_1) ?_
    refine W_s (s_iadd dX2_append_69) ?_
    refine W_s (pfm_RX2_20 ha0 rfl dX2_append_70) ?_
    refine W_letM (fun μ10 => ?_)
    exact W_r (r := ()) (f_void dX2_append_73 rfl)
  · refine W_s (s_icmp_lt_f dX2_append_8 rfl h1) ?_
    exact W_r (r := ()) (f_void dX2_append_11 rfl)

def f_X2_number (a0 : Nat) (n0 : Nat) (p1 : Int32) (p2 : Int32) (μ : gx_M) : Option Int32 := gx_ck (gx_ix ((p1 * 3) + p2) (n0 * 3) = true) (some (μ.1 (a0 + 2) ((p1 * 3) + p2).toNatClampNeg))
theorem ev_X2_number {E : gx_E} {l : Launch} (a0 : Nat) (n0 : Nat) (p1 : Int32) (p2 : Int32) (ha0 : gx_Ln a0 n0) (μ : gx_M) {r : Int32} (hr : f_X2_number a0 n0 p1 p2 μ = some r) : gEv E l 0 Y_X2_number [.ref (E.2.2.1 + a0), .int p1, .int p2] gx_G1 μ (gx_eI r) gx_G1 μ := by
  refine R_ev (by decide) (Nat.le_of_ble_eq_true rfl) (em := gx_eI) (T := f_X2_number a0 n0 p1 p2 μ) ?_ hr
  show GoR E l Y_X2_number 0 gx_eI 0 (gx_el [.ref (E.2.2.1 + a0), .int p1, .int p2]) [] μ (f_X2_number a0 n0 p1 p2 μ)
  unfold f_X2_number
  refine R_s (s_aload_n dX2_number_0 rfl rfl) ?_
  refine R_s (gfm_RX2_17 ha0 rfl dX2_number_1) ?_
  refine R_s (s_iload_n dX2_number_4 rfl rfl) ?_
  refine R_s (s_iconst dX2_number_5 kci_3) ?_
  refine R_s (s_imul dX2_number_6) ?_
  refine R_s (s_iload_n dX2_number_7 rfl rfl) ?_
  refine R_s (s_iadd dX2_number_8) ?_
  refine R_ck (fun h1 => ?_)
  refine R_s (s_iald dX2_number_9 (Ln_2 ha0) (gx_ixv h1)) ?_
  exact R_r (r := (μ.1 (a0 + 2) ((p1 * 3) + p2).toNatClampNeg)) (f_int (ty := .int) dX2_number_10 rfl rfl)

def f_X3_isFreeOf (p1 : Int32) (p2 : Int32) (μ : gx_M) : Option Bool := gx_ck (gx_ix p2 40 = true) (if (μ.1 66 p2.toNatClampNeg) = p1 then if (μ.1 71 p2.toNatClampNeg) = 0 then some true else some false else some false)
theorem ev_X3_isFreeOf {E : gx_E} {l : Launch} (p1 : Int32) (p2 : Int32) (μ : gx_M) {r : Bool} (hr : f_X3_isFreeOf p1 p2 μ = some r) : gEv E l 0 Y_X3_isFreeOf [.ref (E.2.2.1 + 62), .int p1, .int p2] gx_G1 μ (gx_eB r) gx_G1 μ := by
  refine R_ev (by decide) (Nat.le_of_ble_eq_true rfl) (em := gx_eB) (T := f_X3_isFreeOf p1 p2 μ) ?_ hr
  show GoR E l Y_X3_isFreeOf 0 gx_eB 0 (gx_el [.ref (E.2.2.1 + 62), .int p1, .int p2]) [] μ (f_X3_isFreeOf p1 p2 μ)
  unfold f_X3_isFreeOf
  refine R_s (s_aload_n dX3_isFreeOf_0 rfl rfl) ?_
  refine R_s (gf_RX3_12 rfl dX3_isFreeOf_1) ?_
  refine R_s (gfm_RX3_92 St_c_63 rfl dX3_isFreeOf_4) ?_
  refine R_s (s_iload_n dX3_isFreeOf_7 rfl rfl) ?_
  refine R_ck (fun h1 => ?_)
  refine R_s (s_iald dX3_isFreeOf_8 (St_3 St_c_63) (gx_ixv h1)) ?_
  refine R_s (s_iload_n dX3_isFreeOf_9 rfl rfl) ?_
  refine R_ite (fun h2 => ?_) (fun h2 => ?_)
  · refine R_s (s_icmp_ne_f dX3_isFreeOf_10 rfl h2) ?_
    refine R_s (s_aload_n dX3_isFreeOf_13 rfl rfl) ?_
    refine R_s (gf_RX3_18 rfl dX3_isFreeOf_14) ?_
    refine R_s (s_iload_n dX3_isFreeOf_17 rfl rfl) ?_
    refine R_s (s_zald dX3_isFreeOf_18 g_71 (gx_ixv h1)) ?_
    refine R_ite (fun h3 => ?_) (fun h3 => ?_)
    · refine R_s (s_if_ne_f dX3_isFreeOf_19 rfl h3) ?_
      refine R_s (s_iconst dX3_isFreeOf_22 kci_1) ?_
      refine R_s (s_goto dX3_isFreeOf_23 rfl) ?_
      exact R_r (r := true) (f_int (ty := .boolean) (x := gx_bi true) dX3_isFreeOf_27 rfl (gx_bn true))
    · refine R_s (s_if_ne_t dX3_isFreeOf_19 rfl h3) ?_
      refine R_s (s_iconst dX3_isFreeOf_26 kci_0) ?_
      exact R_r (r := false) (f_int (ty := .boolean) (x := gx_bi false) dX3_isFreeOf_27 rfl (gx_bn false))
  · refine R_s (s_icmp_ne_t dX3_isFreeOf_10 rfl h2) ?_
    refine R_s (s_iconst dX3_isFreeOf_26 kci_0) ?_
    exact R_r (r := false) (f_int (ty := .boolean) (x := gx_bi false) dX3_isFreeOf_27 rfl (gx_bn false))

def f_X3_moveTo (p1 : Int32) (p2 : Int32) (μ : gx_M) : Option (Unit × gx_M) := gx_ck (gx_ix p1 40 = true) (gx_lt (gx_uI μ 66 p1.toNatClampNeg p2) (fun (μ2 : gx_M) => gx_lt (gx_uI μ2 74 p1.toNatClampNeg ((μ2.1 74 p1.toNatClampNeg) + 1)) (fun (μ3 : gx_M) => some ((), μ3))))
theorem ev_X3_moveTo {E : gx_E} {l : Launch} (p1 : Int32) (p2 : Int32) (μ : gx_M) {r : Unit} {μ' : gx_M} (hr : f_X3_moveTo p1 p2 μ = some (r, μ')) : gEv E l 0 Y_X3_moveTo [.ref (E.2.2.1 + 62), .int p1, .int p2] gx_G1 μ (gx_eV r) gx_G1 μ' := by
  refine W_ev (by decide) (Nat.le_of_ble_eq_true rfl) (em := gx_eV) (T := f_X3_moveTo p1 p2 μ) ?_ hr
  show GoW E l Y_X3_moveTo 0 gx_eV 0 (gx_el [.ref (E.2.2.1 + 62), .int p1, .int p2]) [] μ (f_X3_moveTo p1 p2 μ)
  unfold f_X3_moveTo
  refine W_s (s_aload_n dX3_moveTo_0 rfl rfl) ?_
  refine W_s (gf_RX3_12 rfl dX3_moveTo_1) ?_
  refine W_s (gfm_RX3_92 St_c_63 rfl dX3_moveTo_4) ?_
  refine W_s (s_iload_n dX3_moveTo_7 rfl rfl) ?_
  refine W_s (s_iload_n dX3_moveTo_8 rfl rfl) ?_
  refine W_ck (fun h1 => ?_)
  refine W_s (s_iast dX3_moveTo_9 (St_3 St_c_63) (gx_ixv h1)) ?_
  refine W_letM (fun μ2 => ?_)
  refine W_s (s_aload_n dX3_moveTo_10 rfl rfl) ?_
  refine W_s (gf_RX3_29 rfl dX3_moveTo_11) ?_
  refine W_s (s_iload_n dX3_moveTo_14 rfl rfl) ?_
  refine W_s (s_dup2 dX3_moveTo_15 rfl rfl) ?_
  refine W_s (s_iald dX3_moveTo_16 g_74 (gx_ixv h1)) ?_
  refine W_s (s_iconst dX3_moveTo_17 kci_1) ?_
  refine W_s (s_iadd dX3_moveTo_18) ?_
  refine W_s (s_iast dX3_moveTo_19 g_74 (gx_ixv h1)) ?_
  refine W_letM (fun μ3 => ?_)
  exact W_r (r := ()) (f_void dX3_moveTo_20 rfl)

def f_X3_kindDrawn (p0 : Int32) : Int32 := if p0 = 3 then 9 else if p0 = 4 then 8 else if p0 = 5 then 7 else if p0 = 6 then 10 else if p0 = 7 then 11 else 6
theorem ev_X3_kindDrawn {E : gx_E} {l : Launch} (p0 : Int32) (μ : gx_M) : gEv E l 0 Y_X3_kindDrawn [.int p0] gx_G1 μ (gx_eI (f_X3_kindDrawn p0)) gx_G1 μ := by
  refine P_ev (by decide) (Nat.le_of_ble_eq_true rfl) (em := gx_eI) (T := f_X3_kindDrawn p0) ?_
  show GoP E l Y_X3_kindDrawn 0 gx_eI 0 (gx_el [.int p0]) [] μ (f_X3_kindDrawn p0)
  unfold f_X3_kindDrawn
  refine P_s (s_iload_n dX3_kindDrawn_0 rfl rfl) ?_
  refine P_ite (fun h1 => ?_) (fun h1 => ?_)
  · refine P_s (s_tsw_eq (c := 3) dX3_kindDrawn_1 h1 (by decide) (by decide) rfl rfl) ?_
    refine P_s (s_bipush dX3_kindDrawn_36 kcb_9) ?_
    exact P_r (r := 9) (f_int (ty := .int) dX3_kindDrawn_38 rfl rfl)
  · skip
    refine P_ite (fun h2 => ?_) (fun h2 => ?_)
    · refine P_s (s_tsw_eq (c := 4) dX3_kindDrawn_1 h2 (by decide) (by decide) rfl rfl) ?_
      refine P_s (s_bipush dX3_kindDrawn_39 kcb_8) ?_
      exact P_r (r := 8) (f_int (ty := .int) dX3_kindDrawn_41 rfl rfl)
    · skip
      refine P_ite (fun h3 => ?_) (fun h3 => ?_)
      · refine P_s (s_tsw_eq (c := 5) dX3_kindDrawn_1 h3 (by decide) (by decide) rfl rfl) ?_
        refine P_s (s_bipush dX3_kindDrawn_42 kcb_7) ?_
        exact P_r (r := 7) (f_int (ty := .int) dX3_kindDrawn_44 rfl rfl)
      · skip
        refine P_ite (fun h4 => ?_) (fun h4 => ?_)
        · refine P_s (s_tsw_eq (c := 6) dX3_kindDrawn_1 h4 (by decide) (by decide) rfl rfl) ?_
          refine P_s (s_bipush dX3_kindDrawn_45 kcb_10) ?_
          exact P_r (r := 10) (f_int (ty := .int) dX3_kindDrawn_47 rfl rfl)
        · skip
          refine P_ite (fun h5 => ?_) (fun h5 => ?_)
          · refine P_s (s_tsw_eq (c := 7) dX3_kindDrawn_1 h5 (by decide) (by decide) rfl rfl) ?_
            refine P_s (s_bipush dX3_kindDrawn_48 kcb_11) ?_
            exact P_r (r := 11) (f_int (ty := .int) dX3_kindDrawn_50 rfl rfl)
          · skip
            refine P_s (s_tsw_out dX3_kindDrawn_1 (gx_out_3_5 h1 h2 h3 h4 h5) rfl) ?_
            refine P_s (s_bipush dX3_kindDrawn_51 kcb_6) ?_
            exact P_r (r := 6) (f_int (ty := .int) dX3_kindDrawn_53 rfl rfl)

def f_X3_draw (p1 : Int32) (μ : gx_M) : Option (Int32 × gx_M) := gx_lt (gx_uI μ 62 6 (((μ.1 62 6) * 1103515245) + 12345)) (fun (μ1 : gx_M) => if p1 ≤ 0 then some (0, μ1) else gx_ck (¬ p1 = 0) (some ((((((μ1.1 62 6)).toUInt32 >>> ((16 : Int32).toUInt32 &&& Int32.toUInt32 31)).toInt32) - ((((μ1.1 62 6)).toUInt32 >>> ((16 : Int32).toUInt32 &&& Int32.toUInt32 31)).toInt32) / p1 * p1), μ1)))
theorem ev_X3_draw {E : gx_E} {l : Launch} (p1 : Int32) (μ : gx_M) {r : Int32} {μ' : gx_M} (hr : f_X3_draw p1 μ = some (r, μ')) : gEv E l 0 Y_X3_draw [.ref (E.2.2.1 + 62), .int p1] gx_G1 μ (gx_eI r) gx_G1 μ' := by
  refine W_ev (by decide) (Nat.le_of_ble_eq_true rfl) (em := gx_eI) (T := f_X3_draw p1 μ) ?_ hr
  show GoW E l Y_X3_draw 0 gx_eI 0 (gx_el [.ref (E.2.2.1 + 62), .int p1]) [] μ (f_X3_draw p1 μ)
  unfold f_X3_draw
  refine W_s (s_aload_n dX3_draw_0 rfl rfl) ?_
  refine W_s (s_aload_n dX3_draw_1 rfl rfl) ?_
  refine W_s (gf_RX3_131 rfl dX3_draw_2) ?_
  refine W_s (s_ldc dX3_draw_5 kw_RX3_153) ?_
  refine W_s (s_imul dX3_draw_7) ?_
  refine W_s (s_sipush dX3_draw_8 kcs_12345) ?_
  refine W_s (s_iadd dX3_draw_11) ?_
  refine W_s (pf_RX3_131 rfl dX3_draw_12) ?_
  refine W_letM (fun μ1 => ?_)
  refine W_s (s_iload_n dX3_draw_15 rfl rfl) ?_
  refine W_ite (fun h2 => ?_) (fun h2 => ?_)
  · refine W_s (s_if_le_t dX3_draw_16 rfl h2) ?_
    refine W_s (s_iconst dX3_draw_31 kci_0) ?_
    exact W_r (r := 0) (f_int (ty := .int) dX3_draw_32 rfl rfl)
  · refine W_s (s_if_le_f dX3_draw_16 rfl h2) ?_
    refine W_s (s_aload_n dX3_draw_19 rfl rfl) ?_
    refine W_s (gf_RX3_131 rfl dX3_draw_20) ?_
    refine W_s (s_bipush dX3_draw_23 kcb_16) ?_
    refine W_s (s_iushr dX3_draw_25) ?_
    refine W_s (s_iload_n dX3_draw_26 rfl rfl) ?_
    refine W_ck (fun h3 => ?_)
    refine W_s (s_irem dX3_draw_27 h3) ?_
    refine W_s (s_goto dX3_draw_28 rfl) ?_
    exact W_r (r := (((((μ1.1 62 6)).toUInt32 >>> ((16 : Int32).toUInt32 &&& Int32.toUInt32 31)).toInt32) - ((((μ1.1 62 6)).toUInt32 >>> ((16 : Int32).toUInt32 &&& Int32.toUInt32 31)).toInt32) / p1 * p1)) (f_int (ty := .int) dX3_draw_32 rfl rfl)

def L_X3_usedMinutes_4 (μ : gx_M) (k3 : Int32 → Option Int32) : Nat → Int32 → Int32 → Option Int32
  | 0, _, _ => none
  | n + 1, v1_1, v2_2 => if (μ.1 63 0) ≤ v2_2 then k3 v1_1 else gx_ck (gx_ix v2_2 40 = true) (gx_lt (fun (j0_8 : Int32) => L_X3_usedMinutes_4 μ k3 n j0_8 (v2_2 + 1)) (fun J6 => if (μ.1 71 v2_2.toNatClampNeg) = 0 then J6 v1_1 else J6 (v1_1 + 1)))
def f_X3_usedMinutes (μ : gx_M) : Option Int32 := L_X3_usedMinutes_4 μ (fun (x1_10 : Int32) => some x1_10) 4000 0 0
theorem okL_X3_usedMinutes_4 {E : gx_E} {l : Launch} {μ : gx_M} {k3 : Int32 → Option Int32} (hk : ∀ (w9 : Int32), GoR E l Y_X3_usedMinutes 0 gx_eI 33 [none, some (.int w9)] [] μ (k3 w9)) : ∀ (n : Nat) (v1_1 : Int32) (v2_2 : Int32), GoR E l Y_X3_usedMinutes 0 gx_eI 4 [some (.ref (E.2.2.1 + 62)), some (.int v1_1), some (.int v2_2)] [] μ (L_X3_usedMinutes_4 μ k3 n v1_1 v2_2) := by
  intro n
  induction n with
  | zero => intros; exact R_no
  | succ n ih =>
    intro v1_1 v2_2
    rw [L_X3_usedMinutes_4.eq_2]
    refine R_s (s_iload_n dX3_usedMinutes_4 rfl rfl) ?_
    refine R_s (s_aload_n dX3_usedMinutes_5 rfl rfl) ?_
    refine R_s (gf_RX3_12 rfl dX3_usedMinutes_6) ?_
    refine R_s (gfm_RX3_128 St_c_63 rfl dX3_usedMinutes_9) ?_
    refine R_ite (fun h4 => ?_) (fun h4 => ?_)
    · refine R_s (s_icmp_ge_t dX3_usedMinutes_12 rfl h4) ?_
      exact R_wk (hk v1_1) (le_o (le_s rfl le_n))
    · refine R_s (s_icmp_ge_f dX3_usedMinutes_12 rfl h4) ?_
      refine R_s (s_aload_n dX3_usedMinutes_15 rfl rfl) ?_
      refine R_s (gf_RX3_18 rfl dX3_usedMinutes_16) ?_
      refine R_s (s_iload_n dX3_usedMinutes_19 rfl rfl) ?_
      refine R_ck (fun h5 => ?_)
      refine R_s (s_zald dX3_usedMinutes_20 g_71 (gx_ixv h5)) ?_
      refine R_fun (fun J => ∀ (j0_8 : Int32), GoR E l Y_X3_usedMinutes 0 gx_eI 27 [some (.ref (E.2.2.1 + 62)), some (.int j0_8), some (.int v2_2)] [] μ (J j0_8)) ?_ (fun J6 hJ6 => ?_)
      · intro j0_8
        refine R_s (s_iinc dX3_usedMinutes_27 rfl (kinc_1 v2_2) (Nat.le_of_ble_eq_true rfl)) ?_
        refine R_s (s_goto dX3_usedMinutes_30 rfl) ?_
        exact R_wk (ih j0_8 (v2_2 + 1)) (le_s rfl (le_s rfl (le_s rfl le_n)))
      · skip
        refine R_ite (fun h7 => ?_) (fun h7 => ?_)
        · refine R_s (s_if_eq_t dX3_usedMinutes_21 rfl h7) ?_
          exact R_wk (hJ6 v1_1) (le_s rfl (le_s rfl (le_s rfl le_n)))
        · refine R_s (s_if_eq_f dX3_usedMinutes_21 rfl h7) ?_
          refine R_s (s_iinc dX3_usedMinutes_24 rfl (kinc_1 v1_1) (Nat.le_of_ble_eq_true rfl)) ?_
          exact R_wk (hJ6 (v1_1 + 1)) (le_s rfl (le_s rfl (le_s rfl le_n)))
theorem ev_X3_usedMinutes {E : gx_E} {l : Launch} (μ : gx_M) {r : Int32} (hr : f_X3_usedMinutes μ = some r) : gEv E l 0 Y_X3_usedMinutes [.ref (E.2.2.1 + 62)] gx_G1 μ (gx_eI r) gx_G1 μ := by
  refine R_ev (by decide) (Nat.le_of_ble_eq_true rfl) (em := gx_eI) (T := f_X3_usedMinutes μ) ?_ hr
  show GoR E l Y_X3_usedMinutes 0 gx_eI 0 (gx_el [.ref (E.2.2.1 + 62)]) [] μ (f_X3_usedMinutes μ)
  unfold f_X3_usedMinutes
  refine R_s (s_iconst dX3_usedMinutes_0 kci_0) ?_
  refine R_s (s_istore_n dX3_usedMinutes_1 rfl (Nat.le_of_ble_eq_true rfl)) ?_
  refine R_s (s_iconst dX3_usedMinutes_2 kci_0) ?_
  refine R_s (s_istore_n dX3_usedMinutes_3 rfl (Nat.le_of_ble_eq_true rfl)) ?_
  refine R_wk (okL_X3_usedMinutes_4 ?_ 4000 0 0) (le_s rfl (le_s rfl (le_s rfl le_n)))
  intro x1_10
  refine R_s (s_iload_n dX3_usedMinutes_33 rfl rfl) ?_
  exact R_r (r := x1_10) (f_int (ty := .int) dX3_usedMinutes_34 rfl rfl)

def L_X3_doneBusiness_4 (μ : gx_M) (k3 : Int32 → Option Int32) : Nat → Int32 → Int32 → Option Int32
  | 0, _, _ => none
  | n + 1, v1_1, v2_2 => if (μ.1 63 2) ≤ v2_2 then k3 v1_1 else gx_ck (gx_ix v2_2 6 = true) (gx_lt (fun (j0_8 : Int32) => L_X3_doneBusiness_4 μ k3 n j0_8 (v2_2 + 1)) (fun J6 => if (μ.1 72 v2_2.toNatClampNeg) = (-1) then J6 v1_1 else J6 (v1_1 + 1)))
def f_X3_doneBusiness (μ : gx_M) : Option Int32 := L_X3_doneBusiness_4 μ (fun (x1_10 : Int32) => some x1_10) 4000 0 0
theorem okL_X3_doneBusiness_4 {E : gx_E} {l : Launch} {μ : gx_M} {k3 : Int32 → Option Int32} (hk : ∀ (w9 : Int32), GoR E l Y_X3_doneBusiness 0 gx_eI 34 [none, some (.int w9)] [] μ (k3 w9)) : ∀ (n : Nat) (v1_1 : Int32) (v2_2 : Int32), GoR E l Y_X3_doneBusiness 0 gx_eI 4 [some (.ref (E.2.2.1 + 62)), some (.int v1_1), some (.int v2_2)] [] μ (L_X3_doneBusiness_4 μ k3 n v1_1 v2_2) := by
  intro n
  induction n with
  | zero => intros; exact R_no
  | succ n ih =>
    intro v1_1 v2_2
    rw [L_X3_doneBusiness_4.eq_2]
    refine R_s (s_iload_n dX3_doneBusiness_4 rfl rfl) ?_
    refine R_s (s_aload_n dX3_doneBusiness_5 rfl rfl) ?_
    refine R_s (gf_RX3_12 rfl dX3_doneBusiness_6) ?_
    refine R_s (gfm_RX3_150 St_c_63 rfl dX3_doneBusiness_9) ?_
    refine R_ite (fun h4 => ?_) (fun h4 => ?_)
    · refine R_s (s_icmp_ge_t dX3_doneBusiness_12 rfl h4) ?_
      exact R_wk (hk v1_1) (le_o (le_s rfl le_n))
    · refine R_s (s_icmp_ge_f dX3_doneBusiness_12 rfl h4) ?_
      refine R_s (s_aload_n dX3_doneBusiness_15 rfl rfl) ?_
      refine R_s (gf_RX3_22 rfl dX3_doneBusiness_16) ?_
      refine R_s (s_iload_n dX3_doneBusiness_19 rfl rfl) ?_
      refine R_ck (fun h5 => ?_)
      refine R_s (s_iald dX3_doneBusiness_20 g_72 (gx_ixv h5)) ?_
      refine R_s (s_iconst dX3_doneBusiness_21 kci_m1) ?_
      refine R_fun (fun J => ∀ (j0_8 : Int32), GoR E l Y_X3_doneBusiness 0 gx_eI 28 [some (.ref (E.2.2.1 + 62)), some (.int j0_8), some (.int v2_2)] [] μ (J j0_8)) ?_ (fun J6 hJ6 => ?_)
      · intro j0_8
        refine R_s (s_iinc dX3_doneBusiness_28 rfl (kinc_1 v2_2) (Nat.le_of_ble_eq_true rfl)) ?_
        refine R_s (s_goto dX3_doneBusiness_31 rfl) ?_
        exact R_wk (ih j0_8 (v2_2 + 1)) (le_s rfl (le_s rfl (le_s rfl le_n)))
      · skip
        refine R_ite (fun h7 => ?_) (fun h7 => ?_)
        · refine R_s (s_icmp_eq_t dX3_doneBusiness_22 rfl h7) ?_
          exact R_wk (hJ6 v1_1) (le_s rfl (le_s rfl (le_s rfl le_n)))
        · refine R_s (s_icmp_eq_f dX3_doneBusiness_22 rfl h7) ?_
          refine R_s (s_iinc dX3_doneBusiness_25 rfl (kinc_1 v1_1) (Nat.le_of_ble_eq_true rfl)) ?_
          exact R_wk (hJ6 (v1_1 + 1)) (le_s rfl (le_s rfl (le_s rfl le_n)))
theorem ev_X3_doneBusiness {E : gx_E} {l : Launch} (μ : gx_M) {r : Int32} (hr : f_X3_doneBusiness μ = some r) : gEv E l 0 Y_X3_doneBusiness [.ref (E.2.2.1 + 62)] gx_G1 μ (gx_eI r) gx_G1 μ := by
  refine R_ev (by decide) (Nat.le_of_ble_eq_true rfl) (em := gx_eI) (T := f_X3_doneBusiness μ) ?_ hr
  show GoR E l Y_X3_doneBusiness 0 gx_eI 0 (gx_el [.ref (E.2.2.1 + 62)]) [] μ (f_X3_doneBusiness μ)
  unfold f_X3_doneBusiness
  refine R_s (s_iconst dX3_doneBusiness_0 kci_0) ?_
  refine R_s (s_istore_n dX3_doneBusiness_1 rfl (Nat.le_of_ble_eq_true rfl)) ?_
  refine R_s (s_iconst dX3_doneBusiness_2 kci_0) ?_
  refine R_s (s_istore_n dX3_doneBusiness_3 rfl (Nat.le_of_ble_eq_true rfl)) ?_
  refine R_wk (okL_X3_doneBusiness_4 ?_ 4000 0 0) (le_s rfl (le_s rfl (le_s rfl le_n)))
  intro x1_10
  refine R_s (s_iload_n dX3_doneBusiness_34 rfl rfl) ?_
  exact R_r (r := x1_10) (f_int (ty := .int) dX3_doneBusiness_35 rfl rfl)

def L_X3_allCoins_4 (μ : gx_M) (k3 : Int32 → Option Int32) : Nat → Int32 → Int32 → Option Int32
  | 0, _, _ => none
  | n + 1, v1_1, v2_2 => if (μ.1 63 1) ≤ v2_2 then k3 v1_1 else gx_ck (gx_ix v2_2 4 = true) (gx_lt (v1_1 + (μ.1 64 v2_2.toNatClampNeg)) (fun (x6 : Int32) => L_X3_allCoins_4 μ k3 n x6 (v2_2 + 1)))
def f_X3_allCoins (μ : gx_M) : Option Int32 := L_X3_allCoins_4 μ (fun (x1_8 : Int32) => some x1_8) 4000 0 0
theorem okL_X3_allCoins_4 {E : gx_E} {l : Launch} {μ : gx_M} {k3 : Int32 → Option Int32} (hk : ∀ (w7 : Int32), GoR E l Y_X3_allCoins 0 gx_eI 33 [none, some (.int w7)] [] μ (k3 w7)) : ∀ (n : Nat) (v1_1 : Int32) (v2_2 : Int32), GoR E l Y_X3_allCoins 0 gx_eI 4 [some (.ref (E.2.2.1 + 62)), some (.int v1_1), some (.int v2_2)] [] μ (L_X3_allCoins_4 μ k3 n v1_1 v2_2) := by
  intro n
  induction n with
  | zero => intros; exact R_no
  | succ n ih =>
    intro v1_1 v2_2
    rw [L_X3_allCoins_4.eq_2]
    refine R_s (s_iload_n dX3_allCoins_4 rfl rfl) ?_
    refine R_s (s_aload_n dX3_allCoins_5 rfl rfl) ?_
    refine R_s (gf_RX3_12 rfl dX3_allCoins_6) ?_
    refine R_s (gfm_RX3_147 St_c_63 rfl dX3_allCoins_9) ?_
    refine R_ite (fun h4 => ?_) (fun h4 => ?_)
    · refine R_s (s_icmp_ge_t dX3_allCoins_12 rfl h4) ?_
      exact R_wk (hk v1_1) (le_o (le_s rfl le_n))
    · refine R_s (s_icmp_ge_f dX3_allCoins_12 rfl h4) ?_
      refine R_s (s_iload_n dX3_allCoins_15 rfl rfl) ?_
      refine R_s (s_aload_n dX3_allCoins_16 rfl rfl) ?_
      refine R_s (gf_RX3_12 rfl dX3_allCoins_17) ?_
      refine R_s (gfm_RX3_101 St_c_63 rfl dX3_allCoins_20) ?_
      refine R_s (s_iload_n dX3_allCoins_23 rfl rfl) ?_
      refine R_ck (fun h5 => ?_)
      refine R_s (s_iald dX3_allCoins_24 (St_1 St_c_63) (gx_ixv h5)) ?_
      refine R_s (s_iadd dX3_allCoins_25) ?_
      refine R_letI (fun x6 => ?_)
      refine R_s (s_istore_n dX3_allCoins_26 rfl (Nat.le_of_ble_eq_true rfl)) ?_
      refine R_s (s_iinc dX3_allCoins_27 rfl (kinc_1 v2_2) (Nat.le_of_ble_eq_true rfl)) ?_
      refine R_s (s_goto dX3_allCoins_30 rfl) ?_
      exact R_wk (ih x6 (v2_2 + 1)) (le_s rfl (le_s rfl (le_s rfl le_n)))
theorem ev_X3_allCoins {E : gx_E} {l : Launch} (μ : gx_M) {r : Int32} (hr : f_X3_allCoins μ = some r) : gEv E l 0 Y_X3_allCoins [.ref (E.2.2.1 + 62)] gx_G1 μ (gx_eI r) gx_G1 μ := by
  refine R_ev (by decide) (Nat.le_of_ble_eq_true rfl) (em := gx_eI) (T := f_X3_allCoins μ) ?_ hr
  show GoR E l Y_X3_allCoins 0 gx_eI 0 (gx_el [.ref (E.2.2.1 + 62)]) [] μ (f_X3_allCoins μ)
  unfold f_X3_allCoins
  refine R_s (s_iconst dX3_allCoins_0 kci_0) ?_
  refine R_s (s_istore_n dX3_allCoins_1 rfl (Nat.le_of_ble_eq_true rfl)) ?_
  refine R_s (s_iconst dX3_allCoins_2 kci_0) ?_
  refine R_s (s_istore_n dX3_allCoins_3 rfl (Nat.le_of_ble_eq_true rfl)) ?_
  refine R_wk (okL_X3_allCoins_4 ?_ 4000 0 0) (le_s rfl (le_s rfl (le_s rfl le_n)))
  intro x1_8
  refine R_s (s_iload_n dX3_allCoins_33 rfl rfl) ?_
  exact R_r (r := x1_8) (f_int (ty := .int) dX3_allCoins_34 rfl rfl)

def L_X3_richest_4 (μ : gx_M) (k3 : Int32 → Option Int32) : Nat → Int32 → Int32 → Option Int32
  | 0, _, _ => none
  | n + 1, v1_1, v2_2 => if (μ.1 63 1) ≤ v2_2 then k3 v1_1 else gx_ck (gx_ix v2_2 4 = true) (gx_ck (gx_ix v1_1 4 = true) (gx_lt (fun (j0_9 : Int32) => L_X3_richest_4 μ k3 n j0_9 (v2_2 + 1)) (fun J7 => if (μ.1 64 v2_2.toNatClampNeg) ≤ (μ.1 64 v1_1.toNatClampNeg) then J7 v1_1 else J7 v2_2)))
def f_X3_richest (μ : gx_M) : Option Int32 := L_X3_richest_4 μ (fun (x1_11 : Int32) => some x1_11) 4000 0 1
theorem okL_X3_richest_4 {E : gx_E} {l : Launch} {μ : gx_M} {k3 : Int32 → Option Int32} (hk : ∀ (w10 : Int32), GoR E l Y_X3_richest 0 gx_eI 44 [none, some (.int w10)] [] μ (k3 w10)) : ∀ (n : Nat) (v1_1 : Int32) (v2_2 : Int32), GoR E l Y_X3_richest 0 gx_eI 4 [some (.ref (E.2.2.1 + 62)), some (.int v1_1), some (.int v2_2)] [] μ (L_X3_richest_4 μ k3 n v1_1 v2_2) := by
  intro n
  induction n with
  | zero => intros; exact R_no
  | succ n ih =>
    intro v1_1 v2_2
    rw [L_X3_richest_4.eq_2]
    refine R_s (s_iload_n dX3_richest_4 rfl rfl) ?_
    refine R_s (s_aload_n dX3_richest_5 rfl rfl) ?_
    refine R_s (gf_RX3_12 rfl dX3_richest_6) ?_
    refine R_s (gfm_RX3_147 St_c_63 rfl dX3_richest_9) ?_
    refine R_ite (fun h4 => ?_) (fun h4 => ?_)
    · refine R_s (s_icmp_ge_t dX3_richest_12 rfl h4) ?_
      exact R_wk (hk v1_1) (le_o (le_s rfl le_n))
    · refine R_s (s_icmp_ge_f dX3_richest_12 rfl h4) ?_
      refine R_s (s_aload_n dX3_richest_15 rfl rfl) ?_
      refine R_s (gf_RX3_12 rfl dX3_richest_16) ?_
      refine R_s (gfm_RX3_101 St_c_63 rfl dX3_richest_19) ?_
      refine R_s (s_iload_n dX3_richest_22 rfl rfl) ?_
      refine R_ck (fun h5 => ?_)
      refine R_s (s_iald dX3_richest_23 (St_1 St_c_63) (gx_ixv h5)) ?_
      refine R_s (s_aload_n dX3_richest_24 rfl rfl) ?_
      refine R_s (gf_RX3_12 rfl dX3_richest_25) ?_
      refine R_s (gfm_RX3_101 St_c_63 rfl dX3_richest_28) ?_
      refine R_s (s_iload_n dX3_richest_31 rfl rfl) ?_
      refine R_ck (fun h6 => ?_)
      refine R_s (s_iald dX3_richest_32 (St_1 St_c_63) (gx_ixv h6)) ?_
      refine R_fun (fun J => ∀ (j0_9 : Int32), GoR E l Y_X3_richest 0 gx_eI 38 [some (.ref (E.2.2.1 + 62)), some (.int j0_9), some (.int v2_2)] [] μ (J j0_9)) ?_ (fun J7 hJ7 => ?_)
      · intro j0_9
        refine R_s (s_iinc dX3_richest_38 rfl (kinc_1 v2_2) (Nat.le_of_ble_eq_true rfl)) ?_
        refine R_s (s_goto dX3_richest_41 rfl) ?_
        exact R_wk (ih j0_9 (v2_2 + 1)) (le_s rfl (le_s rfl (le_s rfl le_n)))
      · skip
        refine R_ite (fun h8 => ?_) (fun h8 => ?_)
        · refine R_s (s_icmp_le_t dX3_richest_33 rfl h8) ?_
          exact R_wk (hJ7 v1_1) (le_s rfl (le_s rfl (le_s rfl le_n)))
        · refine R_s (s_icmp_le_f dX3_richest_33 rfl h8) ?_
          refine R_s (s_iload_n dX3_richest_36 rfl rfl) ?_
          refine R_s (s_istore_n dX3_richest_37 rfl (Nat.le_of_ble_eq_true rfl)) ?_
          exact R_wk (hJ7 v2_2) (le_s rfl (le_s rfl (le_s rfl le_n)))
theorem ev_X3_richest {E : gx_E} {l : Launch} (μ : gx_M) {r : Int32} (hr : f_X3_richest μ = some r) : gEv E l 0 Y_X3_richest [.ref (E.2.2.1 + 62)] gx_G1 μ (gx_eI r) gx_G1 μ := by
  refine R_ev (by decide) (Nat.le_of_ble_eq_true rfl) (em := gx_eI) (T := f_X3_richest μ) ?_ hr
  show GoR E l Y_X3_richest 0 gx_eI 0 (gx_el [.ref (E.2.2.1 + 62)]) [] μ (f_X3_richest μ)
  unfold f_X3_richest
  refine R_s (s_iconst dX3_richest_0 kci_0) ?_
  refine R_s (s_istore_n dX3_richest_1 rfl (Nat.le_of_ble_eq_true rfl)) ?_
  refine R_s (s_iconst dX3_richest_2 kci_1) ?_
  refine R_s (s_istore_n dX3_richest_3 rfl (Nat.le_of_ble_eq_true rfl)) ?_
  refine R_wk (okL_X3_richest_4 ?_ 4000 0 1) (le_s rfl (le_s rfl (le_s rfl le_n)))
  intro x1_11
  refine R_s (s_iload_n dX3_richest_44 rfl rfl) ?_
  exact R_r (r := x1_11) (f_int (ty := .int) dX3_richest_45 rfl rfl)

def L_X3_victim_6 (μ : gx_M) (k4 : Int32 → Option Int32) : Nat → Int32 → Int32 → Int32 → Option Int32
  | 0, _, _, _ => none
  | n + 1, v1_1, v2_2, v3_3 => if (μ.1 63 1) ≤ v3_3 then k4 v1_1 else gx_ck (gx_ix v3_3 4 = true) (gx_lt (fun (j0_10 : Int32) (j1_11 : Int32) => L_X3_victim_6 μ k4 n j0_10 j1_11 (v3_3 + 1)) (fun J7 => if (μ.1 73 v3_3.toNatClampNeg) ≤ v2_2 then J7 v1_1 v2_2 else gx_lt (μ.1 73 v3_3.toNatClampNeg) (fun (x9 : Int32) => J7 v3_3 x9)))
def f_X3_victim (μ : gx_M) : Option Int32 := L_X3_victim_6 μ (fun (x1_13 : Int32) => some x1_13) 4000 (-1) 0 0
theorem okL_X3_victim_6 {E : gx_E} {l : Launch} {μ : gx_M} {k4 : Int32 → Option Int32} (hk : ∀ (w12 : Int32), GoR E l Y_X3_victim 0 gx_eI 42 [none, some (.int w12)] [] μ (k4 w12)) : ∀ (n : Nat) (v1_1 : Int32) (v2_2 : Int32) (v3_3 : Int32), GoR E l Y_X3_victim 0 gx_eI 6 [some (.ref (E.2.2.1 + 62)), some (.int v1_1), some (.int v2_2), some (.int v3_3)] [] μ (L_X3_victim_6 μ k4 n v1_1 v2_2 v3_3) := by
  intro n
  induction n with
  | zero => intros; exact R_no
  | succ n ih =>
    intro v1_1 v2_2 v3_3
    rw [L_X3_victim_6.eq_2]
    refine R_s (s_iload_n dX3_victim_6 rfl rfl) ?_
    refine R_s (s_aload_n dX3_victim_7 rfl rfl) ?_
    refine R_s (gf_RX3_12 rfl dX3_victim_8) ?_
    refine R_s (gfm_RX3_147 St_c_63 rfl dX3_victim_11) ?_
    refine R_ite (fun h5 => ?_) (fun h5 => ?_)
    · refine R_s (s_icmp_ge_t dX3_victim_14 rfl h5) ?_
      exact R_wk (hk v1_1) (le_o (le_s rfl le_n))
    · refine R_s (s_icmp_ge_f dX3_victim_14 rfl h5) ?_
      refine R_s (s_aload_n dX3_victim_17 rfl rfl) ?_
      refine R_s (gf_RX3_26 rfl dX3_victim_18) ?_
      refine R_s (s_iload_n dX3_victim_21 rfl rfl) ?_
      refine R_ck (fun h6 => ?_)
      refine R_s (s_iald dX3_victim_22 g_73 (gx_ixv h6)) ?_
      refine R_s (s_iload_n dX3_victim_23 rfl rfl) ?_
      refine R_fun (fun J => ∀ (j0_10 : Int32) (j1_11 : Int32), GoR E l Y_X3_victim 0 gx_eI 36 [some (.ref (E.2.2.1 + 62)), some (.int j0_10), some (.int j1_11), some (.int v3_3)] [] μ (J j0_10 j1_11)) ?_ (fun J7 hJ7 => ?_)
      · intro j0_10 j1_11
        refine R_s (s_iinc dX3_victim_36 rfl (kinc_1 v3_3) (Nat.le_of_ble_eq_true rfl)) ?_
        refine R_s (s_goto dX3_victim_39 rfl) ?_
        exact R_wk (ih j0_10 j1_11 (v3_3 + 1)) (le_s rfl (le_s rfl (le_s rfl (le_s rfl le_n))))
      · skip
        refine R_ite (fun h8 => ?_) (fun h8 => ?_)
        · refine R_s (s_icmp_le_t dX3_victim_24 rfl h8) ?_
          exact R_wk (hJ7 v1_1 v2_2) (le_s rfl (le_s rfl (le_s rfl (le_s rfl le_n))))
        · refine R_s (s_icmp_le_f dX3_victim_24 rfl h8) ?_
          refine R_s (s_aload_n dX3_victim_27 rfl rfl) ?_
          refine R_s (gf_RX3_26 rfl dX3_victim_28) ?_
          refine R_s (s_iload_n dX3_victim_31 rfl rfl) ?_
          refine R_s (s_iald dX3_victim_32 g_73 (gx_ixv h6)) ?_
          refine R_letI (fun x9 => ?_)
          refine R_s (s_istore_n dX3_victim_33 rfl (Nat.le_of_ble_eq_true rfl)) ?_
          refine R_s (s_iload_n dX3_victim_34 rfl rfl) ?_
          refine R_s (s_istore_n dX3_victim_35 rfl (Nat.le_of_ble_eq_true rfl)) ?_
          exact R_wk (hJ7 v3_3 x9) (le_s rfl (le_s rfl (le_s rfl (le_s rfl le_n))))
theorem ev_X3_victim {E : gx_E} {l : Launch} (μ : gx_M) {r : Int32} (hr : f_X3_victim μ = some r) : gEv E l 0 Y_X3_victim [.ref (E.2.2.1 + 62)] gx_G1 μ (gx_eI r) gx_G1 μ := by
  refine R_ev (by decide) (Nat.le_of_ble_eq_true rfl) (em := gx_eI) (T := f_X3_victim μ) ?_ hr
  show GoR E l Y_X3_victim 0 gx_eI 0 (gx_el [.ref (E.2.2.1 + 62)]) [] μ (f_X3_victim μ)
  unfold f_X3_victim
  refine R_s (s_iconst dX3_victim_0 kci_m1) ?_
  refine R_s (s_istore_n dX3_victim_1 rfl (Nat.le_of_ble_eq_true rfl)) ?_
  refine R_s (s_iconst dX3_victim_2 kci_0) ?_
  refine R_s (s_istore_n dX3_victim_3 rfl (Nat.le_of_ble_eq_true rfl)) ?_
  refine R_s (s_iconst dX3_victim_4 kci_0) ?_
  refine R_s (s_istore_n dX3_victim_5 rfl (Nat.le_of_ble_eq_true rfl)) ?_
  refine R_wk (okL_X3_victim_6 ?_ 4000 (-1) 0 0) (le_s rfl (le_s rfl (le_s rfl (le_s rfl le_n))))
  intro x1_13
  refine R_s (s_iload_n dX3_victim_42 rfl rfl) ?_
  exact R_r (r := x1_13) (f_int (ty := .int) dX3_victim_43 rfl rfl)

def L_X3_restless_6 (μ : gx_M) (k4 : Int32 → Option Int32) : Nat → Int32 → Int32 → Int32 → Option Int32
  | 0, _, _, _ => none
  | n + 1, v1_1, v2_2, v3_3 => if (μ.1 63 0) ≤ v3_3 then k4 v1_1 else gx_ck (gx_ix v3_3 40 = true) (gx_lt (fun (j0_10 : Int32) (j1_11 : Int32) => L_X3_restless_6 μ k4 n j0_10 j1_11 (v3_3 + 1)) (fun J7 => if (μ.1 74 v3_3.toNatClampNeg) ≤ v2_2 then J7 v1_1 v2_2 else gx_lt (μ.1 74 v3_3.toNatClampNeg) (fun (x9 : Int32) => J7 v3_3 x9)))
def f_X3_restless (μ : gx_M) : Option Int32 := L_X3_restless_6 μ (fun (x1_13 : Int32) => some x1_13) 4000 (-1) 0 0
theorem okL_X3_restless_6 {E : gx_E} {l : Launch} {μ : gx_M} {k4 : Int32 → Option Int32} (hk : ∀ (w12 : Int32), GoR E l Y_X3_restless 0 gx_eI 42 [none, some (.int w12)] [] μ (k4 w12)) : ∀ (n : Nat) (v1_1 : Int32) (v2_2 : Int32) (v3_3 : Int32), GoR E l Y_X3_restless 0 gx_eI 6 [some (.ref (E.2.2.1 + 62)), some (.int v1_1), some (.int v2_2), some (.int v3_3)] [] μ (L_X3_restless_6 μ k4 n v1_1 v2_2 v3_3) := by
  intro n
  induction n with
  | zero => intros; exact R_no
  | succ n ih =>
    intro v1_1 v2_2 v3_3
    rw [L_X3_restless_6.eq_2]
    refine R_s (s_iload_n dX3_restless_6 rfl rfl) ?_
    refine R_s (s_aload_n dX3_restless_7 rfl rfl) ?_
    refine R_s (gf_RX3_12 rfl dX3_restless_8) ?_
    refine R_s (gfm_RX3_128 St_c_63 rfl dX3_restless_11) ?_
    refine R_ite (fun h5 => ?_) (fun h5 => ?_)
    · refine R_s (s_icmp_ge_t dX3_restless_14 rfl h5) ?_
      exact R_wk (hk v1_1) (le_o (le_s rfl le_n))
    · refine R_s (s_icmp_ge_f dX3_restless_14 rfl h5) ?_
      refine R_s (s_aload_n dX3_restless_17 rfl rfl) ?_
      refine R_s (gf_RX3_29 rfl dX3_restless_18) ?_
      refine R_s (s_iload_n dX3_restless_21 rfl rfl) ?_
      refine R_ck (fun h6 => ?_)
      refine R_s (s_iald dX3_restless_22 g_74 (gx_ixv h6)) ?_
      refine R_s (s_iload_n dX3_restless_23 rfl rfl) ?_
      refine R_fun (fun J => ∀ (j0_10 : Int32) (j1_11 : Int32), GoR E l Y_X3_restless 0 gx_eI 36 [some (.ref (E.2.2.1 + 62)), some (.int j0_10), some (.int j1_11), some (.int v3_3)] [] μ (J j0_10 j1_11)) ?_ (fun J7 hJ7 => ?_)
      · intro j0_10 j1_11
        refine R_s (s_iinc dX3_restless_36 rfl (kinc_1 v3_3) (Nat.le_of_ble_eq_true rfl)) ?_
        refine R_s (s_goto dX3_restless_39 rfl) ?_
        exact R_wk (ih j0_10 j1_11 (v3_3 + 1)) (le_s rfl (le_s rfl (le_s rfl (le_s rfl le_n))))
      · skip
        refine R_ite (fun h8 => ?_) (fun h8 => ?_)
        · refine R_s (s_icmp_le_t dX3_restless_24 rfl h8) ?_
          exact R_wk (hJ7 v1_1 v2_2) (le_s rfl (le_s rfl (le_s rfl (le_s rfl le_n))))
        · refine R_s (s_icmp_le_f dX3_restless_24 rfl h8) ?_
          refine R_s (s_aload_n dX3_restless_27 rfl rfl) ?_
          refine R_s (gf_RX3_29 rfl dX3_restless_28) ?_
          refine R_s (s_iload_n dX3_restless_31 rfl rfl) ?_
          refine R_s (s_iald dX3_restless_32 g_74 (gx_ixv h6)) ?_
          refine R_letI (fun x9 => ?_)
          refine R_s (s_istore_n dX3_restless_33 rfl (Nat.le_of_ble_eq_true rfl)) ?_
          refine R_s (s_iload_n dX3_restless_34 rfl rfl) ?_
          refine R_s (s_istore_n dX3_restless_35 rfl (Nat.le_of_ble_eq_true rfl)) ?_
          exact R_wk (hJ7 v3_3 x9) (le_s rfl (le_s rfl (le_s rfl (le_s rfl le_n))))
theorem ev_X3_restless {E : gx_E} {l : Launch} (μ : gx_M) {r : Int32} (hr : f_X3_restless μ = some r) : gEv E l 0 Y_X3_restless [.ref (E.2.2.1 + 62)] gx_G1 μ (gx_eI r) gx_G1 μ := by
  refine R_ev (by decide) (Nat.le_of_ble_eq_true rfl) (em := gx_eI) (T := f_X3_restless μ) ?_ hr
  show GoR E l Y_X3_restless 0 gx_eI 0 (gx_el [.ref (E.2.2.1 + 62)]) [] μ (f_X3_restless μ)
  unfold f_X3_restless
  refine R_s (s_iconst dX3_restless_0 kci_m1) ?_
  refine R_s (s_istore_n dX3_restless_1 rfl (Nat.le_of_ble_eq_true rfl)) ?_
  refine R_s (s_iconst dX3_restless_2 kci_0) ?_
  refine R_s (s_istore_n dX3_restless_3 rfl (Nat.le_of_ble_eq_true rfl)) ?_
  refine R_s (s_iconst dX3_restless_4 kci_0) ?_
  refine R_s (s_istore_n dX3_restless_5 rfl (Nat.le_of_ble_eq_true rfl)) ?_
  refine R_wk (okL_X3_restless_6 ?_ 4000 (-1) 0 0) (le_s rfl (le_s rfl (le_s rfl (le_s rfl le_n))))
  intro x1_13
  refine R_s (s_iload_n dX3_restless_42 rfl rfl) ?_
  exact R_r (r := x1_13) (f_int (ty := .int) dX3_restless_43 rfl rfl)

def f_X4_tellsOfMissing (p1 : Int32) (μ : gx_M) : Bool := if p1 = 0 then if (μ.1 45 0) ≤ (μ.1 42 9) then true else if (μ.1 42 10) < (μ.1 45 1) then false else true else if p1 = 3 then if (μ.1 42 10) < (μ.1 59 0) then false else true else false
theorem ev_X4_tellsOfMissing {E : gx_E} {l : Launch} (p1 : Int32) (μ : gx_M) : gEv E l 0 Y_X4_tellsOfMissing [.ref (E.2.2.1 + 42), .int p1] gx_G1 μ (gx_eB (f_X4_tellsOfMissing p1 μ)) gx_G1 μ := by
  refine P_ev (by decide) (Nat.le_of_ble_eq_true rfl) (em := gx_eB) (T := f_X4_tellsOfMissing p1 μ) ?_
  show GoP E l Y_X4_tellsOfMissing 0 gx_eB 0 (gx_el [.ref (E.2.2.1 + 42), .int p1]) [] μ (f_X4_tellsOfMissing p1 μ)
  unfold f_X4_tellsOfMissing
  refine P_s (s_iload_n dX4_tellsOfMissing_0 rfl rfl) ?_
  refine P_ite (fun h1 => ?_) (fun h1 => ?_)
  · refine P_s (s_if_ne_f dX4_tellsOfMissing_1 rfl h1) ?_
    refine P_s (s_aload_n dX4_tellsOfMissing_4 rfl rfl) ?_
    refine P_s (gf_RX4_84 rfl dX4_tellsOfMissing_5) ?_
    refine P_s (s_aload_n dX4_tellsOfMissing_8 rfl rfl) ?_
    refine P_s (gf_RX4_21 rfl dX4_tellsOfMissing_9) ?_
    refine P_s (gfm_RX4_90 St_c_45 rfl dX4_tellsOfMissing_12) ?_
    refine P_ite (fun h4 => ?_) (fun h4 => ?_)
    · refine P_s (s_icmp_ge_t dX4_tellsOfMissing_15 rfl h4) ?_
      refine P_s (s_iconst dX4_tellsOfMissing_32 kci_1) ?_
      refine P_s (s_goto dX4_tellsOfMissing_33 rfl) ?_
      exact P_r (r := true) (f_int (ty := .boolean) (x := gx_bi true) dX4_tellsOfMissing_37 rfl (gx_bn true))
    · refine P_s (s_icmp_ge_f dX4_tellsOfMissing_15 rfl h4) ?_
      refine P_s (s_aload_n dX4_tellsOfMissing_18 rfl rfl) ?_
      refine P_s (gf_RX4_87 rfl dX4_tellsOfMissing_19) ?_
      refine P_s (s_aload_n dX4_tellsOfMissing_22 rfl rfl) ?_
      refine P_s (gf_RX4_21 rfl dX4_tellsOfMissing_23) ?_
      refine P_s (gfm_RX4_93 St_c_45 rfl dX4_tellsOfMissing_26) ?_
      refine P_ite (fun h5 => ?_) (fun h5 => ?_)
      · refine P_s (s_icmp_lt_t dX4_tellsOfMissing_29 rfl h5) ?_
        refine P_s (s_iconst dX4_tellsOfMissing_36 kci_0) ?_
        exact P_r (r := false) (f_int (ty := .boolean) (x := gx_bi false) dX4_tellsOfMissing_37 rfl (gx_bn false))
      · refine P_s (s_icmp_lt_f dX4_tellsOfMissing_29 rfl h5) ?_
        refine P_s (s_iconst dX4_tellsOfMissing_32 kci_1) ?_
        refine P_s (s_goto dX4_tellsOfMissing_33 rfl) ?_
        exact P_r (r := true) (f_int (ty := .boolean) (x := gx_bi true) dX4_tellsOfMissing_37 rfl (gx_bn true))
  · refine P_s (s_if_ne_t dX4_tellsOfMissing_1 rfl h1) ?_
    refine P_s (s_iload_n dX4_tellsOfMissing_38 rfl rfl) ?_
    refine P_s (s_iconst dX4_tellsOfMissing_39 kci_3) ?_
    refine P_ite (fun h2 => ?_) (fun h2 => ?_)
    · refine P_s (s_icmp_ne_f dX4_tellsOfMissing_40 rfl h2) ?_
      refine P_s (s_aload_n dX4_tellsOfMissing_43 rfl rfl) ?_
      refine P_s (gf_RX4_87 rfl dX4_tellsOfMissing_44) ?_
      refine P_s (s_aload_n dX4_tellsOfMissing_47 rfl rfl) ?_
      refine P_s (gf_RX4_40 rfl dX4_tellsOfMissing_48) ?_
      refine P_s (gfm_RX4_96 Sw_c_59 rfl dX4_tellsOfMissing_51) ?_
      refine P_ite (fun h3 => ?_) (fun h3 => ?_)
      · refine P_s (s_icmp_lt_t dX4_tellsOfMissing_54 rfl h3) ?_
        refine P_s (s_iconst dX4_tellsOfMissing_61 kci_0) ?_
        exact P_r (r := false) (f_int (ty := .boolean) (x := gx_bi false) dX4_tellsOfMissing_62 rfl (gx_bn false))
      · refine P_s (s_icmp_lt_f dX4_tellsOfMissing_54 rfl h3) ?_
        refine P_s (s_iconst dX4_tellsOfMissing_57 kci_1) ?_
        refine P_s (s_goto dX4_tellsOfMissing_58 rfl) ?_
        exact P_r (r := true) (f_int (ty := .boolean) (x := gx_bi true) dX4_tellsOfMissing_62 rfl (gx_bn true))
    · refine P_s (s_icmp_ne_t dX4_tellsOfMissing_40 rfl h2) ?_
      refine P_s (s_iconst dX4_tellsOfMissing_61 kci_0) ?_
      exact P_r (r := false) (f_int (ty := .boolean) (x := gx_bi false) dX4_tellsOfMissing_62 rfl (gx_bn false))

def f_X4_note (p1 : Int32) (p2 : Int32) (μ : gx_M) : Option (Unit × gx_M) := if (μ.1 42 6) = 0 then gx_lt (gx_uI μ 42 6 p1) (fun (μ2 : gx_M) => gx_lt (gx_uI μ2 42 7 p2) (fun (μ3 : gx_M) => some ((), μ3))) else some ((), μ)
theorem ev_X4_note {E : gx_E} {l : Launch} (p1 : Int32) (p2 : Int32) (μ : gx_M) {r : Unit} {μ' : gx_M} (hr : f_X4_note p1 p2 μ = some (r, μ')) : gEv E l 0 Y_X4_note [.ref (E.2.2.1 + 42), .int p1, .int p2] gx_G1 μ (gx_eV r) gx_G1 μ' := by
  refine W_ev (by decide) (Nat.le_of_ble_eq_true rfl) (em := gx_eV) (T := f_X4_note p1 p2 μ) ?_ hr
  show GoW E l Y_X4_note 0 gx_eV 0 (gx_el [.ref (E.2.2.1 + 42), .int p1, .int p2]) [] μ (f_X4_note p1 p2 μ)
  unfold f_X4_note
  refine W_s (s_aload_n dX4_note_0 rfl rfl) ?_
  refine W_s (gf_RX4_59 rfl dX4_note_1) ?_
  refine W_ite (fun h1 => ?_) (fun h1 => ?_)
  · refine W_s (s_if_ne_f dX4_note_4 rfl h1) ?_
    refine W_s (s_aload_n dX4_note_7 rfl rfl) ?_
    refine W_s (s_iload_n dX4_note_8 rfl rfl) ?_
    refine W_s (pf_RX4_59 rfl dX4_note_9) ?_
    refine W_letM (fun μ2 => ?_)
    refine W_s (s_aload_n dX4_note_12 rfl rfl) ?_
    refine W_s (s_iload_n dX4_note_13 rfl rfl) ?_
    refine W_s (pf_RX4_78 rfl dX4_note_14) ?_
    refine W_letM (fun μ3 => ?_)
    exact W_r (r := ()) (f_void dX4_note_17 rfl)
  · refine W_s (s_if_ne_t dX4_note_4 rfl h1) ?_
    exact W_r (r := ()) (f_void dX4_note_17 rfl)

def f_X4_stopReading (μ : gx_M) : Option (Bool × gx_M) := gx_lt (gx_uI μ 42 6 1) (fun (μ1 : gx_M) => gx_lt (gx_uI μ1 42 7 (μ1.1 43 4)) (fun (μ2 : gx_M) => some (false, μ2)))
theorem ev_X4_stopReading {E : gx_E} {l : Launch} (μ : gx_M) {r : Bool} {μ' : gx_M} (hr : f_X4_stopReading μ = some (r, μ')) : gEv E l 0 Y_X4_stopReading [.ref (E.2.2.1 + 42)] gx_G1 μ (gx_eB r) gx_G1 μ' := by
  refine W_ev (by decide) (Nat.le_of_ble_eq_true rfl) (em := gx_eB) (T := f_X4_stopReading μ) ?_ hr
  show GoW E l Y_X4_stopReading 0 gx_eB 0 (gx_el [.ref (E.2.2.1 + 42)]) [] μ (f_X4_stopReading μ)
  unfold f_X4_stopReading
  refine W_s (s_aload_n dX4_stopReading_0 rfl rfl) ?_
  refine W_s (s_iconst dX4_stopReading_1 kci_1) ?_
  refine W_s (pf_RX4_59 rfl dX4_stopReading_2) ?_
  refine W_letM (fun μ1 => ?_)
  refine W_s (s_aload_n dX4_stopReading_5 rfl rfl) ?_
  refine W_s (s_aload_n dX4_stopReading_6 rfl rfl) ?_
  refine W_s (gf_RX4_12 rfl dX4_stopReading_7) ?_
  refine W_s (gf_RX4_99 rfl dX4_stopReading_10) ?_
  refine W_s (pf_RX4_78 rfl dX4_stopReading_13) ?_
  refine W_letM (fun μ2 => ?_)
  refine W_s (s_iconst dX4_stopReading_16 kci_0) ?_
  exact W_r (r := false) (f_int (ty := .boolean) (x := gx_bi false) dX4_stopReading_17 rfl (gx_bn false))

def f_X4_wordOf (p0 : Int32) : Nat := if p0 = 0 then 0 else if p0 = 1 then 1 else if p0 = 2 then 2 else if p0 = 3 then 3 else if p0 = 4 then 4 else if p0 = 5 then 5 else if p0 = 6 then 6 else if p0 = 7 then 7 else if p0 = 8 then 8 else if p0 = 9 then 9 else if p0 = 10 then 10 else if p0 = 11 then 11 else if p0 = 12 then 12 else if p0 = 13 then 13 else if p0 = 14 then 14 else if p0 = 15 then 15 else 16
theorem X4_wordOf_lt (p0 : Int32) : f_X4_wordOf p0 < 28 := by
  unfold f_X4_wordOf
  repeat (refine gx_il (by decide) ?_)
  decide
theorem ev_X4_wordOf {E : gx_E} {l : Launch} {fk : Nat} {uq : Option Nat} {adK adV : Nat → Nat} (hE : gx_EX E fk uq adK adV) (p0 : Int32) (μ : gx_M) : gEv E l 0 Y_X4_wordOf [.int p0] gx_G1 μ ((gx_eS adK) (f_X4_wordOf p0)) gx_G1 μ := by
  refine P_ev (by decide) (Nat.le_of_ble_eq_true rfl) (em := (gx_eS adK)) (T := f_X4_wordOf p0) ?_
  show GoP E l Y_X4_wordOf 0 (gx_eS adK) 0 (gx_el [.int p0]) [] μ (f_X4_wordOf p0)
  unfold f_X4_wordOf
  refine P_s (s_iload_n dX4_wordOf_0 rfl rfl) ?_
  refine P_ite (fun h1 => ?_) (fun h1 => ?_)
  · refine P_s (s_tsw_eq (c := 0) dX4_wordOf_1 h1 (by decide) (by decide) rfl rfl) ?_
    refine P_s (sk_0 hE rfl dX4_wordOf_80) ?_
    exact P_r (r := 0) (f_ref (rt := .object "java/lang/String") dX4_wordOf_82 rfl (Or.inl ⟨_, rfl⟩))
  · skip
    refine P_ite (fun h2 => ?_) (fun h2 => ?_)
    · refine P_s (s_tsw_eq (c := 1) dX4_wordOf_1 h2 (by decide) (by decide) rfl rfl) ?_
      refine P_s (sk_1 hE rfl dX4_wordOf_83) ?_
      exact P_r (r := 1) (f_ref (rt := .object "java/lang/String") dX4_wordOf_85 rfl (Or.inl ⟨_, rfl⟩))
    · skip
      refine P_ite (fun h3 => ?_) (fun h3 => ?_)
      · refine P_s (s_tsw_eq (c := 2) dX4_wordOf_1 h3 (by decide) (by decide) rfl rfl) ?_
        refine P_s (sk_2 hE rfl dX4_wordOf_86) ?_
        exact P_r (r := 2) (f_ref (rt := .object "java/lang/String") dX4_wordOf_88 rfl (Or.inl ⟨_, rfl⟩))
      · skip
        refine P_ite (fun h4 => ?_) (fun h4 => ?_)
        · refine P_s (s_tsw_eq (c := 3) dX4_wordOf_1 h4 (by decide) (by decide) rfl rfl) ?_
          refine P_s (sk_3 hE rfl dX4_wordOf_89) ?_
          exact P_r (r := 3) (f_ref (rt := .object "java/lang/String") dX4_wordOf_91 rfl (Or.inl ⟨_, rfl⟩))
        · skip
          refine P_ite (fun h5 => ?_) (fun h5 => ?_)
          · refine P_s (s_tsw_eq (c := 4) dX4_wordOf_1 h5 (by decide) (by decide) rfl rfl) ?_
            refine P_s (sk_4 hE rfl dX4_wordOf_92) ?_
            exact P_r (r := 4) (f_ref (rt := .object "java/lang/String") dX4_wordOf_94 rfl (Or.inl ⟨_, rfl⟩))
          · skip
            refine P_ite (fun h6 => ?_) (fun h6 => ?_)
            · refine P_s (s_tsw_eq (c := 5) dX4_wordOf_1 h6 (by decide) (by decide) rfl rfl) ?_
              refine P_s (sk_5 hE rfl dX4_wordOf_95) ?_
              exact P_r (r := 5) (f_ref (rt := .object "java/lang/String") dX4_wordOf_97 rfl (Or.inl ⟨_, rfl⟩))
            · skip
              refine P_ite (fun h7 => ?_) (fun h7 => ?_)
              · refine P_s (s_tsw_eq (c := 6) dX4_wordOf_1 h7 (by decide) (by decide) rfl rfl) ?_
                refine P_s (sk_6 hE rfl dX4_wordOf_98) ?_
                exact P_r (r := 6) (f_ref (rt := .object "java/lang/String") dX4_wordOf_100 rfl (Or.inl ⟨_, rfl⟩))
              · skip
                refine P_ite (fun h8 => ?_) (fun h8 => ?_)
                · refine P_s (s_tsw_eq (c := 7) dX4_wordOf_1 h8 (by decide) (by decide) rfl rfl) ?_
                  refine P_s (sk_7 hE rfl dX4_wordOf_101) ?_
                  exact P_r (r := 7) (f_ref (rt := .object "java/lang/String") dX4_wordOf_103 rfl (Or.inl ⟨_, rfl⟩))
                · skip
                  refine P_ite (fun h9 => ?_) (fun h9 => ?_)
                  · refine P_s (s_tsw_eq (c := 8) dX4_wordOf_1 h9 (by decide) (by decide) rfl rfl) ?_
                    refine P_s (sk_8 hE rfl dX4_wordOf_104) ?_
                    exact P_r (r := 8) (f_ref (rt := .object "java/lang/String") dX4_wordOf_106 rfl (Or.inl ⟨_, rfl⟩))
                  · skip
                    refine P_ite (fun h10 => ?_) (fun h10 => ?_)
                    · refine P_s (s_tsw_eq (c := 9) dX4_wordOf_1 h10 (by decide) (by decide) rfl rfl) ?_
                      refine P_s (sk_9 hE rfl dX4_wordOf_107) ?_
                      exact P_r (r := 9) (f_ref (rt := .object "java/lang/String") dX4_wordOf_109 rfl (Or.inl ⟨_, rfl⟩))
                    · skip
                      refine P_ite (fun h11 => ?_) (fun h11 => ?_)
                      · refine P_s (s_tsw_eq (c := 10) dX4_wordOf_1 h11 (by decide) (by decide) rfl rfl) ?_
                        refine P_s (sk_10 hE rfl dX4_wordOf_110) ?_
                        exact P_r (r := 10) (f_ref (rt := .object "java/lang/String") dX4_wordOf_112 rfl (Or.inl ⟨_, rfl⟩))
                      · skip
                        refine P_ite (fun h12 => ?_) (fun h12 => ?_)
                        · refine P_s (s_tsw_eq (c := 11) dX4_wordOf_1 h12 (by decide) (by decide) rfl rfl) ?_
                          refine P_s (sk_11 hE rfl dX4_wordOf_113) ?_
                          exact P_r (r := 11) (f_ref (rt := .object "java/lang/String") dX4_wordOf_115 rfl (Or.inl ⟨_, rfl⟩))
                        · skip
                          refine P_ite (fun h13 => ?_) (fun h13 => ?_)
                          · refine P_s (s_tsw_eq (c := 12) dX4_wordOf_1 h13 (by decide) (by decide) rfl rfl) ?_
                            refine P_s (sk_12 hE rfl dX4_wordOf_116) ?_
                            exact P_r (r := 12) (f_ref (rt := .object "java/lang/String") dX4_wordOf_118 rfl (Or.inl ⟨_, rfl⟩))
                          · skip
                            refine P_ite (fun h14 => ?_) (fun h14 => ?_)
                            · refine P_s (s_tsw_eq (c := 13) dX4_wordOf_1 h14 (by decide) (by decide) rfl rfl) ?_
                              refine P_s (sk_13 hE rfl dX4_wordOf_119) ?_
                              exact P_r (r := 13) (f_ref (rt := .object "java/lang/String") dX4_wordOf_121 rfl (Or.inl ⟨_, rfl⟩))
                            · skip
                              refine P_ite (fun h15 => ?_) (fun h15 => ?_)
                              · refine P_s (s_tsw_eq (c := 14) dX4_wordOf_1 h15 (by decide) (by decide) rfl rfl) ?_
                                refine P_s (sk_14 hE rfl dX4_wordOf_122) ?_
                                exact P_r (r := 14) (f_ref (rt := .object "java/lang/String") dX4_wordOf_124 rfl (Or.inl ⟨_, rfl⟩))
                              · skip
                                refine P_ite (fun h16 => ?_) (fun h16 => ?_)
                                · refine P_s (s_tsw_eq (c := 15) dX4_wordOf_1 h16 (by decide) (by decide) rfl rfl) ?_
                                  refine P_s (sk_15 hE rfl dX4_wordOf_125) ?_
                                  exact P_r (r := 15) (f_ref (rt := .object "java/lang/String") dX4_wordOf_127 rfl (Or.inl ⟨_, rfl⟩))
                                · skip
                                  refine P_s (s_tsw_out dX4_wordOf_1 (gx_out_0_16 h1 h2 h3 h4 h5 h6 h7 h8 h9 h10 h11 h12 h13 h14 h15 h16) rfl) ?_
                                  refine P_s (sk_16 hE rfl dX4_wordOf_128) ?_
                                  exact P_r (r := 16) (f_ref (rt := .object "java/lang/String") dX4_wordOf_130 rfl (Or.inl ⟨_, rfl⟩))

def f_X4_mostFurther (p0 : Int32) (p1 : Int32) : Int32 := if p0 = 1 then 40 else if p0 = 2 then 8 else if p1 = 5 then 6 else 0
theorem ev_X4_mostFurther {E : gx_E} {l : Launch} (p0 : Int32) (p1 : Int32) (μ : gx_M) : gEv E l 0 Y_X4_mostFurther [.int p0, .int p1] gx_G1 μ (gx_eI (f_X4_mostFurther p0 p1)) gx_G1 μ := by
  refine P_ev (by decide) (Nat.le_of_ble_eq_true rfl) (em := gx_eI) (T := f_X4_mostFurther p0 p1) ?_
  show GoP E l Y_X4_mostFurther 0 gx_eI 0 (gx_el [.int p0, .int p1]) [] μ (f_X4_mostFurther p0 p1)
  unfold f_X4_mostFurther
  refine P_s (s_iload_n dX4_mostFurther_0 rfl rfl) ?_
  refine P_s (s_iconst dX4_mostFurther_1 kci_1) ?_
  refine P_ite (fun h1 => ?_) (fun h1 => ?_)
  · refine P_s (s_icmp_ne_f dX4_mostFurther_2 rfl h1) ?_
    refine P_s (s_bipush dX4_mostFurther_5 kcb_40) ?_
    exact P_r (r := 40) (f_int (ty := .int) dX4_mostFurther_7 rfl rfl)
  · refine P_s (s_icmp_ne_t dX4_mostFurther_2 rfl h1) ?_
    refine P_s (s_iload_n dX4_mostFurther_8 rfl rfl) ?_
    refine P_s (s_iconst dX4_mostFurther_9 kci_2) ?_
    refine P_ite (fun h2 => ?_) (fun h2 => ?_)
    · refine P_s (s_icmp_ne_f dX4_mostFurther_10 rfl h2) ?_
      refine P_s (s_bipush dX4_mostFurther_13 kcb_8) ?_
      exact P_r (r := 8) (f_int (ty := .int) dX4_mostFurther_15 rfl rfl)
    · refine P_s (s_icmp_ne_t dX4_mostFurther_10 rfl h2) ?_
      refine P_s (s_iload_n dX4_mostFurther_16 rfl rfl) ?_
      refine P_s (s_iconst dX4_mostFurther_17 kci_5) ?_
      refine P_ite (fun h3 => ?_) (fun h3 => ?_)
      · refine P_s (s_icmp_ne_f dX4_mostFurther_18 rfl h3) ?_
        refine P_s (s_bipush dX4_mostFurther_21 kcb_6) ?_
        refine P_s (s_goto dX4_mostFurther_23 rfl) ?_
        exact P_r (r := 6) (f_int (ty := .int) dX4_mostFurther_27 rfl rfl)
      · refine P_s (s_icmp_ne_t dX4_mostFurther_18 rfl h3) ?_
        refine P_s (s_iconst dX4_mostFurther_26 kci_0) ?_
        exact P_r (r := 0) (f_int (ty := .int) dX4_mostFurther_27 rfl rfl)

def f_X4_shapeOf (p0 : Int32) : Nat := if p0 = 0 then 17 else if p0 = 1 then 18 else if p0 = 2 then 19 else if p0 = 3 then 20 else if p0 = 4 then 21 else if p0 = 5 then 22 else if p0 = 6 then 23 else if p0 = 7 then 23 else if p0 = 8 then 23 else if p0 = 9 then 23 else if p0 = 10 then 24 else if p0 = 11 then 27 else if p0 = 12 then 27 else if p0 = 13 then 27 else if p0 = 14 then 27 else if p0 = 15 then 25 else if p0 = 16 then 26 else 27
theorem X4_shapeOf_lt (p0 : Int32) : f_X4_shapeOf p0 < 28 := by
  unfold f_X4_shapeOf
  repeat (refine gx_il (by decide) ?_)
  decide
theorem ev_X4_shapeOf {E : gx_E} {l : Launch} {fk : Nat} {uq : Option Nat} {adK adV : Nat → Nat} (hE : gx_EX E fk uq adK adV) (p0 : Int32) (μ : gx_M) : gEv E l 0 Y_X4_shapeOf [.int p0] gx_G1 μ ((gx_eS adK) (f_X4_shapeOf p0)) gx_G1 μ := by
  refine P_ev (by decide) (Nat.le_of_ble_eq_true rfl) (em := (gx_eS adK)) (T := f_X4_shapeOf p0) ?_
  show GoP E l Y_X4_shapeOf 0 (gx_eS adK) 0 (gx_el [.int p0]) [] μ (f_X4_shapeOf p0)
  unfold f_X4_shapeOf
  refine P_s (s_iload_n dX4_shapeOf_0 rfl rfl) ?_
  refine P_ite (fun h1 => ?_) (fun h1 => ?_)
  · refine P_s (s_tsw_eq (c := 0) dX4_shapeOf_1 h1 (by decide) (by decide) rfl rfl) ?_
    refine P_s (sk_17 hE rfl dX4_shapeOf_84) ?_
    exact P_r (r := 17) (f_ref (rt := .object "java/lang/String") dX4_shapeOf_86 rfl (Or.inl ⟨_, rfl⟩))
  · skip
    refine P_ite (fun h2 => ?_) (fun h2 => ?_)
    · refine P_s (s_tsw_eq (c := 1) dX4_shapeOf_1 h2 (by decide) (by decide) rfl rfl) ?_
      refine P_s (sk_18 hE rfl dX4_shapeOf_87) ?_
      exact P_r (r := 18) (f_ref (rt := .object "java/lang/String") dX4_shapeOf_89 rfl (Or.inl ⟨_, rfl⟩))
    · skip
      refine P_ite (fun h3 => ?_) (fun h3 => ?_)
      · refine P_s (s_tsw_eq (c := 2) dX4_shapeOf_1 h3 (by decide) (by decide) rfl rfl) ?_
        refine P_s (sk_19 hE rfl dX4_shapeOf_90) ?_
        exact P_r (r := 19) (f_ref (rt := .object "java/lang/String") dX4_shapeOf_92 rfl (Or.inl ⟨_, rfl⟩))
      · skip
        refine P_ite (fun h4 => ?_) (fun h4 => ?_)
        · refine P_s (s_tsw_eq (c := 3) dX4_shapeOf_1 h4 (by decide) (by decide) rfl rfl) ?_
          refine P_s (sk_20 hE rfl dX4_shapeOf_93) ?_
          exact P_r (r := 20) (f_ref (rt := .object "java/lang/String") dX4_shapeOf_95 rfl (Or.inl ⟨_, rfl⟩))
        · skip
          refine P_ite (fun h5 => ?_) (fun h5 => ?_)
          · refine P_s (s_tsw_eq (c := 4) dX4_shapeOf_1 h5 (by decide) (by decide) rfl rfl) ?_
            refine P_s (sk_21 hE rfl dX4_shapeOf_96) ?_
            exact P_r (r := 21) (f_ref (rt := .object "java/lang/String") dX4_shapeOf_98 rfl (Or.inl ⟨_, rfl⟩))
          · skip
            refine P_ite (fun h6 => ?_) (fun h6 => ?_)
            · refine P_s (s_tsw_eq (c := 5) dX4_shapeOf_1 h6 (by decide) (by decide) rfl rfl) ?_
              refine P_s (sk_22 hE rfl dX4_shapeOf_99) ?_
              exact P_r (r := 22) (f_ref (rt := .object "java/lang/String") dX4_shapeOf_101 rfl (Or.inl ⟨_, rfl⟩))
            · skip
              refine P_ite (fun h7 => ?_) (fun h7 => ?_)
              · refine P_s (s_tsw_eq (c := 6) dX4_shapeOf_1 h7 (by decide) (by decide) rfl rfl) ?_
                refine P_s (sk_23 hE rfl dX4_shapeOf_102) ?_
                exact P_r (r := 23) (f_ref (rt := .object "java/lang/String") dX4_shapeOf_104 rfl (Or.inl ⟨_, rfl⟩))
              · skip
                refine P_ite (fun h8 => ?_) (fun h8 => ?_)
                · refine P_s (s_tsw_eq (c := 7) dX4_shapeOf_1 h8 (by decide) (by decide) rfl rfl) ?_
                  refine P_s (sk_23 hE rfl dX4_shapeOf_102) ?_
                  exact P_r (r := 23) (f_ref (rt := .object "java/lang/String") dX4_shapeOf_104 rfl (Or.inl ⟨_, rfl⟩))
                · skip
                  refine P_ite (fun h9 => ?_) (fun h9 => ?_)
                  · refine P_s (s_tsw_eq (c := 8) dX4_shapeOf_1 h9 (by decide) (by decide) rfl rfl) ?_
                    refine P_s (sk_23 hE rfl dX4_shapeOf_102) ?_
                    exact P_r (r := 23) (f_ref (rt := .object "java/lang/String") dX4_shapeOf_104 rfl (Or.inl ⟨_, rfl⟩))
                  · skip
                    refine P_ite (fun h10 => ?_) (fun h10 => ?_)
                    · refine P_s (s_tsw_eq (c := 9) dX4_shapeOf_1 h10 (by decide) (by decide) rfl rfl) ?_
                      refine P_s (sk_23 hE rfl dX4_shapeOf_102) ?_
                      exact P_r (r := 23) (f_ref (rt := .object "java/lang/String") dX4_shapeOf_104 rfl (Or.inl ⟨_, rfl⟩))
                    · skip
                      refine P_ite (fun h11 => ?_) (fun h11 => ?_)
                      · refine P_s (s_tsw_eq (c := 10) dX4_shapeOf_1 h11 (by decide) (by decide) rfl rfl) ?_
                        refine P_s (sk_24 hE rfl dX4_shapeOf_105) ?_
                        exact P_r (r := 24) (f_ref (rt := .object "java/lang/String") dX4_shapeOf_107 rfl (Or.inl ⟨_, rfl⟩))
                      · skip
                        refine P_ite (fun h12 => ?_) (fun h12 => ?_)
                        · refine P_s (s_tsw_eq (c := 11) dX4_shapeOf_1 h12 (by decide) (by decide) rfl rfl) ?_
                          refine P_s (sk_27 hE rfl dX4_shapeOf_114) ?_
                          exact P_r (r := 27) (f_ref (rt := .object "java/lang/String") dX4_shapeOf_116 rfl (Or.inl ⟨_, rfl⟩))
                        · skip
                          refine P_ite (fun h13 => ?_) (fun h13 => ?_)
                          · refine P_s (s_tsw_eq (c := 12) dX4_shapeOf_1 h13 (by decide) (by decide) rfl rfl) ?_
                            refine P_s (sk_27 hE rfl dX4_shapeOf_114) ?_
                            exact P_r (r := 27) (f_ref (rt := .object "java/lang/String") dX4_shapeOf_116 rfl (Or.inl ⟨_, rfl⟩))
                          · skip
                            refine P_ite (fun h14 => ?_) (fun h14 => ?_)
                            · refine P_s (s_tsw_eq (c := 13) dX4_shapeOf_1 h14 (by decide) (by decide) rfl rfl) ?_
                              refine P_s (sk_27 hE rfl dX4_shapeOf_114) ?_
                              exact P_r (r := 27) (f_ref (rt := .object "java/lang/String") dX4_shapeOf_116 rfl (Or.inl ⟨_, rfl⟩))
                            · skip
                              refine P_ite (fun h15 => ?_) (fun h15 => ?_)
                              · refine P_s (s_tsw_eq (c := 14) dX4_shapeOf_1 h15 (by decide) (by decide) rfl rfl) ?_
                                refine P_s (sk_27 hE rfl dX4_shapeOf_114) ?_
                                exact P_r (r := 27) (f_ref (rt := .object "java/lang/String") dX4_shapeOf_116 rfl (Or.inl ⟨_, rfl⟩))
                              · skip
                                refine P_ite (fun h16 => ?_) (fun h16 => ?_)
                                · refine P_s (s_tsw_eq (c := 15) dX4_shapeOf_1 h16 (by decide) (by decide) rfl rfl) ?_
                                  refine P_s (sk_25 hE rfl dX4_shapeOf_108) ?_
                                  exact P_r (r := 25) (f_ref (rt := .object "java/lang/String") dX4_shapeOf_110 rfl (Or.inl ⟨_, rfl⟩))
                                · skip
                                  refine P_ite (fun h17 => ?_) (fun h17 => ?_)
                                  · refine P_s (s_tsw_eq (c := 16) dX4_shapeOf_1 h17 (by decide) (by decide) rfl rfl) ?_
                                    refine P_s (sk_26 hE rfl dX4_shapeOf_111) ?_
                                    exact P_r (r := 26) (f_ref (rt := .object "java/lang/String") dX4_shapeOf_113 rfl (Or.inl ⟨_, rfl⟩))
                                  · skip
                                    refine P_s (s_tsw_out dX4_shapeOf_1 (gx_out_0_17 h1 h2 h3 h4 h5 h6 h7 h8 h9 h10 h11 h12 h13 h14 h15 h16 h17) rfl) ?_
                                    refine P_s (sk_27 hE rfl dX4_shapeOf_114) ?_
                                    exact P_r (r := 27) (f_ref (rt := .object "java/lang/String") dX4_shapeOf_116 rfl (Or.inl ⟨_, rfl⟩))

def f_X4_leastOf (p0 : Int32) : Int32 := if p0 = 72 then 2 else if p0 = 73 then 0 else if p0 = 74 then 0 else if p0 = 75 then 0 else if p0 = 76 then 1 else if p0 = 77 then 1 else if p0 = 78 then 0 else if p0 = 79 then 0 else if p0 = 80 then 1 else 0
theorem ev_X4_leastOf {E : gx_E} {l : Launch} (p0 : Int32) (μ : gx_M) : gEv E l 0 Y_X4_leastOf [.int p0] gx_G1 μ (gx_eI (f_X4_leastOf p0)) gx_G1 μ := by
  refine P_ev (by decide) (Nat.le_of_ble_eq_true rfl) (em := gx_eI) (T := f_X4_leastOf p0) ?_
  show GoP E l Y_X4_leastOf 0 gx_eI 0 (gx_el [.int p0]) [] μ (f_X4_leastOf p0)
  unfold f_X4_leastOf
  refine P_s (s_iload_n dX4_leastOf_0 rfl rfl) ?_
  refine P_ite (fun h1 => ?_) (fun h1 => ?_)
  · refine P_s (s_tsw_eq (c := 72) dX4_leastOf_1 h1 (by decide) (by decide) rfl rfl) ?_
    refine P_s (s_iconst dX4_leastOf_54 kci_2) ?_
    exact P_r (r := 2) (f_int (ty := .int) dX4_leastOf_55 rfl rfl)
  · skip
    refine P_ite (fun h2 => ?_) (fun h2 => ?_)
    · refine P_s (s_tsw_eq (c := 73) dX4_leastOf_1 h2 (by decide) (by decide) rfl rfl) ?_
      refine P_s (s_iconst dX4_leastOf_56 kci_0) ?_
      exact P_r (r := 0) (f_int (ty := .int) dX4_leastOf_57 rfl rfl)
    · skip
      refine P_ite (fun h3 => ?_) (fun h3 => ?_)
      · refine P_s (s_tsw_eq (c := 74) dX4_leastOf_1 h3 (by decide) (by decide) rfl rfl) ?_
        refine P_s (s_iconst dX4_leastOf_56 kci_0) ?_
        exact P_r (r := 0) (f_int (ty := .int) dX4_leastOf_57 rfl rfl)
      · skip
        refine P_ite (fun h4 => ?_) (fun h4 => ?_)
        · refine P_s (s_tsw_eq (c := 75) dX4_leastOf_1 h4 (by decide) (by decide) rfl rfl) ?_
          refine P_s (s_iconst dX4_leastOf_56 kci_0) ?_
          exact P_r (r := 0) (f_int (ty := .int) dX4_leastOf_57 rfl rfl)
        · skip
          refine P_ite (fun h5 => ?_) (fun h5 => ?_)
          · refine P_s (s_tsw_eq (c := 76) dX4_leastOf_1 h5 (by decide) (by decide) rfl rfl) ?_
            refine P_s (s_iconst dX4_leastOf_52 kci_1) ?_
            exact P_r (r := 1) (f_int (ty := .int) dX4_leastOf_53 rfl rfl)
          · skip
            refine P_ite (fun h6 => ?_) (fun h6 => ?_)
            · refine P_s (s_tsw_eq (c := 77) dX4_leastOf_1 h6 (by decide) (by decide) rfl rfl) ?_
              refine P_s (s_iconst dX4_leastOf_52 kci_1) ?_
              exact P_r (r := 1) (f_int (ty := .int) dX4_leastOf_53 rfl rfl)
            · skip
              refine P_ite (fun h7 => ?_) (fun h7 => ?_)
              · refine P_s (s_tsw_eq (c := 78) dX4_leastOf_1 h7 (by decide) (by decide) rfl rfl) ?_
                refine P_s (s_iconst dX4_leastOf_56 kci_0) ?_
                exact P_r (r := 0) (f_int (ty := .int) dX4_leastOf_57 rfl rfl)
              · skip
                refine P_ite (fun h8 => ?_) (fun h8 => ?_)
                · refine P_s (s_tsw_eq (c := 79) dX4_leastOf_1 h8 (by decide) (by decide) rfl rfl) ?_
                  refine P_s (s_iconst dX4_leastOf_56 kci_0) ?_
                  exact P_r (r := 0) (f_int (ty := .int) dX4_leastOf_57 rfl rfl)
                · skip
                  refine P_ite (fun h9 => ?_) (fun h9 => ?_)
                  · refine P_s (s_tsw_eq (c := 80) dX4_leastOf_1 h9 (by decide) (by decide) rfl rfl) ?_
                    refine P_s (s_iconst dX4_leastOf_52 kci_1) ?_
                    exact P_r (r := 1) (f_int (ty := .int) dX4_leastOf_53 rfl rfl)
                  · skip
                    refine P_s (s_tsw_out dX4_leastOf_1 (gx_out_72_9 h1 h2 h3 h4 h5 h6 h7 h8 h9) rfl) ?_
                    refine P_s (s_iconst dX4_leastOf_56 kci_0) ?_
                    exact P_r (r := 0) (f_int (ty := .int) dX4_leastOf_57 rfl rfl)

def f_X4_mostOf (p0 : Int32) : Int32 := if p0 = 72 then 6 else if p0 = 76 then 9 else if p0 = 77 then 40 else if p0 = 80 then 4 else if p0 = 98 then 5 else if p0 = 104 then 5 else if p0 = 109 then 39 else if p0 = 112 then 3 else if p0 = 116 then 39 else if p0 = 120 then 9 else 99
theorem ev_X4_mostOf {E : gx_E} {l : Launch} (p0 : Int32) (μ : gx_M) : gEv E l 0 Y_X4_mostOf [.int p0] gx_G1 μ (gx_eI (f_X4_mostOf p0)) gx_G1 μ := by
  refine P_ev (by decide) (Nat.le_of_ble_eq_true rfl) (em := gx_eI) (T := f_X4_mostOf p0) ?_
  show GoP E l Y_X4_mostOf 0 gx_eI 0 (gx_el [.int p0]) [] μ (f_X4_mostOf p0)
  unfold f_X4_mostOf
  refine P_s (s_iload_n dX4_mostOf_0 rfl rfl) ?_
  refine P_ite (fun h1 => ?_) (fun h1 => ?_)
  · refine P_s (s_lsw_eq (c := 72) dX4_mostOf_1 (by decide) h1 rfl rfl) ?_
    refine P_s (s_bipush dX4_mostOf_97 kcb_6) ?_
    exact P_r (r := 6) (f_int (ty := .int) dX4_mostOf_99 rfl rfl)
  · skip
    refine P_ite (fun h2 => ?_) (fun h2 => ?_)
    · refine P_s (s_lsw_eq (c := 76) dX4_mostOf_1 (by decide) h2 rfl rfl) ?_
      refine P_s (s_bipush dX4_mostOf_109 kcb_9) ?_
      exact P_r (r := 9) (f_int (ty := .int) dX4_mostOf_111 rfl rfl)
    · skip
      refine P_ite (fun h3 => ?_) (fun h3 => ?_)
      · refine P_s (s_lsw_eq (c := 77) dX4_mostOf_1 (by decide) h3 rfl rfl) ?_
        refine P_s (s_bipush dX4_mostOf_92 kcb_40) ?_
        exact P_r (r := 40) (f_int (ty := .int) dX4_mostOf_94 rfl rfl)
      · skip
        refine P_ite (fun h4 => ?_) (fun h4 => ?_)
        · refine P_s (s_lsw_eq (c := 80) dX4_mostOf_1 (by decide) h4 rfl rfl) ?_
          refine P_s (s_iconst dX4_mostOf_95 kci_4) ?_
          exact P_r (r := 4) (f_int (ty := .int) dX4_mostOf_96 rfl rfl)
        · skip
          refine P_ite (fun h5 => ?_) (fun h5 => ?_)
          · refine P_s (s_lsw_eq (c := 98) dX4_mostOf_1 (by decide) h5 rfl rfl) ?_
            refine P_s (s_iconst dX4_mostOf_105 kci_5) ?_
            exact P_r (r := 5) (f_int (ty := .int) dX4_mostOf_106 rfl rfl)
          · skip
            refine P_ite (fun h6 => ?_) (fun h6 => ?_)
            · refine P_s (s_lsw_eq (c := 104) dX4_mostOf_1 (by decide) h6 rfl rfl) ?_
              refine P_s (s_iconst dX4_mostOf_107 kci_5) ?_
              exact P_r (r := 5) (f_int (ty := .int) dX4_mostOf_108 rfl rfl)
            · skip
              refine P_ite (fun h7 => ?_) (fun h7 => ?_)
              · refine P_s (s_lsw_eq (c := 109) dX4_mostOf_1 (by decide) h7 rfl rfl) ?_
                refine P_s (s_bipush dX4_mostOf_102 kcb_39) ?_
                exact P_r (r := 39) (f_int (ty := .int) dX4_mostOf_104 rfl rfl)
              · skip
                refine P_ite (fun h8 => ?_) (fun h8 => ?_)
                · refine P_s (s_lsw_eq (c := 112) dX4_mostOf_1 (by decide) h8 rfl rfl) ?_
                  refine P_s (s_iconst dX4_mostOf_100 kci_3) ?_
                  exact P_r (r := 3) (f_int (ty := .int) dX4_mostOf_101 rfl rfl)
                · skip
                  refine P_ite (fun h9 => ?_) (fun h9 => ?_)
                  · refine P_s (s_lsw_eq (c := 116) dX4_mostOf_1 (by decide) h9 rfl rfl) ?_
                    refine P_s (s_bipush dX4_mostOf_102 kcb_39) ?_
                    exact P_r (r := 39) (f_int (ty := .int) dX4_mostOf_104 rfl rfl)
                  · skip
                    refine P_ite (fun h10 => ?_) (fun h10 => ?_)
                    · refine P_s (s_lsw_eq (c := 120) dX4_mostOf_1 (by decide) h10 rfl rfl) ?_
                      refine P_s (s_bipush dX4_mostOf_109 kcb_9) ?_
                      exact P_r (r := 9) (f_int (ty := .int) dX4_mostOf_111 rfl rfl)
                    · skip
                      refine P_s (s_lsw dX4_mostOf_1 (by decide) ((lv_osw h1 (by decide)).trans ((lv_osw h2 (by decide)).trans ((lv_osw h3 (by decide)).trans ((lv_osw h4 (by decide)).trans ((lv_osw h5 (by decide)).trans ((lv_osw h6 (by decide)).trans ((lv_osw h7 (by decide)).trans ((lv_osw h8 (by decide)).trans ((lv_osw h9 (by decide)).trans ((lv_osw h10 (by decide)).trans rfl)))))))))) rfl) ?_
                      refine P_s (s_bipush dX4_mostOf_112 kcb_99) ?_
                      exact P_r (r := 99) (f_int (ty := .int) dX4_mostOf_114 rfl rfl)

def f_X5_hasPerson (a0 : Nat) (p1 : Int32) (μ : gx_M) : Bool := if p1 < 0 then false else if (μ.1 a0 1) ≤ p1 then false else true
theorem ev_X5_hasPerson {E : gx_E} {l : Launch} (a0 : Nat) (p1 : Int32) (ha0 : gx_St a0) (μ : gx_M) : gEv E l 0 Y_X5_hasPerson [.ref (E.2.2.1 + a0), .int p1] gx_G1 μ (gx_eB (f_X5_hasPerson a0 p1 μ)) gx_G1 μ := by
  refine P_ev (by decide) (Nat.le_of_ble_eq_true rfl) (em := gx_eB) (T := f_X5_hasPerson a0 p1 μ) ?_
  show GoP E l Y_X5_hasPerson 0 gx_eB 0 (gx_el [.ref (E.2.2.1 + a0), .int p1]) [] μ (f_X5_hasPerson a0 p1 μ)
  unfold f_X5_hasPerson
  refine P_s (s_iload_n dX5_hasPerson_0 rfl rfl) ?_
  refine P_ite (fun h1 => ?_) (fun h1 => ?_)
  · refine P_s (s_if_lt_t dX5_hasPerson_1 rfl h1) ?_
    refine P_s (s_iconst dX5_hasPerson_16 kci_0) ?_
    exact P_r (r := false) (f_int (ty := .boolean) (x := gx_bi false) dX5_hasPerson_17 rfl (gx_bn false))
  · refine P_s (s_if_lt_f dX5_hasPerson_1 rfl h1) ?_
    refine P_s (s_iload_n dX5_hasPerson_4 rfl rfl) ?_
    refine P_s (s_aload_n dX5_hasPerson_5 rfl rfl) ?_
    refine P_s (gfm_RX5_37 ha0 rfl dX5_hasPerson_6) ?_
    refine P_ite (fun h2 => ?_) (fun h2 => ?_)
    · refine P_s (s_icmp_ge_t dX5_hasPerson_9 rfl h2) ?_
      refine P_s (s_iconst dX5_hasPerson_16 kci_0) ?_
      exact P_r (r := false) (f_int (ty := .boolean) (x := gx_bi false) dX5_hasPerson_17 rfl (gx_bn false))
    · refine P_s (s_icmp_ge_f dX5_hasPerson_9 rfl h2) ?_
      refine P_s (s_iconst dX5_hasPerson_12 kci_1) ?_
      refine P_s (s_goto dX5_hasPerson_13 rfl) ?_
      exact P_r (r := true) (f_int (ty := .boolean) (x := gx_bi true) dX5_hasPerson_17 rfl (gx_bn true))

def f_X5_hasMinute (a0 : Nat) (p1 : Int32) (μ : gx_M) : Bool := if p1 < 0 then false else if (μ.1 a0 0) ≤ p1 then false else true
theorem ev_X5_hasMinute {E : gx_E} {l : Launch} (a0 : Nat) (p1 : Int32) (ha0 : gx_St a0) (μ : gx_M) : gEv E l 0 Y_X5_hasMinute [.ref (E.2.2.1 + a0), .int p1] gx_G1 μ (gx_eB (f_X5_hasMinute a0 p1 μ)) gx_G1 μ := by
  refine P_ev (by decide) (Nat.le_of_ble_eq_true rfl) (em := gx_eB) (T := f_X5_hasMinute a0 p1 μ) ?_
  show GoP E l Y_X5_hasMinute 0 gx_eB 0 (gx_el [.ref (E.2.2.1 + a0), .int p1]) [] μ (f_X5_hasMinute a0 p1 μ)
  unfold f_X5_hasMinute
  refine P_s (s_iload_n dX5_hasMinute_0 rfl rfl) ?_
  refine P_ite (fun h1 => ?_) (fun h1 => ?_)
  · refine P_s (s_if_lt_t dX5_hasMinute_1 rfl h1) ?_
    refine P_s (s_iconst dX5_hasMinute_16 kci_0) ?_
    exact P_r (r := false) (f_int (ty := .boolean) (x := gx_bi false) dX5_hasMinute_17 rfl (gx_bn false))
  · refine P_s (s_if_lt_f dX5_hasMinute_1 rfl h1) ?_
    refine P_s (s_iload_n dX5_hasMinute_4 rfl rfl) ?_
    refine P_s (s_aload_n dX5_hasMinute_5 rfl rfl) ?_
    refine P_s (gfm_RX5_33 ha0 rfl dX5_hasMinute_6) ?_
    refine P_ite (fun h2 => ?_) (fun h2 => ?_)
    · refine P_s (s_icmp_ge_t dX5_hasMinute_9 rfl h2) ?_
      refine P_s (s_iconst dX5_hasMinute_16 kci_0) ?_
      exact P_r (r := false) (f_int (ty := .boolean) (x := gx_bi false) dX5_hasMinute_17 rfl (gx_bn false))
    · refine P_s (s_icmp_ge_f dX5_hasMinute_9 rfl h2) ?_
      refine P_s (s_iconst dX5_hasMinute_12 kci_1) ?_
      refine P_s (s_goto dX5_hasMinute_13 rfl) ?_
      exact P_r (r := true) (f_int (ty := .boolean) (x := gx_bi true) dX5_hasMinute_17 rfl (gx_bn true))

def f_X5_hasBusiness (a0 : Nat) (p1 : Int32) (μ : gx_M) : Bool := if p1 < 0 then false else if (μ.1 a0 2) ≤ p1 then false else true
theorem ev_X5_hasBusiness {E : gx_E} {l : Launch} (a0 : Nat) (p1 : Int32) (ha0 : gx_St a0) (μ : gx_M) : gEv E l 0 Y_X5_hasBusiness [.ref (E.2.2.1 + a0), .int p1] gx_G1 μ (gx_eB (f_X5_hasBusiness a0 p1 μ)) gx_G1 μ := by
  refine P_ev (by decide) (Nat.le_of_ble_eq_true rfl) (em := gx_eB) (T := f_X5_hasBusiness a0 p1 μ) ?_
  show GoP E l Y_X5_hasBusiness 0 gx_eB 0 (gx_el [.ref (E.2.2.1 + a0), .int p1]) [] μ (f_X5_hasBusiness a0 p1 μ)
  unfold f_X5_hasBusiness
  refine P_s (s_iload_n dX5_hasBusiness_0 rfl rfl) ?_
  refine P_ite (fun h1 => ?_) (fun h1 => ?_)
  · refine P_s (s_if_lt_t dX5_hasBusiness_1 rfl h1) ?_
    refine P_s (s_iconst dX5_hasBusiness_16 kci_0) ?_
    exact P_r (r := false) (f_int (ty := .boolean) (x := gx_bi false) dX5_hasBusiness_17 rfl (gx_bn false))
  · refine P_s (s_if_lt_f dX5_hasBusiness_1 rfl h1) ?_
    refine P_s (s_iload_n dX5_hasBusiness_4 rfl rfl) ?_
    refine P_s (s_aload_n dX5_hasBusiness_5 rfl rfl) ?_
    refine P_s (gfm_RX5_40 ha0 rfl dX5_hasBusiness_6) ?_
    refine P_ite (fun h2 => ?_) (fun h2 => ?_)
    · refine P_s (s_icmp_ge_t dX5_hasBusiness_9 rfl h2) ?_
      refine P_s (s_iconst dX5_hasBusiness_16 kci_0) ?_
      exact P_r (r := false) (f_int (ty := .boolean) (x := gx_bi false) dX5_hasBusiness_17 rfl (gx_bn false))
    · refine P_s (s_icmp_ge_f dX5_hasBusiness_9 rfl h2) ?_
      refine P_s (s_iconst dX5_hasBusiness_12 kci_1) ?_
      refine P_s (s_goto dX5_hasBusiness_13 rfl) ?_
      exact P_r (r := true) (f_int (ty := .boolean) (x := gx_bi true) dX5_hasBusiness_17 rfl (gx_bn true))

def f_X5_subsets (a0 : Nat) (μ : gx_M) : Int32 := ((1 : Int32) <<< ((μ.1 a0 2) &&& 31))
theorem ev_X5_subsets {E : gx_E} {l : Launch} (a0 : Nat) (ha0 : gx_St a0) (μ : gx_M) : gEv E l 0 Y_X5_subsets [.ref (E.2.2.1 + a0)] gx_G1 μ (gx_eI (f_X5_subsets a0 μ)) gx_G1 μ := by
  refine P_ev (by decide) (Nat.le_of_ble_eq_true rfl) (em := gx_eI) (T := f_X5_subsets a0 μ) ?_
  show GoP E l Y_X5_subsets 0 gx_eI 0 (gx_el [.ref (E.2.2.1 + a0)]) [] μ (f_X5_subsets a0 μ)
  unfold f_X5_subsets
  refine P_s (s_iconst dX5_subsets_0 kci_1) ?_
  refine P_s (s_aload_n dX5_subsets_1 rfl rfl) ?_
  refine P_s (gfm_RX5_40 ha0 rfl dX5_subsets_2) ?_
  refine P_s (s_ishl dX5_subsets_5) ?_
  exact P_r (r := ((1 : Int32) <<< ((μ.1 a0 2) &&& 31))) (f_int (ty := .int) dX5_subsets_6 rfl rfl)

def f_X5_minutesMask (a0 : Nat) (μ : gx_M) : Int64 := (((1 : Int64) <<< (((μ.1 a0 0) : Int32).toInt64 &&& 63)) - 1)
theorem ev_X5_minutesMask {E : gx_E} {l : Launch} (a0 : Nat) (ha0 : gx_St a0) (μ : gx_M) : gEv E l 0 Y_X5_minutesMask [.ref (E.2.2.1 + a0)] gx_G1 μ (gx_eL (f_X5_minutesMask a0 μ)) gx_G1 μ := by
  refine P_ev (by decide) (Nat.le_of_ble_eq_true rfl) (em := gx_eL) (T := f_X5_minutesMask a0 μ) ?_
  show GoP E l Y_X5_minutesMask 0 gx_eL 0 (gx_el [.ref (E.2.2.1 + a0)]) [] μ (f_X5_minutesMask a0 μ)
  unfold f_X5_minutesMask
  refine P_s (s_lconst dX5_minutesMask_0 kcl_1) ?_
  refine P_s (s_aload_n dX5_minutesMask_1 rfl rfl) ?_
  refine P_s (gfm_RX5_33 ha0 rfl dX5_minutesMask_2) ?_
  refine P_s (s_lshl dX5_minutesMask_5) ?_
  refine P_s (s_lconst dX5_minutesMask_6 kcl_1) ?_
  refine P_s (s_lsub dX5_minutesMask_7) ?_
  exact P_r (r := (((1 : Int64) <<< (((μ.1 a0 0) : Int32).toInt64 &&& 63)) - 1)) (f_long dX5_minutesMask_8 rfl)

def L_X5_held_5 (μ : gx_M) (a0 : Nat) (p1 : Int32) (k3 : Int64 → Option Int64) : Nat → Int64 → Int32 → Option Int64
  | 0, _, _ => none
  | n + 1, v2_1, v4_2 => if (μ.1 a0 0) ≤ v4_2 then k3 v2_1 else gx_ck (gx_ix v4_2 40 = true) (gx_lt (fun (j0_9 : Int64) => L_X5_held_5 μ a0 p1 k3 n j0_9 (v4_2 + 1)) (fun J6 => if (μ.1 (a0 + 3) v4_2.toNatClampNeg) = p1 then gx_lt (v2_1 ||| ((1 : Int64) <<< ((v4_2 : Int32).toInt64 &&& 63))) (fun (x8 : Int64) => J6 x8) else J6 v2_1))
def f_X5_held (a0 : Nat) (p1 : Int32) (μ : gx_M) : Option Int64 := L_X5_held_5 μ a0 p1 (fun (x2_11 : Int64) => some x2_11) 4000 0 0
theorem okL_X5_held_5 {E : gx_E} {l : Launch} {μ : gx_M} {a0 : Nat} {p1 : Int32} (ha0 : gx_St a0) {k3 : Int64 → Option Int64} (hk : ∀ (w10 : Int64), GoR E l Y_X5_held 0 gx_eL 38 [none, none, some (.long w10)] [] μ (k3 w10)) : ∀ (n : Nat) (v2_1 : Int64) (v4_2 : Int32), GoR E l Y_X5_held 0 gx_eL 5 [some (.ref (E.2.2.1 + a0)), some (.int p1), some (.long v2_1), none, some (.int v4_2)] [] μ (L_X5_held_5 μ a0 p1 k3 n v2_1 v4_2) := by
  intro n
  induction n with
  | zero => intros; exact R_no
  | succ n ih =>
    intro v2_1 v4_2
    rw [L_X5_held_5.eq_2]
    refine R_s (s_iload dX5_held_5 rfl) ?_
    refine R_s (s_aload_n dX5_held_7 rfl rfl) ?_
    refine R_s (gfm_RX5_33 ha0 rfl dX5_held_8) ?_
    refine R_ite (fun h4 => ?_) (fun h4 => ?_)
    · refine R_s (s_icmp_ge_t dX5_held_11 rfl h4) ?_
      exact R_wk (hk v2_1) (le_o (le_o (le_s rfl le_n)))
    · refine R_s (s_icmp_ge_f dX5_held_11 rfl h4) ?_
      refine R_s (s_aload_n dX5_held_14 rfl rfl) ?_
      refine R_s (gfm_RX5_18 ha0 rfl dX5_held_15) ?_
      refine R_s (s_iload dX5_held_18 rfl) ?_
      refine R_ck (fun h5 => ?_)
      refine R_s (s_iald dX5_held_20 (St_3 ha0) (gx_ixv h5)) ?_
      refine R_s (s_iload_n dX5_held_21 rfl rfl) ?_
      refine R_fun (fun J => ∀ (j0_9 : Int64), GoR E l Y_X5_held 0 gx_eL 32 [some (.ref (E.2.2.1 + a0)), some (.int p1), some (.long j0_9), none, some (.int v4_2)] [] μ (J j0_9)) ?_ (fun J6 hJ6 => ?_)
      · intro j0_9
        refine R_s (s_iinc dX5_held_32 rfl (kinc_1 v4_2) (Nat.le_of_ble_eq_true rfl)) ?_
        refine R_s (s_goto dX5_held_35 rfl) ?_
        exact R_wk (ih j0_9 (v4_2 + 1)) (le_s rfl (le_s rfl (le_s rfl (le_o (le_s rfl le_n)))))
      · skip
        refine R_ite (fun h7 => ?_) (fun h7 => ?_)
        · refine R_s (s_icmp_ne_f dX5_held_22 rfl h7) ?_
          refine R_s (s_lload_n dX5_held_25 rfl rfl) ?_
          refine R_s (s_lconst dX5_held_26 kcl_1) ?_
          refine R_s (s_iload dX5_held_27 rfl) ?_
          refine R_s (s_lshl dX5_held_29) ?_
          refine R_s (s_lor dX5_held_30) ?_
          refine R_letL (fun x8 => ?_)
          refine R_s (s_lstore_n dX5_held_31 rfl (Nat.le_of_ble_eq_true rfl)) ?_
          exact R_wk (hJ6 x8) (le_s rfl (le_s rfl (le_s rfl (le_o (le_s rfl le_n)))))
        · refine R_s (s_icmp_ne_t dX5_held_22 rfl h7) ?_
          exact R_wk (hJ6 v2_1) (le_s rfl (le_s rfl (le_s rfl (le_o (le_s rfl le_n)))))
theorem ev_X5_held {E : gx_E} {l : Launch} (a0 : Nat) (p1 : Int32) (ha0 : gx_St a0) (μ : gx_M) {r : Int64} (hr : f_X5_held a0 p1 μ = some r) : gEv E l 0 Y_X5_held [.ref (E.2.2.1 + a0), .int p1] gx_G1 μ (gx_eL r) gx_G1 μ := by
  refine R_ev (by decide) (Nat.le_of_ble_eq_true rfl) (em := gx_eL) (T := f_X5_held a0 p1 μ) ?_ hr
  show GoR E l Y_X5_held 0 gx_eL 0 (gx_el [.ref (E.2.2.1 + a0), .int p1]) [] μ (f_X5_held a0 p1 μ)
  unfold f_X5_held
  refine R_s (s_lconst dX5_held_0 kcl_0) ?_
  refine R_s (s_lstore_n dX5_held_1 rfl (Nat.le_of_ble_eq_true rfl)) ?_
  refine R_s (s_iconst dX5_held_2 kci_0) ?_
  refine R_s (s_istore dX5_held_3 (Nat.le_of_ble_eq_true rfl)) ?_
  refine R_wk (okL_X5_held_5 ha0 ?_ 4000 0 0) (le_s rfl (le_s rfl (le_s rfl (le_o (le_s rfl le_n)))))
  intro x2_11
  refine R_s (s_lload_n dX5_held_38 rfl rfl) ?_
  exact R_r (r := x2_11) (f_long dX5_held_39 rfl)

def f_X5_goesIn (a0 : Nat) (p1 : Int32) (p2 : Int32) (p3 : Int64) (μ : gx_M) : Option Bool := gx_ck (gx_ix p1 6 = true) (if p2 < (μ.1 (a0 + 5) p1.toNatClampNeg) then some false else if ((p2 + (μ.1 (a0 + 4) p1.toNatClampNeg)) - 1) ≤ (μ.1 (a0 + 6) p1.toNatClampNeg) then gx_lt ((((1 : Int64) <<< (((μ.1 (a0 + 4) p1.toNatClampNeg) : Int32).toInt64 &&& 63)) - 1) <<< ((p2 : Int32).toInt64 &&& 63)) (fun (x4 : Int64) => if (x4 &&& (p3 ^^^ (-1))) = 0 then some true else some false) else some false)
theorem ev_X5_goesIn {E : gx_E} {l : Launch} (a0 : Nat) (p1 : Int32) (p2 : Int32) (p3 : Int64) (ha0 : gx_St a0) (μ : gx_M) {r : Bool} (hr : f_X5_goesIn a0 p1 p2 p3 μ = some r) : gEv E l 0 Y_X5_goesIn [.ref (E.2.2.1 + a0), .int p1, .int p2, .long p3] gx_G1 μ (gx_eB r) gx_G1 μ := by
  refine R_ev (by decide) (Nat.le_of_ble_eq_true rfl) (em := gx_eB) (T := f_X5_goesIn a0 p1 p2 p3 μ) ?_ hr
  show GoR E l Y_X5_goesIn 0 gx_eB 0 (gx_el [.ref (E.2.2.1 + a0), .int p1, .int p2, .long p3]) [] μ (f_X5_goesIn a0 p1 p2 p3 μ)
  unfold f_X5_goesIn
  refine R_s (s_iload_n dX5_goesIn_0 rfl rfl) ?_
  refine R_s (s_aload_n dX5_goesIn_1 rfl rfl) ?_
  refine R_s (gfm_RX5_24 ha0 rfl dX5_goesIn_2) ?_
  refine R_s (s_iload_n dX5_goesIn_5 rfl rfl) ?_
  refine R_ck (fun h1 => ?_)
  refine R_s (s_iald dX5_goesIn_6 (St_5 ha0) (gx_ixv h1)) ?_
  refine R_ite (fun h2 => ?_) (fun h2 => ?_)
  · refine R_s (s_icmp_lt_t dX5_goesIn_7 rfl h2) ?_
    refine R_s (s_iconst dX5_goesIn_29 kci_0) ?_
    exact R_r (r := false) (f_int (ty := .boolean) (x := gx_bi false) dX5_goesIn_30 rfl (gx_bn false))
  · refine R_s (s_icmp_lt_f dX5_goesIn_7 rfl h2) ?_
    refine R_s (s_iload_n dX5_goesIn_10 rfl rfl) ?_
    refine R_s (s_aload_n dX5_goesIn_11 rfl rfl) ?_
    refine R_s (gfm_RX5_21 ha0 rfl dX5_goesIn_12) ?_
    refine R_s (s_iload_n dX5_goesIn_15 rfl rfl) ?_
    refine R_s (s_iald dX5_goesIn_16 (St_4 ha0) (gx_ixv h1)) ?_
    refine R_s (s_iadd dX5_goesIn_17) ?_
    refine R_s (s_iconst dX5_goesIn_18 kci_1) ?_
    refine R_s (s_isub dX5_goesIn_19) ?_
    refine R_s (s_aload_n dX5_goesIn_20 rfl rfl) ?_
    refine R_s (gfm_RX5_27 ha0 rfl dX5_goesIn_21) ?_
    refine R_s (s_iload_n dX5_goesIn_24 rfl rfl) ?_
    refine R_s (s_iald dX5_goesIn_25 (St_6 ha0) (gx_ixv h1)) ?_
    refine R_ite (fun h3 => ?_) (fun h3 => ?_)
    · refine R_s (s_icmp_le_t dX5_goesIn_26 rfl h3) ?_
      refine R_s (s_lconst dX5_goesIn_31 kcl_1) ?_
      refine R_s (s_aload_n dX5_goesIn_32 rfl rfl) ?_
      refine R_s (gfm_RX5_21 ha0 rfl dX5_goesIn_33) ?_
      refine R_s (s_iload_n dX5_goesIn_36 rfl rfl) ?_
      refine R_s (s_iald dX5_goesIn_37 (St_4 ha0) (gx_ixv h1)) ?_
      refine R_s (s_lshl dX5_goesIn_38) ?_
      refine R_s (s_lconst dX5_goesIn_39 kcl_1) ?_
      refine R_s (s_lsub dX5_goesIn_40) ?_
      refine R_s (s_iload_n dX5_goesIn_41 rfl rfl) ?_
      refine R_s (s_lshl dX5_goesIn_42) ?_
      refine R_letL (fun x4 => ?_)
      refine R_s (s_lstore dX5_goesIn_43 (Nat.le_of_ble_eq_true rfl)) ?_
      refine R_s (s_lload dX5_goesIn_45 rfl) ?_
      refine R_s (s_lload_n dX5_goesIn_47 rfl rfl) ?_
      refine R_s (s_ldc2 dX5_goesIn_48 kw_RX5_59) ?_
      refine R_s (s_lxor dX5_goesIn_51) ?_
      refine R_s (s_land dX5_goesIn_52) ?_
      refine R_s (s_lconst dX5_goesIn_53 kcl_0) ?_
      refine R_s (s_lcmp dX5_goesIn_54) ?_
      refine R_ite (fun h5 => ?_) (fun h5 => ?_)
      · refine R_s (s_if_ne_f dX5_goesIn_55 rfl ((lgc_eq (x4 &&& (p3 ^^^ (-1))) 0).mpr h5)) ?_
        refine R_s (s_iconst dX5_goesIn_58 kci_1) ?_
        refine R_s (s_goto dX5_goesIn_59 rfl) ?_
        exact R_r (r := true) (f_int (ty := .boolean) (x := gx_bi true) dX5_goesIn_63 rfl (gx_bn true))
      · refine R_s (s_if_ne_t dX5_goesIn_55 rfl (fun hc => h5 ((lgc_eq (x4 &&& (p3 ^^^ (-1))) 0).mp hc))) ?_
        refine R_s (s_iconst dX5_goesIn_62 kci_0) ?_
        exact R_r (r := false) (f_int (ty := .boolean) (x := gx_bi false) dX5_goesIn_63 rfl (gx_bn false))
    · refine R_s (s_icmp_le_f dX5_goesIn_26 rfl h3) ?_
      refine R_s (s_iconst dX5_goesIn_29 kci_0) ?_
      exact R_r (r := false) (f_int (ty := .boolean) (x := gx_bi false) dX5_goesIn_30 rfl (gx_bn false))

def L_X5_costOfRun_6 (p2 : Int32) (p3 : Int32) (μ : gx_M) (a0 : Nat) (p1 : Int32) (k3 : Int32 → Option Int32) : Nat → Int32 → Int32 → Option Int32
  | 0, _, _ => none
  | n + 1, v4_1, v5_2 => gx_ck (gx_ix p2 6 = true) (if (p3 + (μ.1 (a0 + 4) p2.toNatClampNeg)) ≤ v5_2 then k3 v4_1 else if (μ.1 a0 0) ≤ v5_2 then k3 v4_1 else gx_ck (gx_ix v5_2 40 = true) (gx_lt (fun (j0_11 : Int32) => L_X5_costOfRun_6 p2 p3 μ a0 p1 k3 n j0_11 (v5_2 + 1)) (fun J8 => if (μ.1 (a0 + 3) v5_2.toNatClampNeg) = p1 then J8 v4_1 else gx_lt (v4_1 + (μ.1 (a0 + 2) v5_2.toNatClampNeg)) (fun (x10 : Int32) => J8 x10))))
def f_X5_costOfRun (a0 : Nat) (p1 : Int32) (p2 : Int32) (p3 : Int32) (μ : gx_M) : Option Int32 := L_X5_costOfRun_6 p2 p3 μ a0 p1 (fun (x4_13 : Int32) => some x4_13) 4000 0 p3
theorem okL_X5_costOfRun_6 {E : gx_E} {l : Launch} {p2 : Int32} {p3 : Int32} {μ : gx_M} {a0 : Nat} {p1 : Int32} (ha0 : gx_St a0) {k3 : Int32 → Option Int32} (hk : ∀ (w12 : Int32), GoR E l Y_X5_costOfRun 0 gx_eI 57 [none, none, none, none, some (.int w12)] [] μ (k3 w12)) : ∀ (n : Nat) (v4_1 : Int32) (v5_2 : Int32), GoR E l Y_X5_costOfRun 0 gx_eI 6 [some (.ref (E.2.2.1 + a0)), some (.int p1), some (.int p2), some (.int p3), some (.int v4_1), some (.int v5_2)] [] μ (L_X5_costOfRun_6 p2 p3 μ a0 p1 k3 n v4_1 v5_2) := by
  intro n
  induction n with
  | zero => intros; exact R_no
  | succ n ih =>
    intro v4_1 v5_2
    rw [L_X5_costOfRun_6.eq_2]
    refine R_s (s_iload dX5_costOfRun_6 rfl) ?_
    refine R_s (s_iload_n dX5_costOfRun_8 rfl rfl) ?_
    refine R_s (s_aload_n dX5_costOfRun_9 rfl rfl) ?_
    refine R_s (gfm_RX5_21 ha0 rfl dX5_costOfRun_10) ?_
    refine R_s (s_iload_n dX5_costOfRun_13 rfl rfl) ?_
    refine R_ck (fun h4 => ?_)
    refine R_s (s_iald dX5_costOfRun_14 (St_4 ha0) (gx_ixv h4)) ?_
    refine R_s (s_iadd dX5_costOfRun_15) ?_
    refine R_ite (fun h5 => ?_) (fun h5 => ?_)
    · refine R_s (s_icmp_ge_t dX5_costOfRun_16 rfl h5) ?_
      exact R_wk (hk v4_1) (le_o (le_o (le_o (le_o (le_s rfl le_n)))))
    · refine R_s (s_icmp_ge_f dX5_costOfRun_16 rfl h5) ?_
      refine R_s (s_iload dX5_costOfRun_19 rfl) ?_
      refine R_s (s_aload_n dX5_costOfRun_21 rfl rfl) ?_
      refine R_s (gfm_RX5_33 ha0 rfl dX5_costOfRun_22) ?_
      refine R_ite (fun h6 => ?_) (fun h6 => ?_)
      · refine R_s (s_icmp_ge_t dX5_costOfRun_25 rfl h6) ?_
        exact R_wk (hk v4_1) (le_o (le_o (le_o (le_o (le_s rfl le_n)))))
      · refine R_s (s_icmp_ge_f dX5_costOfRun_25 rfl h6) ?_
        refine R_s (s_aload_n dX5_costOfRun_28 rfl rfl) ?_
        refine R_s (gfm_RX5_18 ha0 rfl dX5_costOfRun_29) ?_
        refine R_s (s_iload dX5_costOfRun_32 rfl) ?_
        refine R_ck (fun h7 => ?_)
        refine R_s (s_iald dX5_costOfRun_34 (St_3 ha0) (gx_ixv h7)) ?_
        refine R_s (s_iload_n dX5_costOfRun_35 rfl rfl) ?_
        refine R_fun (fun J => ∀ (j0_11 : Int32), GoR E l Y_X5_costOfRun 0 gx_eI 51 [some (.ref (E.2.2.1 + a0)), some (.int p1), some (.int p2), some (.int p3), some (.int j0_11), some (.int v5_2)] [] μ (J j0_11)) ?_ (fun J8 hJ8 => ?_)
        · intro j0_11
          refine R_s (s_iinc dX5_costOfRun_51 rfl (kinc_1 v5_2) (Nat.le_of_ble_eq_true rfl)) ?_
          refine R_s (s_goto dX5_costOfRun_54 rfl) ?_
          exact R_wk (ih j0_11 (v5_2 + 1)) (le_s rfl (le_s rfl (le_s rfl (le_s rfl (le_s rfl (le_s rfl le_n))))))
        · skip
          refine R_ite (fun h9 => ?_) (fun h9 => ?_)
          · refine R_s (s_icmp_eq_t dX5_costOfRun_36 rfl h9) ?_
            exact R_wk (hJ8 v4_1) (le_s rfl (le_s rfl (le_s rfl (le_s rfl (le_s rfl (le_s rfl le_n))))))
          · refine R_s (s_icmp_eq_f dX5_costOfRun_36 rfl h9) ?_
            refine R_s (s_iload dX5_costOfRun_39 rfl) ?_
            refine R_s (s_aload_n dX5_costOfRun_41 rfl rfl) ?_
            refine R_s (gfm_RX5_15 ha0 rfl dX5_costOfRun_42) ?_
            refine R_s (s_iload dX5_costOfRun_45 rfl) ?_
            refine R_s (s_iald dX5_costOfRun_47 (St_2 ha0) (gx_ixv h7)) ?_
            refine R_s (s_iadd dX5_costOfRun_48) ?_
            refine R_letI (fun x10 => ?_)
            refine R_s (s_istore dX5_costOfRun_49 (Nat.le_of_ble_eq_true rfl)) ?_
            exact R_wk (hJ8 x10) (le_s rfl (le_s rfl (le_s rfl (le_s rfl (le_s rfl (le_s rfl le_n))))))
theorem ev_X5_costOfRun {E : gx_E} {l : Launch} (a0 : Nat) (p1 : Int32) (p2 : Int32) (p3 : Int32) (ha0 : gx_St a0) (μ : gx_M) {r : Int32} (hr : f_X5_costOfRun a0 p1 p2 p3 μ = some r) : gEv E l 0 Y_X5_costOfRun [.ref (E.2.2.1 + a0), .int p1, .int p2, .int p3] gx_G1 μ (gx_eI r) gx_G1 μ := by
  refine R_ev (by decide) (Nat.le_of_ble_eq_true rfl) (em := gx_eI) (T := f_X5_costOfRun a0 p1 p2 p3 μ) ?_ hr
  show GoR E l Y_X5_costOfRun 0 gx_eI 0 (gx_el [.ref (E.2.2.1 + a0), .int p1, .int p2, .int p3]) [] μ (f_X5_costOfRun a0 p1 p2 p3 μ)
  unfold f_X5_costOfRun
  refine R_s (s_iconst dX5_costOfRun_0 kci_0) ?_
  refine R_s (s_istore dX5_costOfRun_1 (Nat.le_of_ble_eq_true rfl)) ?_
  refine R_s (s_iload_n dX5_costOfRun_3 rfl rfl) ?_
  refine R_s (s_istore dX5_costOfRun_4 (Nat.le_of_ble_eq_true rfl)) ?_
  refine R_wk (okL_X5_costOfRun_6 ha0 ?_ 4000 0 p3) (le_s rfl (le_s rfl (le_s rfl (le_s rfl (le_s rfl (le_s rfl le_n))))))
  intro x4_13
  refine R_s (s_iload dX5_costOfRun_57 rfl) ?_
  exact R_r (r := x4_13) (f_int (ty := .int) dX5_costOfRun_59 rfl rfl)

def L_X5_worthOfSet_4 (μ : gx_M) (a0 : Nat) (p1 : Int32) (k3 : Int32 → Option Int32) : Nat → Int32 → Int32 → Option Int32
  | 0, _, _ => none
  | n + 1, v2_1, v3_2 => if (μ.1 a0 2) ≤ v3_2 then k3 v2_1 else gx_lt (fun (j0_9 : Int32) => L_X5_worthOfSet_4 μ a0 p1 k3 n j0_9 (v3_2 + 1)) (fun J5 => if ((p1 >>> (v3_2 &&& 31)) &&& 1) = 1 then gx_ck (gx_ix v3_2 6 = true) (gx_lt (v2_1 + (μ.1 (a0 + 7) v3_2.toNatClampNeg)) (fun (x8 : Int32) => J5 x8)) else J5 v2_1)
def f_X5_worthOfSet (a0 : Nat) (p1 : Int32) (μ : gx_M) : Option Int32 := L_X5_worthOfSet_4 μ a0 p1 (fun (x2_11 : Int32) => some x2_11) 4000 0 0
theorem okL_X5_worthOfSet_4 {E : gx_E} {l : Launch} {μ : gx_M} {a0 : Nat} {p1 : Int32} (ha0 : gx_St a0) {k3 : Int32 → Option Int32} (hk : ∀ (w10 : Int32), GoR E l Y_X5_worthOfSet 0 gx_eI 36 [none, none, some (.int w10)] [] μ (k3 w10)) : ∀ (n : Nat) (v2_1 : Int32) (v3_2 : Int32), GoR E l Y_X5_worthOfSet 0 gx_eI 4 [some (.ref (E.2.2.1 + a0)), some (.int p1), some (.int v2_1), some (.int v3_2)] [] μ (L_X5_worthOfSet_4 μ a0 p1 k3 n v2_1 v3_2) := by
  intro n
  induction n with
  | zero => intros; exact R_no
  | succ n ih =>
    intro v2_1 v3_2
    rw [L_X5_worthOfSet_4.eq_2]
    refine R_s (s_iload_n dX5_worthOfSet_4 rfl rfl) ?_
    refine R_s (s_aload_n dX5_worthOfSet_5 rfl rfl) ?_
    refine R_s (gfm_RX5_40 ha0 rfl dX5_worthOfSet_6) ?_
    refine R_ite (fun h4 => ?_) (fun h4 => ?_)
    · refine R_s (s_icmp_ge_t dX5_worthOfSet_9 rfl h4) ?_
      exact R_wk (hk v2_1) (le_o (le_o (le_s rfl le_n)))
    · refine R_s (s_icmp_ge_f dX5_worthOfSet_9 rfl h4) ?_
      refine R_s (s_iload_n dX5_worthOfSet_12 rfl rfl) ?_
      refine R_s (s_iload_n dX5_worthOfSet_13 rfl rfl) ?_
      refine R_s (s_ishr dX5_worthOfSet_14) ?_
      refine R_s (s_iconst dX5_worthOfSet_15 kci_1) ?_
      refine R_s (s_iand dX5_worthOfSet_16) ?_
      refine R_s (s_iconst dX5_worthOfSet_17 kci_1) ?_
      refine R_fun (fun J => ∀ (j0_9 : Int32), GoR E l Y_X5_worthOfSet 0 gx_eI 30 [some (.ref (E.2.2.1 + a0)), some (.int p1), some (.int j0_9), some (.int v3_2)] [] μ (J j0_9)) ?_ (fun J5 hJ5 => ?_)
      · intro j0_9
        refine R_s (s_iinc dX5_worthOfSet_30 rfl (kinc_1 v3_2) (Nat.le_of_ble_eq_true rfl)) ?_
        refine R_s (s_goto dX5_worthOfSet_33 rfl) ?_
        exact R_wk (ih j0_9 (v3_2 + 1)) (le_s rfl (le_s rfl (le_s rfl (le_s rfl le_n))))
      · skip
        refine R_ite (fun h6 => ?_) (fun h6 => ?_)
        · refine R_s (s_icmp_ne_f dX5_worthOfSet_18 rfl h6) ?_
          refine R_s (s_iload_n dX5_worthOfSet_21 rfl rfl) ?_
          refine R_s (s_aload_n dX5_worthOfSet_22 rfl rfl) ?_
          refine R_s (gfm_RX5_30 ha0 rfl dX5_worthOfSet_23) ?_
          refine R_s (s_iload_n dX5_worthOfSet_26 rfl rfl) ?_
          refine R_ck (fun h7 => ?_)
          refine R_s (s_iald dX5_worthOfSet_27 (St_7 ha0) (gx_ixv h7)) ?_
          refine R_s (s_iadd dX5_worthOfSet_28) ?_
          refine R_letI (fun x8 => ?_)
          refine R_s (s_istore_n dX5_worthOfSet_29 rfl (Nat.le_of_ble_eq_true rfl)) ?_
          exact R_wk (hJ5 x8) (le_s rfl (le_s rfl (le_s rfl (le_s rfl le_n))))
        · refine R_s (s_icmp_ne_t dX5_worthOfSet_18 rfl h6) ?_
          exact R_wk (hJ5 v2_1) (le_s rfl (le_s rfl (le_s rfl (le_s rfl le_n))))
theorem ev_X5_worthOfSet {E : gx_E} {l : Launch} (a0 : Nat) (p1 : Int32) (ha0 : gx_St a0) (μ : gx_M) {r : Int32} (hr : f_X5_worthOfSet a0 p1 μ = some r) : gEv E l 0 Y_X5_worthOfSet [.ref (E.2.2.1 + a0), .int p1] gx_G1 μ (gx_eI r) gx_G1 μ := by
  refine R_ev (by decide) (Nat.le_of_ble_eq_true rfl) (em := gx_eI) (T := f_X5_worthOfSet a0 p1 μ) ?_ hr
  show GoR E l Y_X5_worthOfSet 0 gx_eI 0 (gx_el [.ref (E.2.2.1 + a0), .int p1]) [] μ (f_X5_worthOfSet a0 p1 μ)
  unfold f_X5_worthOfSet
  refine R_s (s_iconst dX5_worthOfSet_0 kci_0) ?_
  refine R_s (s_istore_n dX5_worthOfSet_1 rfl (Nat.le_of_ble_eq_true rfl)) ?_
  refine R_s (s_iconst dX5_worthOfSet_2 kci_0) ?_
  refine R_s (s_istore_n dX5_worthOfSet_3 rfl (Nat.le_of_ble_eq_true rfl)) ?_
  refine R_wk (okL_X5_worthOfSet_4 ha0 ?_ 4000 0 0) (le_s rfl (le_s rfl (le_s rfl (le_s rfl le_n))))
  intro x2_11
  refine R_s (s_iload_n dX5_worthOfSet_36 rfl rfl) ?_
  exact R_r (r := x2_11) (f_int (ty := .int) dX5_worthOfSet_37 rfl rfl)

def f_X6_worthTo (a0 : Nat) (p1 : Int32) (p2 : Int32) (μ : gx_M) : Option Int32 := gx_ck (gx_ix ((p1 * 6) + p2) 36 = true) (some (μ.1 (a0 + 1) ((p1 * 6) + p2).toNatClampNeg))
theorem ev_X6_worthTo {E : gx_E} {l : Launch} (a0 : Nat) (p1 : Int32) (p2 : Int32) (ha0 : gx_Sw a0) (μ : gx_M) {r : Int32} (hr : f_X6_worthTo a0 p1 p2 μ = some r) : gEv E l 0 Y_X6_worthTo [.ref (E.2.2.1 + a0), .int p1, .int p2] gx_G1 μ (gx_eI r) gx_G1 μ := by
  refine R_ev (by decide) (Nat.le_of_ble_eq_true rfl) (em := gx_eI) (T := f_X6_worthTo a0 p1 p2 μ) ?_ hr
  show GoR E l Y_X6_worthTo 0 gx_eI 0 (gx_el [.ref (E.2.2.1 + a0), .int p1, .int p2]) [] μ (f_X6_worthTo a0 p1 p2 μ)
  unfold f_X6_worthTo
  refine R_s (s_aload_n dX6_worthTo_0 rfl rfl) ?_
  refine R_s (gfm_RX6_9 ha0 rfl dX6_worthTo_1) ?_
  refine R_s (s_iload_n dX6_worthTo_4 rfl rfl) ?_
  refine R_s (s_bipush dX6_worthTo_5 kcb_6) ?_
  refine R_s (s_imul dX6_worthTo_7) ?_
  refine R_s (s_iload_n dX6_worthTo_8 rfl rfl) ?_
  refine R_s (s_iadd dX6_worthTo_9) ?_
  refine R_ck (fun h1 => ?_)
  refine R_s (s_iald dX6_worthTo_10 (Sw_1 ha0) (gx_ixv h1)) ?_
  exact R_r (r := (μ.1 (a0 + 1) ((p1 * 6) + p2).toNatClampNeg)) (f_int (ty := .int) dX6_worthTo_11 rfl rfl)

def f_X7_agrees (p1 : Int32) (p2 : Int32) (μ : gx_M) : Bool := gx_lt ((((1 : Int64) <<< ((((p2 - p1) + 1) : Int32).toInt64 &&& 63)) - 1) <<< ((p1 : Int32).toInt64 &&& 63)) (fun (x1 : Int64) => if ((μ.2 82 0) &&& (x1 ^^^ (-1))) = 0 then if ((μ.2 82 1) &&& x1) = 0 then true else false else false)
theorem ev_X7_agrees {E : gx_E} {l : Launch} (p1 : Int32) (p2 : Int32) (μ : gx_M) : gEv E l 0 Y_X7_agrees [.ref (E.2.2.1 + 82), .int p1, .int p2] gx_G1 μ (gx_eB (f_X7_agrees p1 p2 μ)) gx_G1 μ := by
  refine P_ev (by decide) (Nat.le_of_ble_eq_true rfl) (em := gx_eB) (T := f_X7_agrees p1 p2 μ) ?_
  show GoP E l Y_X7_agrees 0 gx_eB 0 (gx_el [.ref (E.2.2.1 + 82), .int p1, .int p2]) [] μ (f_X7_agrees p1 p2 μ)
  unfold f_X7_agrees
  refine P_s (s_lconst dX7_agrees_0 kcl_1) ?_
  refine P_s (s_iload_n dX7_agrees_1 rfl rfl) ?_
  refine P_s (s_iload_n dX7_agrees_2 rfl rfl) ?_
  refine P_s (s_isub dX7_agrees_3) ?_
  refine P_s (s_iconst dX7_agrees_4 kci_1) ?_
  refine P_s (s_iadd dX7_agrees_5) ?_
  refine P_s (s_lshl dX7_agrees_6) ?_
  refine P_s (s_lconst dX7_agrees_7 kcl_1) ?_
  refine P_s (s_lsub dX7_agrees_8) ?_
  refine P_s (s_iload_n dX7_agrees_9 rfl rfl) ?_
  refine P_s (s_lshl dX7_agrees_10) ?_
  refine P_letL (fun x1 => ?_)
  refine P_s (s_lstore_n dX7_agrees_11 rfl (Nat.le_of_ble_eq_true rfl)) ?_
  refine P_s (s_aload_n dX7_agrees_12 rfl rfl) ?_
  refine P_s (gf_RX7_49 rfl dX7_agrees_13) ?_
  refine P_s (s_lload_n dX7_agrees_16 rfl rfl) ?_
  refine P_s (s_ldc2 dX7_agrees_17 kw_RX7_66) ?_
  refine P_s (s_lxor dX7_agrees_20) ?_
  refine P_s (s_land dX7_agrees_21) ?_
  refine P_s (s_lconst dX7_agrees_22 kcl_0) ?_
  refine P_s (s_lcmp dX7_agrees_23) ?_
  refine P_ite (fun h2 => ?_) (fun h2 => ?_)
  · refine P_s (s_if_ne_f dX7_agrees_24 rfl ((lgc_eq ((μ.2 82 0) &&& (x1 ^^^ (-1))) 0).mpr h2)) ?_
    refine P_s (s_aload_n dX7_agrees_27 rfl rfl) ?_
    refine P_s (gf_RX7_53 rfl dX7_agrees_28) ?_
    refine P_s (s_lload_n dX7_agrees_31 rfl rfl) ?_
    refine P_s (s_land dX7_agrees_32) ?_
    refine P_s (s_lconst dX7_agrees_33 kcl_0) ?_
    refine P_s (s_lcmp dX7_agrees_34) ?_
    refine P_ite (fun h3 => ?_) (fun h3 => ?_)
    · refine P_s (s_if_ne_f dX7_agrees_35 rfl ((lgc_eq ((μ.2 82 1) &&& x1) 0).mpr h3)) ?_
      refine P_s (s_iconst dX7_agrees_38 kci_1) ?_
      refine P_s (s_goto dX7_agrees_39 rfl) ?_
      exact P_r (r := true) (f_int (ty := .boolean) (x := gx_bi true) dX7_agrees_43 rfl (gx_bn true))
    · refine P_s (s_if_ne_t dX7_agrees_35 rfl (fun hc => h3 ((lgc_eq ((μ.2 82 1) &&& x1) 0).mp hc))) ?_
      refine P_s (s_iconst dX7_agrees_42 kci_0) ?_
      exact P_r (r := false) (f_int (ty := .boolean) (x := gx_bi false) dX7_agrees_43 rfl (gx_bn false))
  · refine P_s (s_if_ne_t dX7_agrees_24 rfl (fun hc => h2 ((lgc_eq ((μ.2 82 0) &&& (x1 ^^^ (-1))) 0).mp hc))) ?_
    refine P_s (s_iconst dX7_agrees_42 kci_0) ?_
    exact P_r (r := false) (f_int (ty := .boolean) (x := gx_bi false) dX7_agrees_43 rfl (gx_bn false))

def L_X7_minutesIn_4 (μ : gx_M) (p1 : Int32) (k3 : Int32 → Option Int32) : Nat → Int32 → Int32 → Option Int32
  | 0, _, _ => none
  | n + 1, v2_1, v3_2 => if 40 ≤ v3_2 then k3 v2_1 else gx_ck (gx_ix v3_2 40 = true) (gx_lt (fun (j0_8 : Int32) => L_X7_minutesIn_4 μ p1 k3 n j0_8 (v3_2 + 1)) (fun J6 => if (μ.1 83 v3_2.toNatClampNeg) = p1 then J6 (v2_1 + 1) else J6 v2_1))
def f_X7_minutesIn (p1 : Int32) (μ : gx_M) : Option Int32 := L_X7_minutesIn_4 μ p1 (fun (x2_10 : Int32) => some x2_10) 4000 0 0
theorem okL_X7_minutesIn_4 {E : gx_E} {l : Launch} {μ : gx_M} {p1 : Int32} {k3 : Int32 → Option Int32} (hk : ∀ (w9 : Int32), GoR E l Y_X7_minutesIn 0 gx_eI 29 [none, none, some (.int w9)] [] μ (k3 w9)) : ∀ (n : Nat) (v2_1 : Int32) (v3_2 : Int32), GoR E l Y_X7_minutesIn 0 gx_eI 4 [some (.ref (E.2.2.1 + 82)), some (.int p1), some (.int v2_1), some (.int v3_2)] [] μ (L_X7_minutesIn_4 μ p1 k3 n v2_1 v3_2) := by
  intro n
  induction n with
  | zero => intros; exact R_no
  | succ n ih =>
    intro v2_1 v3_2
    rw [L_X7_minutesIn_4.eq_2]
    refine R_s (s_iload_n dX7_minutesIn_4 rfl rfl) ?_
    refine R_s (s_bipush dX7_minutesIn_5 kcb_40) ?_
    refine R_ite (fun h4 => ?_) (fun h4 => ?_)
    · refine R_s (s_icmp_ge_t dX7_minutesIn_7 rfl h4) ?_
      exact R_wk (hk v2_1) (le_o (le_o (le_s rfl le_n)))
    · refine R_s (s_icmp_ge_f dX7_minutesIn_7 rfl h4) ?_
      refine R_s (s_aload_n dX7_minutesIn_10 rfl rfl) ?_
      refine R_s (gf_RX7_9 rfl dX7_minutesIn_11) ?_
      refine R_s (s_iload_n dX7_minutesIn_14 rfl rfl) ?_
      refine R_ck (fun h5 => ?_)
      refine R_s (s_iald dX7_minutesIn_15 g_83 (gx_ixv h5)) ?_
      refine R_s (s_iload_n dX7_minutesIn_16 rfl rfl) ?_
      refine R_fun (fun J => ∀ (j0_8 : Int32), GoR E l Y_X7_minutesIn 0 gx_eI 23 [some (.ref (E.2.2.1 + 82)), some (.int p1), some (.int j0_8), some (.int v3_2)] [] μ (J j0_8)) ?_ (fun J6 hJ6 => ?_)
      · intro j0_8
        refine R_s (s_iinc dX7_minutesIn_23 rfl (kinc_1 v3_2) (Nat.le_of_ble_eq_true rfl)) ?_
        refine R_s (s_goto dX7_minutesIn_26 rfl) ?_
        exact R_wk (ih j0_8 (v3_2 + 1)) (le_s rfl (le_s rfl (le_s rfl (le_s rfl le_n))))
      · skip
        refine R_ite (fun h7 => ?_) (fun h7 => ?_)
        · refine R_s (s_icmp_ne_f dX7_minutesIn_17 rfl h7) ?_
          refine R_s (s_iinc dX7_minutesIn_20 rfl (kinc_1 v2_1) (Nat.le_of_ble_eq_true rfl)) ?_
          exact R_wk (hJ6 (v2_1 + 1)) (le_s rfl (le_s rfl (le_s rfl (le_s rfl le_n))))
        · refine R_s (s_icmp_ne_t dX7_minutesIn_17 rfl h7) ?_
          exact R_wk (hJ6 v2_1) (le_s rfl (le_s rfl (le_s rfl (le_s rfl le_n))))
theorem ev_X7_minutesIn {E : gx_E} {l : Launch} (p1 : Int32) (μ : gx_M) {r : Int32} (hr : f_X7_minutesIn p1 μ = some r) : gEv E l 0 Y_X7_minutesIn [.ref (E.2.2.1 + 82), .int p1] gx_G1 μ (gx_eI r) gx_G1 μ := by
  refine R_ev (by decide) (Nat.le_of_ble_eq_true rfl) (em := gx_eI) (T := f_X7_minutesIn p1 μ) ?_ hr
  show GoR E l Y_X7_minutesIn 0 gx_eI 0 (gx_el [.ref (E.2.2.1 + 82), .int p1]) [] μ (f_X7_minutesIn p1 μ)
  unfold f_X7_minutesIn
  refine R_s (s_iconst dX7_minutesIn_0 kci_0) ?_
  refine R_s (s_istore_n dX7_minutesIn_1 rfl (Nat.le_of_ble_eq_true rfl)) ?_
  refine R_s (s_iconst dX7_minutesIn_2 kci_0) ?_
  refine R_s (s_istore_n dX7_minutesIn_3 rfl (Nat.le_of_ble_eq_true rfl)) ?_
  refine R_wk (okL_X7_minutesIn_4 ?_ 4000 0 0) (le_s rfl (le_s rfl (le_s rfl (le_s rfl le_n))))
  intro x2_10
  refine R_s (s_iload_n dX7_minutesIn_29 rfl rfl) ?_
  exact R_r (r := x2_10) (f_int (ty := .int) dX7_minutesIn_30 rfl rfl)

def f_X8_isLetter (p0 : Int32) : Bool := if p0 < 97 then false else if 122 < p0 then false else true
theorem ev_X8_isLetter {E : gx_E} {l : Launch} (p0 : Int32) (μ : gx_M) : gEv E l 0 Y_X8_isLetter [.int p0] gx_G1 μ (gx_eB (f_X8_isLetter p0)) gx_G1 μ := by
  refine P_ev (by decide) (Nat.le_of_ble_eq_true rfl) (em := gx_eB) (T := f_X8_isLetter p0) ?_
  show GoP E l Y_X8_isLetter 0 gx_eB 0 (gx_el [.int p0]) [] μ (f_X8_isLetter p0)
  unfold f_X8_isLetter
  refine P_s (s_iload_n dX8_isLetter_0 rfl rfl) ?_
  refine P_s (s_bipush dX8_isLetter_1 kcb_97) ?_
  refine P_ite (fun h1 => ?_) (fun h1 => ?_)
  · refine P_s (s_icmp_lt_t dX8_isLetter_3 rfl h1) ?_
    refine P_s (s_iconst dX8_isLetter_16 kci_0) ?_
    exact P_r (r := false) (f_int (ty := .boolean) (x := gx_bi false) dX8_isLetter_17 rfl (gx_bn false))
  · refine P_s (s_icmp_lt_f dX8_isLetter_3 rfl h1) ?_
    refine P_s (s_iload_n dX8_isLetter_6 rfl rfl) ?_
    refine P_s (s_bipush dX8_isLetter_7 kcb_122) ?_
    refine P_ite (fun h2 => ?_) (fun h2 => ?_)
    · refine P_s (s_icmp_gt_t dX8_isLetter_9 rfl h2) ?_
      refine P_s (s_iconst dX8_isLetter_16 kci_0) ?_
      exact P_r (r := false) (f_int (ty := .boolean) (x := gx_bi false) dX8_isLetter_17 rfl (gx_bn false))
    · refine P_s (s_icmp_gt_f dX8_isLetter_9 rfl h2) ?_
      refine P_s (s_iconst dX8_isLetter_12 kci_1) ?_
      refine P_s (s_goto dX8_isLetter_13 rfl) ?_
      exact P_r (r := true) (f_int (ty := .boolean) (x := gx_bi true) dX8_isLetter_17 rfl (gx_bn true))

def f_X8_isDigit (p0 : Int32) : Bool := if p0 < 48 then false else if 57 < p0 then false else true
theorem ev_X8_isDigit {E : gx_E} {l : Launch} (p0 : Int32) (μ : gx_M) : gEv E l 0 Y_X8_isDigit [.int p0] gx_G1 μ (gx_eB (f_X8_isDigit p0)) gx_G1 μ := by
  refine P_ev (by decide) (Nat.le_of_ble_eq_true rfl) (em := gx_eB) (T := f_X8_isDigit p0) ?_
  show GoP E l Y_X8_isDigit 0 gx_eB 0 (gx_el [.int p0]) [] μ (f_X8_isDigit p0)
  unfold f_X8_isDigit
  refine P_s (s_iload_n dX8_isDigit_0 rfl rfl) ?_
  refine P_s (s_bipush dX8_isDigit_1 kcb_48) ?_
  refine P_ite (fun h1 => ?_) (fun h1 => ?_)
  · refine P_s (s_icmp_lt_t dX8_isDigit_3 rfl h1) ?_
    refine P_s (s_iconst dX8_isDigit_16 kci_0) ?_
    exact P_r (r := false) (f_int (ty := .boolean) (x := gx_bi false) dX8_isDigit_17 rfl (gx_bn false))
  · refine P_s (s_icmp_lt_f dX8_isDigit_3 rfl h1) ?_
    refine P_s (s_iload_n dX8_isDigit_6 rfl rfl) ?_
    refine P_s (s_bipush dX8_isDigit_7 kcb_57) ?_
    refine P_ite (fun h2 => ?_) (fun h2 => ?_)
    · refine P_s (s_icmp_gt_t dX8_isDigit_9 rfl h2) ?_
      refine P_s (s_iconst dX8_isDigit_16 kci_0) ?_
      exact P_r (r := false) (f_int (ty := .boolean) (x := gx_bi false) dX8_isDigit_17 rfl (gx_bn false))
    · refine P_s (s_icmp_gt_f dX8_isDigit_9 rfl h2) ?_
      refine P_s (s_iconst dX8_isDigit_12 kci_1) ?_
      refine P_s (s_goto dX8_isDigit_13 rfl) ?_
      exact P_r (r := true) (f_int (ty := .boolean) (x := gx_bi true) dX8_isDigit_17 rfl (gx_bn true))

def L_X9_putNumber_3 (p1 : Int32) (k3 : gx_M → Option (Unit × gx_M)) : Nat → Int32 → gx_M → Option (Unit × gx_M)
  | 0, _, _ => none
  | n + 1, v2_1, μ2 => if v2_1 < 0 then k3 μ2 else if 600 ≤ (μ2.1 1 6) then k3 μ2 else gx_ck (gx_ix (μ2.1 1 6) 600 = true) (gx_lt (gx_uI μ2 7 (μ2.1 1 6).toNatClampNeg (vp_nar .byte (((p1 >>> (v2_1 &&& 31)) : Int32).toInt8.toInt32))) (fun (μ7 : gx_M) => gx_lt (gx_uI μ7 1 6 ((μ7.1 1 6) + 1)) (fun (μ8 : gx_M) => L_X9_putNumber_3 p1 k3 n (v2_1 + (-8)) μ8)))
def f_X9_putNumber (p1 : Int32) (μ : gx_M) : Option (Unit × gx_M) := L_X9_putNumber_3 p1 (fun (μ10 : gx_M) => some ((), μ10)) 4000 24 μ
theorem okL_X9_putNumber_3 {E : gx_E} {l : Launch} {p1 : Int32} {k3 : gx_M → Option (Unit × gx_M)} (hk : ∀ (μ9 : gx_M), GoW E l Y_X9_putNumber 0 gx_eV 46 [] [] μ9 (k3 μ9)) : ∀ (n : Nat) (v2_1 : Int32) (μ2 : gx_M), GoW E l Y_X9_putNumber 0 gx_eV 3 [some (.ref (E.2.2.1 + 1)), some (.int p1), some (.int v2_1)] [] μ2 (L_X9_putNumber_3 p1 k3 n v2_1 μ2) := by
  intro n
  induction n with
  | zero => intros; exact W_no
  | succ n ih =>
    intro v2_1 μ2
    rw [L_X9_putNumber_3.eq_2]
    refine W_s (s_iload_n dX9_putNumber_3 rfl rfl) ?_
    refine W_ite (fun h4 => ?_) (fun h4 => ?_)
    · refine W_s (s_if_lt_t dX9_putNumber_4 rfl h4) ?_
      exact W_wk (hk μ2) le_n
    · refine W_s (s_if_lt_f dX9_putNumber_4 rfl h4) ?_
      refine W_s (s_aload_n dX9_putNumber_7 rfl rfl) ?_
      refine W_s (gf_RX9_65 rfl dX9_putNumber_8) ?_
      refine W_s (s_sipush dX9_putNumber_11 kcs_600) ?_
      refine W_ite (fun h5 => ?_) (fun h5 => ?_)
      · refine W_s (s_icmp_ge_t dX9_putNumber_14 rfl h5) ?_
        exact W_wk (hk μ2) le_n
      · refine W_s (s_icmp_ge_f dX9_putNumber_14 rfl h5) ?_
        refine W_s (s_aload_n dX9_putNumber_17 rfl rfl) ?_
        refine W_s (gf_RX9_36 rfl dX9_putNumber_18) ?_
        refine W_s (s_aload_n dX9_putNumber_21 rfl rfl) ?_
        refine W_s (gf_RX9_65 rfl dX9_putNumber_22) ?_
        refine W_s (s_iload_n dX9_putNumber_25 rfl rfl) ?_
        refine W_s (s_iload_n dX9_putNumber_26 rfl rfl) ?_
        refine W_s (s_ishr dX9_putNumber_27) ?_
        refine W_s (s_i2b dX9_putNumber_28) ?_
        refine W_ck (fun h6 => ?_)
        refine W_s (s_bast dX9_putNumber_29 g_7 (gx_ixv h6)) ?_
        refine W_letM (fun μ7 => ?_)
        refine W_s (s_aload_n dX9_putNumber_30 rfl rfl) ?_
        refine W_s (s_dup dX9_putNumber_31 rfl) ?_
        refine W_s (gf_RX9_65 rfl dX9_putNumber_32) ?_
        refine W_s (s_iconst dX9_putNumber_35 kci_1) ?_
        refine W_s (s_iadd dX9_putNumber_36) ?_
        refine W_s (pf_RX9_65 rfl dX9_putNumber_37) ?_
        refine W_letM (fun μ8 => ?_)
        refine W_s (s_iinc dX9_putNumber_40 rfl (kinc_m8 v2_1) (Nat.le_of_ble_eq_true rfl)) ?_
        refine W_s (s_goto dX9_putNumber_43 rfl) ?_
        exact W_wk (ih (v2_1 + (-8)) μ8) (le_s rfl (le_s rfl (le_s rfl le_n)))
theorem ev_X9_putNumber {E : gx_E} {l : Launch} (p1 : Int32) (μ : gx_M) {r : Unit} {μ' : gx_M} (hr : f_X9_putNumber p1 μ = some (r, μ')) : gEv E l 0 Y_X9_putNumber [.ref (E.2.2.1 + 1), .int p1] gx_G1 μ (gx_eV r) gx_G1 μ' := by
  refine W_ev (by decide) (Nat.le_of_ble_eq_true rfl) (em := gx_eV) (T := f_X9_putNumber p1 μ) ?_ hr
  show GoW E l Y_X9_putNumber 0 gx_eV 0 (gx_el [.ref (E.2.2.1 + 1), .int p1]) [] μ (f_X9_putNumber p1 μ)
  unfold f_X9_putNumber
  refine W_s (s_bipush dX9_putNumber_0 kcb_24) ?_
  refine W_s (s_istore_n dX9_putNumber_2 rfl (Nat.le_of_ble_eq_true rfl)) ?_
  refine W_wk (okL_X9_putNumber_3 ?_ 4000 24 μ) (le_s rfl (le_s rfl (le_s rfl le_n)))
  intro μ10
  exact W_r (r := ()) (f_void dX9_putNumber_46 rfl)

def L_X10_isInRing_9 (p1 : Int32) (μ : gx_M) (k5 : Int32 → Option Bool) : Nat → Int32 → Int32 → Option Bool
  | 0, _, _ => none
  | n + 1, v2_3, v3_4 => if 6 ≤ v3_4 then k5 v2_3 else if v2_3 = p1 then k5 v2_3 else gx_ck (gx_ix v2_3 6 = true) (gx_lt (μ.1 87 v2_3.toNatClampNeg) (fun (x9 : Int32) => L_X10_isInRing_9 p1 μ k5 n x9 (v3_4 + 1)))
def f_X10_isInRing (p1 : Int32) (μ : gx_M) : Option Bool := gx_ck (gx_ix p1 6 = true) (gx_lt (μ.1 87 p1.toNatClampNeg) (fun (x2 : Int32) => L_X10_isInRing_9 p1 μ (fun (x2_11 : Int32) => if x2_11 = p1 then some true else some false) 4000 x2 0))
theorem okL_X10_isInRing_9 {E : gx_E} {l : Launch} {p1 : Int32} {μ : gx_M} {k5 : Int32 → Option Bool} (hk : ∀ (w10 : Int32), GoR E l Y_X10_isInRing 0 gx_eB 33 [none, some (.int p1), some (.int w10)] [] μ (k5 w10)) : ∀ (n : Nat) (v2_3 : Int32) (v3_4 : Int32), GoR E l Y_X10_isInRing 0 gx_eB 9 [some (.ref (E.2.2.1 + 84)), some (.int p1), some (.int v2_3), some (.int v3_4)] [] μ (L_X10_isInRing_9 p1 μ k5 n v2_3 v3_4) := by
  intro n
  induction n with
  | zero => intros; exact R_no
  | succ n ih =>
    intro v2_3 v3_4
    rw [L_X10_isInRing_9.eq_2]
    refine R_s (s_iload_n dX10_isInRing_9 rfl rfl) ?_
    refine R_s (s_bipush dX10_isInRing_10 kcb_6) ?_
    refine R_ite (fun h6 => ?_) (fun h6 => ?_)
    · refine R_s (s_icmp_ge_t dX10_isInRing_12 rfl h6) ?_
      exact R_wk (hk v2_3) (le_o (le_s rfl (le_s rfl le_n)))
    · refine R_s (s_icmp_ge_f dX10_isInRing_12 rfl h6) ?_
      refine R_s (s_iload_n dX10_isInRing_15 rfl rfl) ?_
      refine R_s (s_iload_n dX10_isInRing_16 rfl rfl) ?_
      refine R_ite (fun h7 => ?_) (fun h7 => ?_)
      · refine R_s (s_icmp_eq_t dX10_isInRing_17 rfl h7) ?_
        exact R_wk (hk v2_3) (le_o (le_s rfl (le_s rfl le_n)))
      · refine R_s (s_icmp_eq_f dX10_isInRing_17 rfl h7) ?_
        refine R_s (s_aload_n dX10_isInRing_20 rfl rfl) ?_
        refine R_s (gf_RX10_18 rfl dX10_isInRing_21) ?_
        refine R_s (s_iload_n dX10_isInRing_24 rfl rfl) ?_
        refine R_ck (fun h8 => ?_)
        refine R_s (s_iald dX10_isInRing_25 g_87 (gx_ixv h8)) ?_
        refine R_letI (fun x9 => ?_)
        refine R_s (s_istore_n dX10_isInRing_26 rfl (Nat.le_of_ble_eq_true rfl)) ?_
        refine R_s (s_iinc dX10_isInRing_27 rfl (kinc_1 v3_4) (Nat.le_of_ble_eq_true rfl)) ?_
        refine R_s (s_goto dX10_isInRing_30 rfl) ?_
        exact R_wk (ih x9 (v3_4 + 1)) (le_s rfl (le_s rfl (le_s rfl (le_s rfl le_n))))
theorem ev_X10_isInRing {E : gx_E} {l : Launch} (p1 : Int32) (μ : gx_M) {r : Bool} (hr : f_X10_isInRing p1 μ = some r) : gEv E l 0 Y_X10_isInRing [.ref (E.2.2.1 + 84), .int p1] gx_G1 μ (gx_eB r) gx_G1 μ := by
  refine R_ev (by decide) (Nat.le_of_ble_eq_true rfl) (em := gx_eB) (T := f_X10_isInRing p1 μ) ?_ hr
  show GoR E l Y_X10_isInRing 0 gx_eB 0 (gx_el [.ref (E.2.2.1 + 84), .int p1]) [] μ (f_X10_isInRing p1 μ)
  unfold f_X10_isInRing
  refine R_s (s_aload_n dX10_isInRing_0 rfl rfl) ?_
  refine R_s (gf_RX10_18 rfl dX10_isInRing_1) ?_
  refine R_s (s_iload_n dX10_isInRing_4 rfl rfl) ?_
  refine R_ck (fun h1 => ?_)
  refine R_s (s_iald dX10_isInRing_5 g_87 (gx_ixv h1)) ?_
  refine R_letI (fun x2 => ?_)
  refine R_s (s_istore_n dX10_isInRing_6 rfl (Nat.le_of_ble_eq_true rfl)) ?_
  refine R_s (s_iconst dX10_isInRing_7 kci_0) ?_
  refine R_s (s_istore_n dX10_isInRing_8 rfl (Nat.le_of_ble_eq_true rfl)) ?_
  refine R_wk (okL_X10_isInRing_9 ?_ 4000 x2 0) (le_s rfl (le_s rfl (le_s rfl (le_s rfl le_n))))
  intro x2_11
  refine R_s (s_iload_n dX10_isInRing_33 rfl rfl) ?_
  refine R_s (s_iload_n dX10_isInRing_34 rfl rfl) ?_
  refine R_ite (fun h12 => ?_) (fun h12 => ?_)
  · refine R_s (s_icmp_ne_f dX10_isInRing_35 rfl h12) ?_
    refine R_s (s_iconst dX10_isInRing_38 kci_1) ?_
    refine R_s (s_goto dX10_isInRing_39 rfl) ?_
    exact R_r (r := true) (f_int (ty := .boolean) (x := gx_bi true) dX10_isInRing_43 rfl (gx_bn true))
  · refine R_s (s_icmp_ne_t dX10_isInRing_35 rfl h12) ?_
    refine R_s (s_iconst dX10_isInRing_42 kci_0) ?_
    exact R_r (r := false) (f_int (ty := .boolean) (x := gx_bi false) dX10_isInRing_43 rfl (gx_bn false))

def f_X11_end (p1 : Int32) (μ : gx_M) : Option (Int32 × gx_M) := if p1 < 0 then some ((-1), μ) else if p1 ≤ (μ.1 1 6) then gx_lt (gx_uI μ 1 6 p1) (fun (μ3 : gx_M) => some (p1, μ3)) else some ((-1), μ)
theorem ev_X11_end {E : gx_E} {l : Launch} (p1 : Int32) (μ : gx_M) {r : Int32} {μ' : gx_M} (hr : f_X11_end p1 μ = some (r, μ')) : gEv E l 0 Y_X11_end [.ref (E.2.2.1 + 0), .int p1] gx_G1 μ (gx_eI r) gx_G1 μ' := by
  refine W_ev (by decide) (Nat.le_of_ble_eq_true rfl) (em := gx_eI) (T := f_X11_end p1 μ) ?_ hr
  show GoW E l Y_X11_end 0 gx_eI 0 (gx_el [.ref (E.2.2.1 + 0), .int p1]) [] μ (f_X11_end p1 μ)
  unfold f_X11_end
  refine W_s (s_iload_n dX11_end_0 rfl rfl) ?_
  refine W_ite (fun h1 => ?_) (fun h1 => ?_)
  · refine W_s (s_if_lt_t dX11_end_1 rfl h1) ?_
    refine W_s (s_iconst dX11_end_15 kci_m1) ?_
    exact W_r (r := (-1)) (f_int (ty := .int) dX11_end_16 rfl rfl)
  · refine W_s (s_if_lt_f dX11_end_1 rfl h1) ?_
    refine W_s (s_iload_n dX11_end_4 rfl rfl) ?_
    refine W_s (s_aload_n dX11_end_5 rfl rfl) ?_
    refine W_s (gf_RX11_12 rfl dX11_end_6) ?_
    refine W_s (gf_RX11_70 rfl dX11_end_9) ?_
    refine W_ite (fun h2 => ?_) (fun h2 => ?_)
    · refine W_s (s_icmp_le_t dX11_end_12 rfl h2) ?_
      refine W_s (s_aload_n dX11_end_17 rfl rfl) ?_
      refine W_s (gf_RX11_12 rfl dX11_end_18) ?_
      refine W_s (s_iload_n dX11_end_21 rfl rfl) ?_
      refine W_s (pf_RX11_70 rfl dX11_end_22) ?_
      refine W_letM (fun μ3 => ?_)
      refine W_s (s_iload_n dX11_end_25 rfl rfl) ?_
      exact W_r (r := p1) (f_int (ty := .int) dX11_end_26 rfl rfl)
    · refine W_s (s_icmp_le_f dX11_end_12 rfl h2) ?_
      refine W_s (s_iconst dX11_end_15 kci_m1) ?_
      exact W_r (r := (-1)) (f_int (ty := .int) dX11_end_16 rfl rfl)

def f_X11_placeFor (p1 : Int32) (p2 : Int32) (μ : gx_M) : Option Int32 := if p1 < 0 then some (-1) else if p1 < 4 then gx_ck (gx_ix p1 4 = true) (gx_lt (μ.1 2 p1.toNatClampNeg) (fun (x4 : Int32) => if p2 = (-1) then if 2 ≤ x4 then some (-1) else some x4 else if p2 < 0 then some (-1) else if x4 ≤ p2 then some (-1) else some p2)) else some (-1)
theorem ev_X11_placeFor {E : gx_E} {l : Launch} (p1 : Int32) (p2 : Int32) (μ : gx_M) {r : Int32} (hr : f_X11_placeFor p1 p2 μ = some r) : gEv E l 0 Y_X11_placeFor [.ref (E.2.2.1 + 0), .int p1, .int p2] gx_G1 μ (gx_eI r) gx_G1 μ := by
  refine R_ev (by decide) (Nat.le_of_ble_eq_true rfl) (em := gx_eI) (T := f_X11_placeFor p1 p2 μ) ?_ hr
  show GoR E l Y_X11_placeFor 0 gx_eI 0 (gx_el [.ref (E.2.2.1 + 0), .int p1, .int p2]) [] μ (f_X11_placeFor p1 p2 μ)
  unfold f_X11_placeFor
  refine R_s (s_iload_n dX11_placeFor_0 rfl rfl) ?_
  refine R_ite (fun h1 => ?_) (fun h1 => ?_)
  · refine R_s (s_if_lt_t dX11_placeFor_1 rfl h1) ?_
    refine R_s (s_iconst dX11_placeFor_9 kci_m1) ?_
    exact R_r (r := (-1)) (f_int (ty := .int) dX11_placeFor_10 rfl rfl)
  · refine R_s (s_if_lt_f dX11_placeFor_1 rfl h1) ?_
    refine R_s (s_iload_n dX11_placeFor_4 rfl rfl) ?_
    refine R_s (s_iconst dX11_placeFor_5 kci_4) ?_
    refine R_ite (fun h2 => ?_) (fun h2 => ?_)
    · refine R_s (s_icmp_lt_t dX11_placeFor_6 rfl h2) ?_
      refine R_s (s_aload_n dX11_placeFor_11 rfl rfl) ?_
      refine R_s (gf_RX11_12 rfl dX11_placeFor_12) ?_
      refine R_s (gf_RX11_98 rfl dX11_placeFor_15) ?_
      refine R_s (s_iload_n dX11_placeFor_18 rfl rfl) ?_
      refine R_ck (fun h3 => ?_)
      refine R_s (s_iald dX11_placeFor_19 g_2 (gx_ixv h3)) ?_
      refine R_letI (fun x4 => ?_)
      refine R_s (s_istore_n dX11_placeFor_20 rfl (Nat.le_of_ble_eq_true rfl)) ?_
      refine R_s (s_iload_n dX11_placeFor_21 rfl rfl) ?_
      refine R_s (s_iconst dX11_placeFor_22 kci_m1) ?_
      refine R_ite (fun h5 => ?_) (fun h5 => ?_)
      · refine R_s (s_icmp_ne_f dX11_placeFor_23 rfl h5) ?_
        refine R_s (s_iload_n dX11_placeFor_26 rfl rfl) ?_
        refine R_s (s_iconst dX11_placeFor_27 kci_2) ?_
        refine R_ite (fun h8 => ?_) (fun h8 => ?_)
        · refine R_s (s_icmp_ge_t dX11_placeFor_28 rfl h8) ?_
          refine R_s (s_iconst dX11_placeFor_35 kci_m1) ?_
          exact R_r (r := (-1)) (f_int (ty := .int) dX11_placeFor_36 rfl rfl)
        · refine R_s (s_icmp_ge_f dX11_placeFor_28 rfl h8) ?_
          refine R_s (s_iload_n dX11_placeFor_31 rfl rfl) ?_
          refine R_s (s_goto dX11_placeFor_32 rfl) ?_
          exact R_r (r := x4) (f_int (ty := .int) dX11_placeFor_36 rfl rfl)
      · refine R_s (s_icmp_ne_t dX11_placeFor_23 rfl h5) ?_
        refine R_s (s_iload_n dX11_placeFor_37 rfl rfl) ?_
        refine R_ite (fun h6 => ?_) (fun h6 => ?_)
        · refine R_s (s_if_lt_t dX11_placeFor_38 rfl h6) ?_
          refine R_s (s_iconst dX11_placeFor_50 kci_m1) ?_
          exact R_r (r := (-1)) (f_int (ty := .int) dX11_placeFor_51 rfl rfl)
        · refine R_s (s_if_lt_f dX11_placeFor_38 rfl h6) ?_
          refine R_s (s_iload_n dX11_placeFor_41 rfl rfl) ?_
          refine R_s (s_iload_n dX11_placeFor_42 rfl rfl) ?_
          refine R_ite (fun h7 => ?_) (fun h7 => ?_)
          · refine R_s (s_icmp_ge_t dX11_placeFor_43 rfl h7) ?_
            refine R_s (s_iconst dX11_placeFor_50 kci_m1) ?_
            exact R_r (r := (-1)) (f_int (ty := .int) dX11_placeFor_51 rfl rfl)
          · refine R_s (s_icmp_ge_f dX11_placeFor_43 rfl h7) ?_
            refine R_s (s_iload_n dX11_placeFor_46 rfl rfl) ?_
            refine R_s (s_goto dX11_placeFor_47 rfl) ?_
            exact R_r (r := p2) (f_int (ty := .int) dX11_placeFor_51 rfl rfl)
    · refine R_s (s_icmp_lt_f dX11_placeFor_6 rfl h2) ?_
      refine R_s (s_iconst dX11_placeFor_9 kci_m1) ?_
      exact R_r (r := (-1)) (f_int (ty := .int) dX11_placeFor_10 rfl rfl)

def f_X11_fault (p1 : Int32) (μ : gx_M) : Int32 := if p1 = 0 then (μ.1 1 7) else if p1 = 1 then (μ.1 1 8) else (-1)
theorem ev_X11_fault {E : gx_E} {l : Launch} (p1 : Int32) (μ : gx_M) : gEv E l 0 Y_X11_fault [.ref (E.2.2.1 + 0), .int p1] gx_G1 μ (gx_eI (f_X11_fault p1 μ)) gx_G1 μ := by
  refine P_ev (by decide) (Nat.le_of_ble_eq_true rfl) (em := gx_eI) (T := f_X11_fault p1 μ) ?_
  show GoP E l Y_X11_fault 0 gx_eI 0 (gx_el [.ref (E.2.2.1 + 0), .int p1]) [] μ (f_X11_fault p1 μ)
  unfold f_X11_fault
  refine P_s (s_iload_n dX11_fault_0 rfl rfl) ?_
  refine P_ite (fun h1 => ?_) (fun h1 => ?_)
  · refine P_s (s_if_ne_f dX11_fault_1 rfl h1) ?_
    refine P_s (s_aload_n dX11_fault_4 rfl rfl) ?_
    refine P_s (gf_RX11_12 rfl dX11_fault_5) ?_
    refine P_s (gf_RX11_82 rfl dX11_fault_8) ?_
    exact P_r (r := (μ.1 1 7)) (f_int (ty := .int) dX11_fault_11 rfl rfl)
  · refine P_s (s_if_ne_t dX11_fault_1 rfl h1) ?_
    refine P_s (s_iload_n dX11_fault_12 rfl rfl) ?_
    refine P_s (s_iconst dX11_fault_13 kci_1) ?_
    refine P_ite (fun h2 => ?_) (fun h2 => ?_)
    · refine P_s (s_icmp_ne_f dX11_fault_14 rfl h2) ?_
      refine P_s (s_aload_n dX11_fault_17 rfl rfl) ?_
      refine P_s (gf_RX11_12 rfl dX11_fault_18) ?_
      refine P_s (gf_RX11_85 rfl dX11_fault_21) ?_
      refine P_s (s_goto dX11_fault_24 rfl) ?_
      exact P_r (r := (μ.1 1 8)) (f_int (ty := .int) dX11_fault_28 rfl rfl)
    · refine P_s (s_icmp_ne_t dX11_fault_14 rfl h2) ?_
      refine P_s (s_iconst dX11_fault_27 kci_m1) ?_
      exact P_r (r := (-1)) (f_int (ty := .int) dX11_fault_28 rfl rfl)

def f_X11_count (p1 : Int32) (μ : gx_M) : Option Int32 := if p1 < 0 then some (-2) else if 4 ≤ p1 then some (-2) else gx_ck (gx_ix p1 4 = true) (some (μ.1 2 p1.toNatClampNeg))
theorem ev_X11_count {E : gx_E} {l : Launch} (p1 : Int32) (μ : gx_M) {r : Int32} (hr : f_X11_count p1 μ = some r) : gEv E l 0 Y_X11_count [.ref (E.2.2.1 + 0), .int p1] gx_G1 μ (gx_eI r) gx_G1 μ := by
  refine R_ev (by decide) (Nat.le_of_ble_eq_true rfl) (em := gx_eI) (T := f_X11_count p1 μ) ?_ hr
  show GoR E l Y_X11_count 0 gx_eI 0 (gx_el [.ref (E.2.2.1 + 0), .int p1]) [] μ (f_X11_count p1 μ)
  unfold f_X11_count
  refine R_s (s_iload_n dX11_count_0 rfl rfl) ?_
  refine R_ite (fun h1 => ?_) (fun h1 => ?_)
  · refine R_s (s_if_lt_t dX11_count_1 rfl h1) ?_
    refine R_s (s_bipush dX11_count_21 kcb_m2) ?_
    exact R_r (r := (-2)) (f_int (ty := .int) dX11_count_23 rfl rfl)
  · refine R_s (s_if_lt_f dX11_count_1 rfl h1) ?_
    refine R_s (s_iload_n dX11_count_4 rfl rfl) ?_
    refine R_s (s_iconst dX11_count_5 kci_4) ?_
    refine R_ite (fun h2 => ?_) (fun h2 => ?_)
    · refine R_s (s_icmp_ge_t dX11_count_6 rfl h2) ?_
      refine R_s (s_bipush dX11_count_21 kcb_m2) ?_
      exact R_r (r := (-2)) (f_int (ty := .int) dX11_count_23 rfl rfl)
    · refine R_s (s_icmp_ge_f dX11_count_6 rfl h2) ?_
      refine R_s (s_aload_n dX11_count_9 rfl rfl) ?_
      refine R_s (gf_RX11_12 rfl dX11_count_10) ?_
      refine R_s (gf_RX11_98 rfl dX11_count_13) ?_
      refine R_s (s_iload_n dX11_count_16 rfl rfl) ?_
      refine R_ck (fun h3 => ?_)
      refine R_s (s_iald dX11_count_17 g_2 (gx_ixv h3)) ?_
      refine R_s (s_goto dX11_count_18 rfl) ?_
      exact R_r (r := (μ.1 2 p1.toNatClampNeg)) (f_int (ty := .int) dX11_count_23 rfl rfl)

def f_X11_hasStreet (p1 : Int32) (μ : gx_M) : Option Bool := if p1 < 0 then some false else if (μ.1 2 0) ≤ p1 then some false else some true
theorem ev_X11_hasStreet {E : gx_E} {l : Launch} (p1 : Int32) (μ : gx_M) {r : Bool} (hr : f_X11_hasStreet p1 μ = some r) : gEv E l 0 Y_X11_hasStreet [.ref (E.2.2.1 + 0), .int p1] gx_G1 μ (gx_eB r) gx_G1 μ := by
  refine R_ev (by decide) (Nat.le_of_ble_eq_true rfl) (em := gx_eB) (T := f_X11_hasStreet p1 μ) ?_ hr
  show GoR E l Y_X11_hasStreet 0 gx_eB 0 (gx_el [.ref (E.2.2.1 + 0), .int p1]) [] μ (f_X11_hasStreet p1 μ)
  unfold f_X11_hasStreet
  refine R_s (s_iload_n dX11_hasStreet_0 rfl rfl) ?_
  refine R_ite (fun h1 => ?_) (fun h1 => ?_)
  · refine R_s (s_if_lt_t dX11_hasStreet_1 rfl h1) ?_
    refine R_s (s_iconst dX11_hasStreet_21 kci_0) ?_
    exact R_r (r := false) (f_int (ty := .boolean) (x := gx_bi false) dX11_hasStreet_22 rfl (gx_bn false))
  · refine R_s (s_if_lt_f dX11_hasStreet_1 rfl h1) ?_
    refine R_s (s_iload_n dX11_hasStreet_4 rfl rfl) ?_
    refine R_s (s_aload_n dX11_hasStreet_5 rfl rfl) ?_
    refine R_s (gf_RX11_12 rfl dX11_hasStreet_6) ?_
    refine R_s (gf_RX11_98 rfl dX11_hasStreet_9) ?_
    refine R_s (s_iconst dX11_hasStreet_12 kci_0) ?_
    refine R_s (s_ialdL (k := 0) dX11_hasStreet_13 g_2 (gx_inl (by decide)) (by decide)) ?_
    refine R_ite (fun h2 => ?_) (fun h2 => ?_)
    · refine R_s (s_icmp_ge_t dX11_hasStreet_14 rfl h2) ?_
      refine R_s (s_iconst dX11_hasStreet_21 kci_0) ?_
      exact R_r (r := false) (f_int (ty := .boolean) (x := gx_bi false) dX11_hasStreet_22 rfl (gx_bn false))
    · refine R_s (s_icmp_ge_f dX11_hasStreet_14 rfl h2) ?_
      refine R_s (s_iconst dX11_hasStreet_17 kci_1) ?_
      refine R_s (s_goto dX11_hasStreet_18 rfl) ?_
      exact R_r (r := true) (f_int (ty := .boolean) (x := gx_bi true) dX11_hasStreet_22 rfl (gx_bn true))

def f_X11_hasYear (p1 : Int32) (μ : gx_M) : Option Bool := if p1 < 0 then some false else if (μ.1 2 1) ≤ p1 then some false else some true
theorem ev_X11_hasYear {E : gx_E} {l : Launch} (p1 : Int32) (μ : gx_M) {r : Bool} (hr : f_X11_hasYear p1 μ = some r) : gEv E l 0 Y_X11_hasYear [.ref (E.2.2.1 + 0), .int p1] gx_G1 μ (gx_eB r) gx_G1 μ := by
  refine R_ev (by decide) (Nat.le_of_ble_eq_true rfl) (em := gx_eB) (T := f_X11_hasYear p1 μ) ?_ hr
  show GoR E l Y_X11_hasYear 0 gx_eB 0 (gx_el [.ref (E.2.2.1 + 0), .int p1]) [] μ (f_X11_hasYear p1 μ)
  unfold f_X11_hasYear
  refine R_s (s_iload_n dX11_hasYear_0 rfl rfl) ?_
  refine R_ite (fun h1 => ?_) (fun h1 => ?_)
  · refine R_s (s_if_lt_t dX11_hasYear_1 rfl h1) ?_
    refine R_s (s_iconst dX11_hasYear_21 kci_0) ?_
    exact R_r (r := false) (f_int (ty := .boolean) (x := gx_bi false) dX11_hasYear_22 rfl (gx_bn false))
  · refine R_s (s_if_lt_f dX11_hasYear_1 rfl h1) ?_
    refine R_s (s_iload_n dX11_hasYear_4 rfl rfl) ?_
    refine R_s (s_aload_n dX11_hasYear_5 rfl rfl) ?_
    refine R_s (gf_RX11_12 rfl dX11_hasYear_6) ?_
    refine R_s (gf_RX11_98 rfl dX11_hasYear_9) ?_
    refine R_s (s_iconst dX11_hasYear_12 kci_1) ?_
    refine R_s (s_ialdL (k := 1) dX11_hasYear_13 g_2 (gx_inl (by decide)) (by decide)) ?_
    refine R_ite (fun h2 => ?_) (fun h2 => ?_)
    · refine R_s (s_icmp_ge_t dX11_hasYear_14 rfl h2) ?_
      refine R_s (s_iconst dX11_hasYear_21 kci_0) ?_
      exact R_r (r := false) (f_int (ty := .boolean) (x := gx_bi false) dX11_hasYear_22 rfl (gx_bn false))
    · refine R_s (s_icmp_ge_f dX11_hasYear_14 rfl h2) ?_
      refine R_s (s_iconst dX11_hasYear_17 kci_1) ?_
      refine R_s (s_goto dX11_hasYear_18 rfl) ?_
      exact R_r (r := true) (f_int (ty := .boolean) (x := gx_bi true) dX11_hasYear_22 rfl (gx_bn true))

def f_X11_hasLog (p1 : Int32) (μ : gx_M) : Option Bool := if p1 < 0 then some false else if (μ.1 2 2) ≤ p1 then some false else some true
theorem ev_X11_hasLog {E : gx_E} {l : Launch} (p1 : Int32) (μ : gx_M) {r : Bool} (hr : f_X11_hasLog p1 μ = some r) : gEv E l 0 Y_X11_hasLog [.ref (E.2.2.1 + 0), .int p1] gx_G1 μ (gx_eB r) gx_G1 μ := by
  refine R_ev (by decide) (Nat.le_of_ble_eq_true rfl) (em := gx_eB) (T := f_X11_hasLog p1 μ) ?_ hr
  show GoR E l Y_X11_hasLog 0 gx_eB 0 (gx_el [.ref (E.2.2.1 + 0), .int p1]) [] μ (f_X11_hasLog p1 μ)
  unfold f_X11_hasLog
  refine R_s (s_iload_n dX11_hasLog_0 rfl rfl) ?_
  refine R_ite (fun h1 => ?_) (fun h1 => ?_)
  · refine R_s (s_if_lt_t dX11_hasLog_1 rfl h1) ?_
    refine R_s (s_iconst dX11_hasLog_21 kci_0) ?_
    exact R_r (r := false) (f_int (ty := .boolean) (x := gx_bi false) dX11_hasLog_22 rfl (gx_bn false))
  · refine R_s (s_if_lt_f dX11_hasLog_1 rfl h1) ?_
    refine R_s (s_iload_n dX11_hasLog_4 rfl rfl) ?_
    refine R_s (s_aload_n dX11_hasLog_5 rfl rfl) ?_
    refine R_s (gf_RX11_12 rfl dX11_hasLog_6) ?_
    refine R_s (gf_RX11_98 rfl dX11_hasLog_9) ?_
    refine R_s (s_iconst dX11_hasLog_12 kci_2) ?_
    refine R_s (s_ialdL (k := 2) dX11_hasLog_13 g_2 (gx_inl (by decide)) (by decide)) ?_
    refine R_ite (fun h2 => ?_) (fun h2 => ?_)
    · refine R_s (s_icmp_ge_t dX11_hasLog_14 rfl h2) ?_
      refine R_s (s_iconst dX11_hasLog_21 kci_0) ?_
      exact R_r (r := false) (f_int (ty := .boolean) (x := gx_bi false) dX11_hasLog_22 rfl (gx_bn false))
    · refine R_s (s_icmp_ge_f dX11_hasLog_14 rfl h2) ?_
      refine R_s (s_iconst dX11_hasLog_17 kci_1) ?_
      refine R_s (s_goto dX11_hasLog_18 rfl) ?_
      exact R_r (r := true) (f_int (ty := .boolean) (x := gx_bi true) dX11_hasLog_22 rfl (gx_bn true))

def f_X11_hasSwaps (p1 : Int32) (μ : gx_M) : Option Bool := if p1 < 0 then some false else if (μ.1 2 3) ≤ p1 then some false else some true
theorem ev_X11_hasSwaps {E : gx_E} {l : Launch} (p1 : Int32) (μ : gx_M) {r : Bool} (hr : f_X11_hasSwaps p1 μ = some r) : gEv E l 0 Y_X11_hasSwaps [.ref (E.2.2.1 + 0), .int p1] gx_G1 μ (gx_eB r) gx_G1 μ := by
  refine R_ev (by decide) (Nat.le_of_ble_eq_true rfl) (em := gx_eB) (T := f_X11_hasSwaps p1 μ) ?_ hr
  show GoR E l Y_X11_hasSwaps 0 gx_eB 0 (gx_el [.ref (E.2.2.1 + 0), .int p1]) [] μ (f_X11_hasSwaps p1 μ)
  unfold f_X11_hasSwaps
  refine R_s (s_iload_n dX11_hasSwaps_0 rfl rfl) ?_
  refine R_ite (fun h1 => ?_) (fun h1 => ?_)
  · refine R_s (s_if_lt_t dX11_hasSwaps_1 rfl h1) ?_
    refine R_s (s_iconst dX11_hasSwaps_21 kci_0) ?_
    exact R_r (r := false) (f_int (ty := .boolean) (x := gx_bi false) dX11_hasSwaps_22 rfl (gx_bn false))
  · refine R_s (s_if_lt_f dX11_hasSwaps_1 rfl h1) ?_
    refine R_s (s_iload_n dX11_hasSwaps_4 rfl rfl) ?_
    refine R_s (s_aload_n dX11_hasSwaps_5 rfl rfl) ?_
    refine R_s (gf_RX11_12 rfl dX11_hasSwaps_6) ?_
    refine R_s (gf_RX11_98 rfl dX11_hasSwaps_9) ?_
    refine R_s (s_iconst dX11_hasSwaps_12 kci_3) ?_
    refine R_s (s_ialdL (k := 3) dX11_hasSwaps_13 g_2 (gx_inl (by decide)) (by decide)) ?_
    refine R_ite (fun h2 => ?_) (fun h2 => ?_)
    · refine R_s (s_icmp_ge_t dX11_hasSwaps_14 rfl h2) ?_
      refine R_s (s_iconst dX11_hasSwaps_21 kci_0) ?_
      exact R_r (r := false) (f_int (ty := .boolean) (x := gx_bi false) dX11_hasSwaps_22 rfl (gx_bn false))
    · refine R_s (s_icmp_ge_f dX11_hasSwaps_14 rfl h2) ?_
      refine R_s (s_iconst dX11_hasSwaps_17 kci_1) ?_
      refine R_s (s_goto dX11_hasSwaps_18 rfl) ?_
      exact R_r (r := true) (f_int (ty := .boolean) (x := gx_bi true) dX11_hasSwaps_22 rfl (gx_bn true))

def f_X11_isAmong (p0 : Int32) (p1 : Int32) (p2 : Int32) : Bool := if p0 < p1 then false else if (p1 + p2) ≤ p0 then false else true
theorem ev_X11_isAmong {E : gx_E} {l : Launch} (p0 : Int32) (p1 : Int32) (p2 : Int32) (μ : gx_M) : gEv E l 0 Y_X11_isAmong [.int p0, .int p1, .int p2] gx_G1 μ (gx_eB (f_X11_isAmong p0 p1 p2)) gx_G1 μ := by
  refine P_ev (by decide) (Nat.le_of_ble_eq_true rfl) (em := gx_eB) (T := f_X11_isAmong p0 p1 p2) ?_
  show GoP E l Y_X11_isAmong 0 gx_eB 0 (gx_el [.int p0, .int p1, .int p2]) [] μ (f_X11_isAmong p0 p1 p2)
  unfold f_X11_isAmong
  refine P_s (s_iload_n dX11_isAmong_0 rfl rfl) ?_
  refine P_s (s_iload_n dX11_isAmong_1 rfl rfl) ?_
  refine P_ite (fun h1 => ?_) (fun h1 => ?_)
  · refine P_s (s_icmp_lt_t dX11_isAmong_2 rfl h1) ?_
    refine P_s (s_iconst dX11_isAmong_16 kci_0) ?_
    exact P_r (r := false) (f_int (ty := .boolean) (x := gx_bi false) dX11_isAmong_17 rfl (gx_bn false))
  · refine P_s (s_icmp_lt_f dX11_isAmong_2 rfl h1) ?_
    refine P_s (s_iload_n dX11_isAmong_5 rfl rfl) ?_
    refine P_s (s_iload_n dX11_isAmong_6 rfl rfl) ?_
    refine P_s (s_iload_n dX11_isAmong_7 rfl rfl) ?_
    refine P_s (s_iadd dX11_isAmong_8) ?_
    refine P_ite (fun h2 => ?_) (fun h2 => ?_)
    · refine P_s (s_icmp_ge_t dX11_isAmong_9 rfl h2) ?_
      refine P_s (s_iconst dX11_isAmong_16 kci_0) ?_
      exact P_r (r := false) (f_int (ty := .boolean) (x := gx_bi false) dX11_isAmong_17 rfl (gx_bn false))
    · refine P_s (s_icmp_ge_f dX11_isAmong_9 rfl h2) ?_
      refine P_s (s_iconst dX11_isAmong_12 kci_1) ?_
      refine P_s (s_goto dX11_isAmong_13 rfl) ?_
      exact P_r (r := true) (f_int (ty := .boolean) (x := gx_bi true) dX11_isAmong_17 rfl (gx_bn true))

def L_X11_marginOf_6 (p2 : Int32) (p3 : Int32) (μ : gx_M) (a1 : Nat) (k3 : Int32 → Option Int32) : Nat → Int32 → Int32 → Option Int32
  | 0, _, _ => none
  | n + 1, v4_1, v5_2 => if (p2 + p3) ≤ v5_2 then k3 v4_1 else gx_ck (gx_ix v5_2 40 = true) (gx_lt (v4_1 + (μ.1 (a1 + 2) v5_2.toNatClampNeg)) (fun (x6 : Int32) => L_X11_marginOf_6 p2 p3 μ a1 k3 n x6 (v5_2 + 1)))
def f_X11_marginOf (a1 : Nat) (p2 : Int32) (p3 : Int32) (μ : gx_M) : Option Int32 := L_X11_marginOf_6 p2 p3 μ a1 (fun (x4_8 : Int32) => gx_ck (gx_ix (p2 + p3) 41 = true) (some (x4_8 - (μ.1 88 (p2 + p3).toNatClampNeg)))) 4000 0 p2
theorem okL_X11_marginOf_6 {E : gx_E} {l : Launch} {p2 : Int32} {p3 : Int32} {μ : gx_M} {a1 : Nat} (ha1 : gx_St a1) {k3 : Int32 → Option Int32} (hk : ∀ (w7 : Int32), GoR E l Y_X11_marginOf 0 gx_eI 32 [some (.ref (E.2.2.1 + 0)), none, some (.int p2), some (.int p3), some (.int w7)] [] μ (k3 w7)) : ∀ (n : Nat) (v4_1 : Int32) (v5_2 : Int32), GoR E l Y_X11_marginOf 0 gx_eI 6 [some (.ref (E.2.2.1 + 0)), some (.ref (E.2.2.1 + a1)), some (.int p2), some (.int p3), some (.int v4_1), some (.int v5_2)] [] μ (L_X11_marginOf_6 p2 p3 μ a1 k3 n v4_1 v5_2) := by
  intro n
  induction n with
  | zero => intros; exact R_no
  | succ n ih =>
    intro v4_1 v5_2
    rw [L_X11_marginOf_6.eq_2]
    refine R_s (s_iload dX11_marginOf_6 rfl) ?_
    refine R_s (s_iload_n dX11_marginOf_8 rfl rfl) ?_
    refine R_s (s_iload_n dX11_marginOf_9 rfl rfl) ?_
    refine R_s (s_iadd dX11_marginOf_10) ?_
    refine R_ite (fun h4 => ?_) (fun h4 => ?_)
    · refine R_s (s_icmp_ge_t dX11_marginOf_11 rfl h4) ?_
      exact R_wk (hk v4_1) (le_s rfl (le_o (le_s rfl (le_s rfl (le_s rfl le_n)))))
    · refine R_s (s_icmp_ge_f dX11_marginOf_11 rfl h4) ?_
      refine R_s (s_iload dX11_marginOf_14 rfl) ?_
      refine R_s (s_aload_n dX11_marginOf_16 rfl rfl) ?_
      refine R_s (gfm_RX11_155 ha1 rfl dX11_marginOf_17) ?_
      refine R_s (s_iload dX11_marginOf_20 rfl) ?_
      refine R_ck (fun h5 => ?_)
      refine R_s (s_iald dX11_marginOf_22 (St_2 ha1) (gx_ixv h5)) ?_
      refine R_s (s_iadd dX11_marginOf_23) ?_
      refine R_letI (fun x6 => ?_)
      refine R_s (s_istore dX11_marginOf_24 (Nat.le_of_ble_eq_true rfl)) ?_
      refine R_s (s_iinc dX11_marginOf_26 rfl (kinc_1 v5_2) (Nat.le_of_ble_eq_true rfl)) ?_
      refine R_s (s_goto dX11_marginOf_29 rfl) ?_
      exact R_wk (ih x6 (v5_2 + 1)) (le_s rfl (le_s rfl (le_s rfl (le_s rfl (le_s rfl (le_s rfl le_n))))))
theorem ev_X11_marginOf {E : gx_E} {l : Launch} (a1 : Nat) (p2 : Int32) (p3 : Int32) (ha1 : gx_St a1) (μ : gx_M) {r : Int32} (hr : f_X11_marginOf a1 p2 p3 μ = some r) : gEv E l 0 Y_X11_marginOf [.ref (E.2.2.1 + 0), .ref (E.2.2.1 + a1), .int p2, .int p3] gx_G1 μ (gx_eI r) gx_G1 μ := by
  refine R_ev (by decide) (Nat.le_of_ble_eq_true rfl) (em := gx_eI) (T := f_X11_marginOf a1 p2 p3 μ) ?_ hr
  show GoR E l Y_X11_marginOf 0 gx_eI 0 (gx_el [.ref (E.2.2.1 + 0), .ref (E.2.2.1 + a1), .int p2, .int p3]) [] μ (f_X11_marginOf a1 p2 p3 μ)
  unfold f_X11_marginOf
  refine R_s (s_iconst dX11_marginOf_0 kci_0) ?_
  refine R_s (s_istore dX11_marginOf_1 (Nat.le_of_ble_eq_true rfl)) ?_
  refine R_s (s_iload_n dX11_marginOf_3 rfl rfl) ?_
  refine R_s (s_istore dX11_marginOf_4 (Nat.le_of_ble_eq_true rfl)) ?_
  refine R_wk (okL_X11_marginOf_6 ha1 ?_ 4000 0 p2) (le_s rfl (le_s rfl (le_s rfl (le_s rfl (le_s rfl (le_s rfl le_n))))))
  intro x4_8
  refine R_s (s_iload dX11_marginOf_32 rfl) ?_
  refine R_s (s_aload_n dX11_marginOf_34 rfl rfl) ?_
  refine R_s (gf_RX11_66 rfl dX11_marginOf_35) ?_
  refine R_s (s_iload_n dX11_marginOf_38 rfl rfl) ?_
  refine R_s (s_iload_n dX11_marginOf_39 rfl rfl) ?_
  refine R_s (s_iadd dX11_marginOf_40) ?_
  refine R_ck (fun h9 => ?_)
  refine R_s (s_iald dX11_marginOf_41 g_88 (gx_ixv h9)) ?_
  refine R_s (s_isub dX11_marginOf_42) ?_
  exact R_r (r := (x4_8 - (μ.1 88 (p2 + p3).toNatClampNeg))) (f_int (ty := .int) dX11_marginOf_43 rfl rfl)

def L_X11_picks_5 (p1 : Int32) (p0 : Int32) (k3 : Int64 → Option Int64) : Nat → Int64 → Int32 → Option Int64
  | 0, _, _ => none
  | n + 1, v2_1, v4_2 => if p1 < v4_2 then k3 v2_1 else gx_ck (¬ ((v4_2 : Int32).toInt64) = 0) (gx_lt ((v2_1 * ((((p0 - p1) + v4_2) : Int32).toInt64)) / ((v4_2 : Int32).toInt64)) (fun (x6 : Int64) => L_X11_picks_5 p1 p0 k3 n x6 (v4_2 + 1)))
def f_X11_picks (p0 : Int32) (p1 : Int32) (μ : gx_M) : Option Int64 := L_X11_picks_5 p1 p0 (fun (x2_8 : Int64) => some x2_8) 4000 1 1
theorem okL_X11_picks_5 {E : gx_E} {l : Launch} {p1 : Int32} {p0 : Int32} {μ : gx_M} {k3 : Int64 → Option Int64} (hk : ∀ (w7 : Int64), GoR E l Y_X11_picks 0 gx_eL 31 [none, none, some (.long w7)] [] μ (k3 w7)) : ∀ (n : Nat) (v2_1 : Int64) (v4_2 : Int32), GoR E l Y_X11_picks 0 gx_eL 5 [some (.int p0), some (.int p1), some (.long v2_1), none, some (.int v4_2)] [] μ (L_X11_picks_5 p1 p0 k3 n v2_1 v4_2) := by
  intro n
  induction n with
  | zero => intros; exact R_no
  | succ n ih =>
    intro v2_1 v4_2
    rw [L_X11_picks_5.eq_2]
    refine R_s (s_iload dX11_picks_5 rfl) ?_
    refine R_s (s_iload_n dX11_picks_7 rfl rfl) ?_
    refine R_ite (fun h4 => ?_) (fun h4 => ?_)
    · refine R_s (s_icmp_gt_t dX11_picks_8 rfl h4) ?_
      exact R_wk (hk v2_1) (le_o (le_o (le_s rfl le_n)))
    · refine R_s (s_icmp_gt_f dX11_picks_8 rfl h4) ?_
      refine R_s (s_lload_n dX11_picks_11 rfl rfl) ?_
      refine R_s (s_iload_n dX11_picks_12 rfl rfl) ?_
      refine R_s (s_iload_n dX11_picks_13 rfl rfl) ?_
      refine R_s (s_isub dX11_picks_14) ?_
      refine R_s (s_iload dX11_picks_15 rfl) ?_
      refine R_s (s_iadd dX11_picks_17) ?_
      refine R_s (s_i2l dX11_picks_18) ?_
      refine R_s (s_lmul dX11_picks_19) ?_
      refine R_s (s_iload dX11_picks_20 rfl) ?_
      refine R_s (s_i2l dX11_picks_22) ?_
      refine R_ck (fun h5 => ?_)
      refine R_s (s_ldiv dX11_picks_23 h5) ?_
      refine R_letL (fun x6 => ?_)
      refine R_s (s_lstore_n dX11_picks_24 rfl (Nat.le_of_ble_eq_true rfl)) ?_
      refine R_s (s_iinc dX11_picks_25 rfl (kinc_1 v4_2) (Nat.le_of_ble_eq_true rfl)) ?_
      refine R_s (s_goto dX11_picks_28 rfl) ?_
      exact R_wk (ih x6 (v4_2 + 1)) (le_s rfl (le_s rfl (le_s rfl (le_o (le_s rfl le_n)))))
theorem ev_X11_picks {E : gx_E} {l : Launch} (p0 : Int32) (p1 : Int32) (μ : gx_M) {r : Int64} (hr : f_X11_picks p0 p1 μ = some r) : gEv E l 0 Y_X11_picks [.int p0, .int p1] gx_G1 μ (gx_eL r) gx_G1 μ := by
  refine R_ev (by decide) (Nat.le_of_ble_eq_true rfl) (em := gx_eL) (T := f_X11_picks p0 p1 μ) ?_ hr
  show GoR E l Y_X11_picks 0 gx_eL 0 (gx_el [.int p0, .int p1]) [] μ (f_X11_picks p0 p1 μ)
  unfold f_X11_picks
  refine R_s (s_lconst dX11_picks_0 kcl_1) ?_
  refine R_s (s_lstore_n dX11_picks_1 rfl (Nat.le_of_ble_eq_true rfl)) ?_
  refine R_s (s_iconst dX11_picks_2 kci_1) ?_
  refine R_s (s_istore dX11_picks_3 (Nat.le_of_ble_eq_true rfl)) ?_
  refine R_wk (okL_X11_picks_5 ?_ 4000 1 1) (le_s rfl (le_s rfl (le_s rfl (le_o (le_s rfl le_n)))))
  intro x2_8
  refine R_s (s_lload_n dX11_picks_31 rfl rfl) ?_
  exact R_r (r := x2_8) (f_long dX11_picks_32 rfl)

def L_X11_power_5 (p2 : Int32) (p0 : Int64) (k3 : Int64 → Option Int64) : Nat → Int64 → Int32 → Option Int64
  | 0, _, _ => none
  | n + 1, v3_1, v5_2 => if p2 ≤ v5_2 then k3 v3_1 else gx_lt (v3_1 * p0) (fun (x5 : Int64) => L_X11_power_5 p2 p0 k3 n x5 (v5_2 + 1))
def f_X11_power (p0 : Int64) (p2 : Int32) (μ : gx_M) : Option Int64 := L_X11_power_5 p2 p0 (fun (x3_7 : Int64) => some x3_7) 4000 1 0
theorem okL_X11_power_5 {E : gx_E} {l : Launch} {p2 : Int32} {p0 : Int64} {μ : gx_M} {k3 : Int64 → Option Int64} (hk : ∀ (w6 : Int64), GoR E l Y_X11_power 0 gx_eL 21 [none, none, none, some (.long w6)] [] μ (k3 w6)) : ∀ (n : Nat) (v3_1 : Int64) (v5_2 : Int32), GoR E l Y_X11_power 0 gx_eL 5 [some (.long p0), none, some (.int p2), some (.long v3_1), none, some (.int v5_2)] [] μ (L_X11_power_5 p2 p0 k3 n v3_1 v5_2) := by
  intro n
  induction n with
  | zero => intros; exact R_no
  | succ n ih =>
    intro v3_1 v5_2
    rw [L_X11_power_5.eq_2]
    refine R_s (s_iload dX11_power_5 rfl) ?_
    refine R_s (s_iload_n dX11_power_7 rfl rfl) ?_
    refine R_ite (fun h4 => ?_) (fun h4 => ?_)
    · refine R_s (s_icmp_ge_t dX11_power_8 rfl h4) ?_
      exact R_wk (hk v3_1) (le_o (le_o (le_o (le_s rfl le_n))))
    · refine R_s (s_icmp_ge_f dX11_power_8 rfl h4) ?_
      refine R_s (s_lload_n dX11_power_11 rfl rfl) ?_
      refine R_s (s_lload_n dX11_power_12 rfl rfl) ?_
      refine R_s (s_lmul dX11_power_13) ?_
      refine R_letL (fun x5 => ?_)
      refine R_s (s_lstore_n dX11_power_14 rfl (Nat.le_of_ble_eq_true rfl)) ?_
      refine R_s (s_iinc dX11_power_15 rfl (kinc_1 v5_2) (Nat.le_of_ble_eq_true rfl)) ?_
      refine R_s (s_goto dX11_power_18 rfl) ?_
      exact R_wk (ih x5 (v5_2 + 1)) (le_s rfl (le_o (le_s rfl (le_s rfl (le_o (le_s rfl le_n))))))
theorem ev_X11_power {E : gx_E} {l : Launch} (p0 : Int64) (p2 : Int32) (μ : gx_M) {r : Int64} (hr : f_X11_power p0 p2 μ = some r) : gEv E l 0 Y_X11_power [.long p0, .int p2] gx_G1 μ (gx_eL r) gx_G1 μ := by
  refine R_ev (by decide) (Nat.le_of_ble_eq_true rfl) (em := gx_eL) (T := f_X11_power p0 p2 μ) ?_ hr
  show GoR E l Y_X11_power 0 gx_eL 0 (gx_el [.long p0, .int p2]) [] μ (f_X11_power p0 p2 μ)
  unfold f_X11_power
  refine R_s (s_lconst dX11_power_0 kcl_1) ?_
  refine R_s (s_lstore_n dX11_power_1 rfl (Nat.le_of_ble_eq_true rfl)) ?_
  refine R_s (s_iconst dX11_power_2 kci_0) ?_
  refine R_s (s_istore dX11_power_3 (Nat.le_of_ble_eq_true rfl)) ?_
  refine R_wk (okL_X11_power_5 ?_ 4000 1 0) (le_s rfl (le_o (le_s rfl (le_s rfl (le_o (le_s rfl le_n))))))
  intro x3_7
  refine R_s (s_lload_n dX11_power_21 rfl rfl) ?_
  exact R_r (r := x3_7) (f_long dX11_power_22 rfl)

def L_X11_commonDivisor_9 (k4 : Int64 → Option Int64) : Nat → Int64 → Int64 → Int32 → Option Int64
  | 0, _, _, _ => none
  | n + 1, v4_1, v6_2, v8_3 => if 200 ≤ v8_3 then k4 v4_1 else if v6_2 = 0 then k4 v4_1 else gx_ck (¬ v6_2 = 0) (gx_lt (v4_1 - v4_1 / v6_2 * v6_2) (fun (x8 : Int64) => L_X11_commonDivisor_9 k4 n v6_2 x8 (v8_3 + 1)))
def f_X11_commonDivisor (p0 : Int64) (p2 : Int64) (μ : gx_M) : Option Int64 := L_X11_commonDivisor_9 (fun (x4_10 : Int64) => some x4_10) 4000 p0 p2 0
theorem okL_X11_commonDivisor_9 {E : gx_E} {l : Launch} {μ : gx_M} {k4 : Int64 → Option Int64} (hk : ∀ (w9 : Int64), GoR E l Y_X11_commonDivisor 0 gx_eL 45 [none, none, none, none, some (.long w9)] [] μ (k4 w9)) : ∀ (n : Nat) (v4_1 : Int64) (v6_2 : Int64) (v8_3 : Int32), GoR E l Y_X11_commonDivisor 0 gx_eL 9 [none, none, none, none, some (.long v4_1), none, some (.long v6_2), none, some (.int v8_3)] [] μ (L_X11_commonDivisor_9 k4 n v4_1 v6_2 v8_3) := by
  intro n
  induction n with
  | zero => intros; exact R_no
  | succ n ih =>
    intro v4_1 v6_2 v8_3
    rw [L_X11_commonDivisor_9.eq_2]
    refine R_s (s_iload dX11_commonDivisor_9 rfl) ?_
    refine R_s (s_sipush dX11_commonDivisor_11 kcs_200) ?_
    refine R_ite (fun h5 => ?_) (fun h5 => ?_)
    · refine R_s (s_icmp_ge_t dX11_commonDivisor_14 rfl h5) ?_
      exact R_wk (hk v4_1) (le_o (le_o (le_o (le_o (le_s rfl le_n)))))
    · refine R_s (s_icmp_ge_f dX11_commonDivisor_14 rfl h5) ?_
      refine R_s (s_lload dX11_commonDivisor_17 rfl) ?_
      refine R_s (s_lconst dX11_commonDivisor_19 kcl_0) ?_
      refine R_s (s_lcmp dX11_commonDivisor_20) ?_
      refine R_ite (fun h6 => ?_) (fun h6 => ?_)
      · refine R_s (s_if_eq_t dX11_commonDivisor_21 rfl ((lgc_eq v6_2 0).mpr h6)) ?_
        exact R_wk (hk v4_1) (le_o (le_o (le_o (le_o (le_s rfl le_n)))))
      · refine R_s (s_if_eq_f dX11_commonDivisor_21 rfl (fun hc => h6 ((lgc_eq v6_2 0).mp hc))) ?_
        refine R_s (s_lload dX11_commonDivisor_24 rfl) ?_
        refine R_s (s_lload dX11_commonDivisor_26 rfl) ?_
        refine R_ck (fun h7 => ?_)
        refine R_s (s_lrem dX11_commonDivisor_28 h7) ?_
        refine R_letL (fun x8 => ?_)
        refine R_s (s_lstore dX11_commonDivisor_29 (Nat.le_of_ble_eq_true rfl)) ?_
        refine R_s (s_lload dX11_commonDivisor_31 rfl) ?_
        refine R_s (s_lstore dX11_commonDivisor_33 (Nat.le_of_ble_eq_true rfl)) ?_
        refine R_s (s_lload dX11_commonDivisor_35 rfl) ?_
        refine R_s (s_lstore dX11_commonDivisor_37 (Nat.le_of_ble_eq_true rfl)) ?_
        refine R_s (s_iinc dX11_commonDivisor_39 rfl (kinc_1 v8_3) (Nat.le_of_ble_eq_true rfl)) ?_
        refine R_s (s_goto dX11_commonDivisor_42 rfl) ?_
        exact R_wk (ih v6_2 x8 (v8_3 + 1)) (le_o (le_o (le_o (le_o (le_s rfl (le_o (le_s rfl (le_o (le_s rfl le_n)))))))))
theorem ev_X11_commonDivisor {E : gx_E} {l : Launch} (p0 : Int64) (p2 : Int64) (μ : gx_M) {r : Int64} (hr : f_X11_commonDivisor p0 p2 μ = some r) : gEv E l 0 Y_X11_commonDivisor [.long p0, .long p2] gx_G1 μ (gx_eL r) gx_G1 μ := by
  refine R_ev (by decide) (Nat.le_of_ble_eq_true rfl) (em := gx_eL) (T := f_X11_commonDivisor p0 p2 μ) ?_ hr
  show GoR E l Y_X11_commonDivisor 0 gx_eL 0 (gx_el [.long p0, .long p2]) [] μ (f_X11_commonDivisor p0 p2 μ)
  unfold f_X11_commonDivisor
  refine R_s (s_lload_n dX11_commonDivisor_0 rfl rfl) ?_
  refine R_s (s_lstore dX11_commonDivisor_1 (Nat.le_of_ble_eq_true rfl)) ?_
  refine R_s (s_lload_n dX11_commonDivisor_3 rfl rfl) ?_
  refine R_s (s_lstore dX11_commonDivisor_4 (Nat.le_of_ble_eq_true rfl)) ?_
  refine R_s (s_iconst dX11_commonDivisor_6 kci_0) ?_
  refine R_s (s_istore dX11_commonDivisor_7 (Nat.le_of_ble_eq_true rfl)) ?_
  refine R_wk (okL_X11_commonDivisor_9 ?_ 4000 p0 p2 0) (le_o (le_o (le_o (le_o (le_s rfl (le_o (le_s rfl (le_o (le_s rfl le_n)))))))))
  intro x4_10
  refine R_s (s_lload dX11_commonDivisor_45 rfl) ?_
  exact R_r (r := x4_10) (f_long dX11_commonDivisor_47 rfl)

def L_X11_leastTaken_3 (p0 : Int64) (p2 : Int64) (k2 : Int32 → Option Int32) : Nat → Int32 → Option Int32
  | 0, _ => none
  | n + 1, v4_1 => if 9 ≤ v4_1 then k2 v4_1 else if p0 ≤ (((v4_1 : Int32).toInt64) * p2) then k2 v4_1 else L_X11_leastTaken_3 p0 p2 k2 n (v4_1 + 1)
def f_X11_leastTaken (p0 : Int64) (p2 : Int64) (μ : gx_M) : Option Int32 := L_X11_leastTaken_3 p0 p2 (fun (x4_6 : Int32) => some x4_6) 4000 0
theorem okL_X11_leastTaken_3 {E : gx_E} {l : Launch} {p0 : Int64} {p2 : Int64} {μ : gx_M} {k2 : Int32 → Option Int32} (hk : ∀ (w5 : Int32), GoR E l Y_X11_leastTaken 0 gx_eI 26 [none, none, none, none, some (.int w5)] [] μ (k2 w5)) : ∀ (n : Nat) (v4_1 : Int32), GoR E l Y_X11_leastTaken 0 gx_eI 3 [some (.long p0), none, some (.long p2), none, some (.int v4_1)] [] μ (L_X11_leastTaken_3 p0 p2 k2 n v4_1) := by
  intro n
  induction n with
  | zero => intros; exact R_no
  | succ n ih =>
    intro v4_1
    rw [L_X11_leastTaken_3.eq_2]
    refine R_s (s_iload dX11_leastTaken_3 rfl) ?_
    refine R_s (s_bipush dX11_leastTaken_5 kcb_9) ?_
    refine R_ite (fun h3 => ?_) (fun h3 => ?_)
    · refine R_s (s_icmp_ge_t dX11_leastTaken_7 rfl h3) ?_
      exact R_wk (hk v4_1) (le_o (le_o (le_o (le_o (le_s rfl le_n)))))
    · refine R_s (s_icmp_ge_f dX11_leastTaken_7 rfl h3) ?_
      refine R_s (s_iload dX11_leastTaken_10 rfl) ?_
      refine R_s (s_i2l dX11_leastTaken_12) ?_
      refine R_s (s_lload_n dX11_leastTaken_13 rfl rfl) ?_
      refine R_s (s_lmul dX11_leastTaken_14) ?_
      refine R_s (s_lload_n dX11_leastTaken_15 rfl rfl) ?_
      refine R_s (s_lcmp dX11_leastTaken_16) ?_
      refine R_ite (fun h4 => ?_) (fun h4 => ?_)
      · refine R_s (s_if_ge_t dX11_leastTaken_17 rfl ((lgc_ge (((v4_1 : Int32).toInt64) * p2) p0).mpr h4)) ?_
        exact R_wk (hk v4_1) (le_o (le_o (le_o (le_o (le_s rfl le_n)))))
      · refine R_s (s_if_ge_f dX11_leastTaken_17 rfl (fun hc => h4 ((lgc_ge (((v4_1 : Int32).toInt64) * p2) p0).mp hc))) ?_
        refine R_s (s_iinc dX11_leastTaken_20 rfl (kinc_1 v4_1) (Nat.le_of_ble_eq_true rfl)) ?_
        refine R_s (s_goto dX11_leastTaken_23 rfl) ?_
        exact R_wk (ih (v4_1 + 1)) (le_s rfl (le_o (le_s rfl (le_o (le_s rfl le_n)))))
theorem ev_X11_leastTaken {E : gx_E} {l : Launch} (p0 : Int64) (p2 : Int64) (μ : gx_M) {r : Int32} (hr : f_X11_leastTaken p0 p2 μ = some r) : gEv E l 0 Y_X11_leastTaken [.long p0, .long p2] gx_G1 μ (gx_eI r) gx_G1 μ := by
  refine R_ev (by decide) (Nat.le_of_ble_eq_true rfl) (em := gx_eI) (T := f_X11_leastTaken p0 p2 μ) ?_ hr
  show GoR E l Y_X11_leastTaken 0 gx_eI 0 (gx_el [.long p0, .long p2]) [] μ (f_X11_leastTaken p0 p2 μ)
  unfold f_X11_leastTaken
  refine R_s (s_iconst dX11_leastTaken_0 kci_0) ?_
  refine R_s (s_istore dX11_leastTaken_1 (Nat.le_of_ble_eq_true rfl)) ?_
  refine R_wk (okL_X11_leastTaken_3 ?_ 4000 0) (le_s rfl (le_o (le_s rfl (le_o (le_s rfl le_n)))))
  intro x4_6
  refine R_s (s_iload dX11_leastTaken_26 rfl) ?_
  exact R_r (r := x4_6) (f_int (ty := .int) dX11_leastTaken_28 rfl rfl)

def f_J6_bitCount_0f7a4 (p0 : Int32) : Int32 := gx_lt (p0 - ((((p0).toUInt32 >>> ((1 : Int32).toUInt32 &&& Int32.toUInt32 31)).toInt32) &&& 1431655765)) (fun (x1 : Int32) => gx_lt ((x1 &&& 858993459) + ((((x1).toUInt32 >>> ((2 : Int32).toUInt32 &&& Int32.toUInt32 31)).toInt32) &&& 858993459)) (fun (x2 : Int32) => gx_lt ((x2 + (((x2).toUInt32 >>> ((4 : Int32).toUInt32 &&& Int32.toUInt32 31)).toInt32)) &&& 252645135) (fun (x3 : Int32) => gx_lt (x3 + (((x3).toUInt32 >>> ((8 : Int32).toUInt32 &&& Int32.toUInt32 31)).toInt32)) (fun (x4 : Int32) => gx_lt (x4 + (((x4).toUInt32 >>> ((16 : Int32).toUInt32 &&& Int32.toUInt32 31)).toInt32)) (fun (x5 : Int32) => (x5 &&& 63))))))
theorem ev_J6_bitCount_0f7a4 {E : gx_E} {l : Launch} (p0 : Int32) (μ : gx_M) : gEv E l 0 Y_J6_bitCount_0f7a4 [.int p0] gx_G1 μ (gx_eI (f_J6_bitCount_0f7a4 p0)) gx_G1 μ := by
  refine P_ev (by decide) (Nat.le_of_ble_eq_true rfl) (em := gx_eI) (T := f_J6_bitCount_0f7a4 p0) ?_
  show GoP E l Y_J6_bitCount_0f7a4 0 gx_eI 0 (gx_el [.int p0]) [] μ (f_J6_bitCount_0f7a4 p0)
  unfold f_J6_bitCount_0f7a4
  refine P_s (s_iload_n dJ6_bitCount_0f7a4_0 rfl rfl) ?_
  refine P_s (s_iload_n dJ6_bitCount_0f7a4_1 rfl rfl) ?_
  refine P_s (s_iconst dJ6_bitCount_0f7a4_2 kci_1) ?_
  refine P_s (s_iushr dJ6_bitCount_0f7a4_3) ?_
  refine P_s (s_ldcw dJ6_bitCount_0f7a4_4 kw_RJ6_265) ?_
  refine P_s (s_iand dJ6_bitCount_0f7a4_7) ?_
  refine P_s (s_isub dJ6_bitCount_0f7a4_8) ?_
  refine P_letI (fun x1 => ?_)
  refine P_s (s_istore_n dJ6_bitCount_0f7a4_9 rfl (Nat.le_of_ble_eq_true rfl)) ?_
  refine P_s (s_iload_n dJ6_bitCount_0f7a4_10 rfl rfl) ?_
  refine P_s (s_ldcw dJ6_bitCount_0f7a4_11 kw_RJ6_266) ?_
  refine P_s (s_iand dJ6_bitCount_0f7a4_14) ?_
  refine P_s (s_iload_n dJ6_bitCount_0f7a4_15 rfl rfl) ?_
  refine P_s (s_iconst dJ6_bitCount_0f7a4_16 kci_2) ?_
  refine P_s (s_iushr dJ6_bitCount_0f7a4_17) ?_
  refine P_s (s_ldcw dJ6_bitCount_0f7a4_18 kw_RJ6_266) ?_
  refine P_s (s_iand dJ6_bitCount_0f7a4_21) ?_
  refine P_s (s_iadd dJ6_bitCount_0f7a4_22) ?_
  refine P_letI (fun x2 => ?_)
  refine P_s (s_istore_n dJ6_bitCount_0f7a4_23 rfl (Nat.le_of_ble_eq_true rfl)) ?_
  refine P_s (s_iload_n dJ6_bitCount_0f7a4_24 rfl rfl) ?_
  refine P_s (s_iload_n dJ6_bitCount_0f7a4_25 rfl rfl) ?_
  refine P_s (s_iconst dJ6_bitCount_0f7a4_26 kci_4) ?_
  refine P_s (s_iushr dJ6_bitCount_0f7a4_27) ?_
  refine P_s (s_iadd dJ6_bitCount_0f7a4_28) ?_
  refine P_s (s_ldcw dJ6_bitCount_0f7a4_29 kw_RJ6_267) ?_
  refine P_s (s_iand dJ6_bitCount_0f7a4_32) ?_
  refine P_letI (fun x3 => ?_)
  refine P_s (s_istore_n dJ6_bitCount_0f7a4_33 rfl (Nat.le_of_ble_eq_true rfl)) ?_
  refine P_s (s_iload_n dJ6_bitCount_0f7a4_34 rfl rfl) ?_
  refine P_s (s_iload_n dJ6_bitCount_0f7a4_35 rfl rfl) ?_
  refine P_s (s_bipush dJ6_bitCount_0f7a4_36 kcb_8) ?_
  refine P_s (s_iushr dJ6_bitCount_0f7a4_38) ?_
  refine P_s (s_iadd dJ6_bitCount_0f7a4_39) ?_
  refine P_letI (fun x4 => ?_)
  refine P_s (s_istore_n dJ6_bitCount_0f7a4_40 rfl (Nat.le_of_ble_eq_true rfl)) ?_
  refine P_s (s_iload_n dJ6_bitCount_0f7a4_41 rfl rfl) ?_
  refine P_s (s_iload_n dJ6_bitCount_0f7a4_42 rfl rfl) ?_
  refine P_s (s_bipush dJ6_bitCount_0f7a4_43 kcb_16) ?_
  refine P_s (s_iushr dJ6_bitCount_0f7a4_45) ?_
  refine P_s (s_iadd dJ6_bitCount_0f7a4_46) ?_
  refine P_letI (fun x5 => ?_)
  refine P_s (s_istore_n dJ6_bitCount_0f7a4_47 rfl (Nat.le_of_ble_eq_true rfl)) ?_
  refine P_s (s_iload_n dJ6_bitCount_0f7a4_48 rfl rfl) ?_
  refine P_s (s_bipush dJ6_bitCount_0f7a4_49 kcb_63) ?_
  refine P_s (s_iand dJ6_bitCount_0f7a4_51) ?_
  exact P_r (r := (x5 &&& 63)) (f_int (ty := .int) dJ6_bitCount_0f7a4_52 rfl rfl)

def f_J13_bitCount_95d88 (p0 : Int64) : Int32 := gx_lt (p0 - ((((p0).toUInt64 >>> ((1 : Int32).toInt64.toUInt64 &&& Int64.toUInt64 63)).toInt64) &&& 6148914691236517205)) (fun (x1 : Int64) => gx_lt ((x1 &&& 3689348814741910323) + ((((x1).toUInt64 >>> ((2 : Int32).toInt64.toUInt64 &&& Int64.toUInt64 63)).toInt64) &&& 3689348814741910323)) (fun (x2 : Int64) => gx_lt ((x2 + (((x2).toUInt64 >>> ((4 : Int32).toInt64.toUInt64 &&& Int64.toUInt64 63)).toInt64)) &&& 1085102592571150095) (fun (x3 : Int64) => gx_lt (x3 + (((x3).toUInt64 >>> ((8 : Int32).toInt64.toUInt64 &&& Int64.toUInt64 63)).toInt64)) (fun (x4 : Int64) => gx_lt (x4 + (((x4).toUInt64 >>> ((16 : Int32).toInt64.toUInt64 &&& Int64.toUInt64 63)).toInt64)) (fun (x5 : Int64) => gx_lt (x5 + (((x5).toUInt64 >>> ((32 : Int32).toInt64.toUInt64 &&& Int64.toUInt64 63)).toInt64)) (fun (x6 : Int64) => (((x6 : Int64).toInt32) &&& 127)))))))
theorem ev_J13_bitCount_95d88 {E : gx_E} {l : Launch} (p0 : Int64) (μ : gx_M) : gEv E l 0 Y_J13_bitCount_95d88 [.long p0] gx_G1 μ (gx_eI (f_J13_bitCount_95d88 p0)) gx_G1 μ := by
  refine P_ev (by decide) (Nat.le_of_ble_eq_true rfl) (em := gx_eI) (T := f_J13_bitCount_95d88 p0) ?_
  show GoP E l Y_J13_bitCount_95d88 0 gx_eI 0 (gx_el [.long p0]) [] μ (f_J13_bitCount_95d88 p0)
  unfold f_J13_bitCount_95d88
  refine P_s (s_lload_n dJ13_bitCount_95d88_0 rfl rfl) ?_
  refine P_s (s_lload_n dJ13_bitCount_95d88_1 rfl rfl) ?_
  refine P_s (s_iconst dJ13_bitCount_95d88_2 kci_1) ?_
  refine P_s (s_lushr dJ13_bitCount_95d88_3) ?_
  refine P_s (s_ldc2 dJ13_bitCount_95d88_4 kw_RJ13_314) ?_
  refine P_s (s_land dJ13_bitCount_95d88_7) ?_
  refine P_s (s_lsub dJ13_bitCount_95d88_8) ?_
  refine P_letL (fun x1 => ?_)
  refine P_s (s_lstore_n dJ13_bitCount_95d88_9 rfl (Nat.le_of_ble_eq_true rfl)) ?_
  refine P_s (s_lload_n dJ13_bitCount_95d88_10 rfl rfl) ?_
  refine P_s (s_ldc2 dJ13_bitCount_95d88_11 kw_RJ13_316) ?_
  refine P_s (s_land dJ13_bitCount_95d88_14) ?_
  refine P_s (s_lload_n dJ13_bitCount_95d88_15 rfl rfl) ?_
  refine P_s (s_iconst dJ13_bitCount_95d88_16 kci_2) ?_
  refine P_s (s_lushr dJ13_bitCount_95d88_17) ?_
  refine P_s (s_ldc2 dJ13_bitCount_95d88_18 kw_RJ13_316) ?_
  refine P_s (s_land dJ13_bitCount_95d88_21) ?_
  refine P_s (s_ladd dJ13_bitCount_95d88_22) ?_
  refine P_letL (fun x2 => ?_)
  refine P_s (s_lstore_n dJ13_bitCount_95d88_23 rfl (Nat.le_of_ble_eq_true rfl)) ?_
  refine P_s (s_lload_n dJ13_bitCount_95d88_24 rfl rfl) ?_
  refine P_s (s_lload_n dJ13_bitCount_95d88_25 rfl rfl) ?_
  refine P_s (s_iconst dJ13_bitCount_95d88_26 kci_4) ?_
  refine P_s (s_lushr dJ13_bitCount_95d88_27) ?_
  refine P_s (s_ladd dJ13_bitCount_95d88_28) ?_
  refine P_s (s_ldc2 dJ13_bitCount_95d88_29 kw_RJ13_318) ?_
  refine P_s (s_land dJ13_bitCount_95d88_32) ?_
  refine P_letL (fun x3 => ?_)
  refine P_s (s_lstore_n dJ13_bitCount_95d88_33 rfl (Nat.le_of_ble_eq_true rfl)) ?_
  refine P_s (s_lload_n dJ13_bitCount_95d88_34 rfl rfl) ?_
  refine P_s (s_lload_n dJ13_bitCount_95d88_35 rfl rfl) ?_
  refine P_s (s_bipush dJ13_bitCount_95d88_36 kcb_8) ?_
  refine P_s (s_lushr dJ13_bitCount_95d88_38) ?_
  refine P_s (s_ladd dJ13_bitCount_95d88_39) ?_
  refine P_letL (fun x4 => ?_)
  refine P_s (s_lstore_n dJ13_bitCount_95d88_40 rfl (Nat.le_of_ble_eq_true rfl)) ?_
  refine P_s (s_lload_n dJ13_bitCount_95d88_41 rfl rfl) ?_
  refine P_s (s_lload_n dJ13_bitCount_95d88_42 rfl rfl) ?_
  refine P_s (s_bipush dJ13_bitCount_95d88_43 kcb_16) ?_
  refine P_s (s_lushr dJ13_bitCount_95d88_45) ?_
  refine P_s (s_ladd dJ13_bitCount_95d88_46) ?_
  refine P_letL (fun x5 => ?_)
  refine P_s (s_lstore_n dJ13_bitCount_95d88_47 rfl (Nat.le_of_ble_eq_true rfl)) ?_
  refine P_s (s_lload_n dJ13_bitCount_95d88_48 rfl rfl) ?_
  refine P_s (s_lload_n dJ13_bitCount_95d88_49 rfl rfl) ?_
  refine P_s (s_bipush dJ13_bitCount_95d88_50 kcb_32) ?_
  refine P_s (s_lushr dJ13_bitCount_95d88_52) ?_
  refine P_s (s_ladd dJ13_bitCount_95d88_53) ?_
  refine P_letL (fun x6 => ?_)
  refine P_s (s_lstore_n dJ13_bitCount_95d88_54 rfl (Nat.le_of_ble_eq_true rfl)) ?_
  refine P_s (s_lload_n dJ13_bitCount_95d88_55 rfl rfl) ?_
  refine P_s (s_l2i dJ13_bitCount_95d88_56) ?_
  refine P_s (s_bipush dJ13_bitCount_95d88_57 kcb_127) ?_
  refine P_s (s_iand dJ13_bitCount_95d88_59) ?_
  exact P_r (r := (((x6 : Int64).toInt32) &&& 127)) (f_int (ty := .int) dJ13_bitCount_95d88_60 rfl rfl)

def f_J0_coder_7d493 (i0 : Nat) : Int32 := if (1 : Int32) = 0 then 1 else 0
theorem ev_J0_coder_7d493 {E : gx_E} {l : Launch} {fk : Nat} {uq : Option Nat} {adK adV : Nat → Nat} (hE : gx_EX E fk uq adK adV) (i0 : Nat) (hi0 : i0 < 28) (μ : gx_M) : gEv E l 0 Y_J0_coder_7d493 [.ref (adK i0)] gx_G1 μ (gx_eI (f_J0_coder_7d493 i0)) gx_G1 μ := by
  refine P_ev (by decide) (Nat.le_of_ble_eq_true rfl) (em := gx_eI) (T := f_J0_coder_7d493 i0) ?_
  show GoP E l Y_J0_coder_7d493 0 gx_eI 0 (gx_el [.ref (adK i0)]) [] μ (f_J0_coder_7d493 i0)
  unfold f_J0_coder_7d493
  refine P_s (gs_RJ0_38 hE rfl dJ0_coder_7d493_0) ?_
  refine P_ite (fun h1 => ?_) (fun h1 => ?_)
  · refine P_s (s_if_eq_t dJ0_coder_7d493_3 rfl h1) ?_
    refine P_s (s_iconst dJ0_coder_7d493_13 kci_1) ?_
    exact P_r (r := 1) (f_int (ty := .byte) dJ0_coder_7d493_14 rfl (rfl))
  · refine P_s (s_if_eq_f dJ0_coder_7d493_3 rfl h1) ?_
    refine P_s (s_aload_n dJ0_coder_7d493_6 rfl rfl) ?_
    refine P_s (ss_RJ0_15 hE hi0 rfl dJ0_coder_7d493_7) ?_
    refine P_s (s_goto dJ0_coder_7d493_10 rfl) ?_
    exact P_r (r := 0) (f_int (ty := .byte) dJ0_coder_7d493_14 rfl (rfl))

def f_J0_isLatin1_aae02 (i0 : Nat) : Bool := if (1 : Int32) = 0 then false else if (0 : Int32) = 0 then true else false
theorem ev_J0_isLatin1_aae02 {E : gx_E} {l : Launch} {fk : Nat} {uq : Option Nat} {adK adV : Nat → Nat} (hE : gx_EX E fk uq adK adV) (i0 : Nat) (hi0 : i0 < 28) (μ : gx_M) : gEv E l 0 Y_J0_isLatin1_aae02 [.ref (adK i0)] gx_G1 μ (gx_eB (f_J0_isLatin1_aae02 i0)) gx_G1 μ := by
  refine P_ev (by decide) (Nat.le_of_ble_eq_true rfl) (em := gx_eB) (T := f_J0_isLatin1_aae02 i0) ?_
  show GoP E l Y_J0_isLatin1_aae02 0 gx_eB 0 (gx_el [.ref (adK i0)]) [] μ (f_J0_isLatin1_aae02 i0)
  unfold f_J0_isLatin1_aae02
  refine P_s (gs_RJ0_38 hE rfl dJ0_isLatin1_aae02_0) ?_
  refine P_ite (fun h1 => ?_) (fun h1 => ?_)
  · refine P_s (s_if_eq_t dJ0_isLatin1_aae02_3 rfl h1) ?_
    refine P_s (s_iconst dJ0_isLatin1_aae02_17 kci_0) ?_
    exact P_r (r := false) (f_int (ty := .boolean) (x := gx_bi false) dJ0_isLatin1_aae02_18 rfl (gx_bn false))
  · refine P_s (s_if_eq_f dJ0_isLatin1_aae02_3 rfl h1) ?_
    refine P_s (s_aload_n dJ0_isLatin1_aae02_6 rfl rfl) ?_
    refine P_s (ss_RJ0_15 hE hi0 rfl dJ0_isLatin1_aae02_7) ?_
    refine P_ite (fun h2 => ?_) (fun h2 => ?_)
    · refine P_s (s_if_ne_f dJ0_isLatin1_aae02_10 rfl h2) ?_
      refine P_s (s_iconst dJ0_isLatin1_aae02_13 kci_1) ?_
      refine P_s (s_goto dJ0_isLatin1_aae02_14 rfl) ?_
      exact P_r (r := true) (f_int (ty := .boolean) (x := gx_bi true) dJ0_isLatin1_aae02_18 rfl (gx_bn true))
    · refine P_s (s_if_ne_t dJ0_isLatin1_aae02_10 rfl h2) ?_
      refine P_s (s_iconst dJ0_isLatin1_aae02_17 kci_0) ?_
      exact P_r (r := false) (f_int (ty := .boolean) (x := gx_bi false) dJ0_isLatin1_aae02_18 rfl (gx_bn false))

def f_J7_rangeCheck_23922 (p0 : Int32) (p1 : Int32) (p2 : Int32) (μ : gx_M) : Option Unit := if p1 ≤ p2 then if 0 ≤ p1 then if p2 ≤ p0 then some () else none else none else none
theorem ev_J7_rangeCheck_23922 {E : gx_E} {l : Launch} (p0 : Int32) (p1 : Int32) (p2 : Int32) (μ : gx_M) {r : Unit} (hr : f_J7_rangeCheck_23922 p0 p1 p2 μ = some r) : gEv E l 0 Y_J7_rangeCheck_23922 [.int p0, .int p1, .int p2] gx_G1 μ (gx_eV r) gx_G1 μ := by
  refine R_ev (by decide) (Nat.le_of_ble_eq_true rfl) (em := gx_eV) (T := f_J7_rangeCheck_23922 p0 p1 p2 μ) ?_ hr
  show GoR E l Y_J7_rangeCheck_23922 0 gx_eV 0 (gx_el [.int p0, .int p1, .int p2]) [] μ (f_J7_rangeCheck_23922 p0 p1 p2 μ)
  unfold f_J7_rangeCheck_23922
  refine R_s (s_iload_n dJ7_rangeCheck_23922_0 rfl rfl) ?_
  refine R_s (s_iload_n dJ7_rangeCheck_23922_1 rfl rfl) ?_
  refine R_ite (fun h1 => ?_) (fun h1 => ?_)
  · refine R_s (s_icmp_le_t dJ7_rangeCheck_23922_2 rfl h1) ?_
    refine R_s (s_iload_n dJ7_rangeCheck_23922_46 rfl rfl) ?_
    refine R_ite (fun h2 => ?_) (fun h2 => ?_)
    · refine R_s (s_if_ge_t dJ7_rangeCheck_23922_47 rfl h2) ?_
      refine R_s (s_iload_n dJ7_rangeCheck_23922_59 rfl rfl) ?_
      refine R_s (s_iload_n dJ7_rangeCheck_23922_60 rfl rfl) ?_
      refine R_ite (fun h3 => ?_) (fun h3 => ?_)
      · refine R_s (s_icmp_le_t dJ7_rangeCheck_23922_61 rfl h3) ?_
        exact R_r (r := ()) (f_void dJ7_rangeCheck_23922_73 rfl)
      · refine R_s (s_icmp_le_f dJ7_rangeCheck_23922_61 rfl h3) ?_
        exact R_no
    · refine R_s (s_if_ge_f dJ7_rangeCheck_23922_47 rfl h2) ?_
      exact R_no
  · refine R_s (s_icmp_le_f dJ7_rangeCheck_23922_2 rfl h1) ?_
    exact R_no

def L_J7_fill_d0a16_6 (x1 : Int32) (n0 : Nat) (a0 : Nat) (p1 : Int64) (k4 : gx_M → Option (Unit × gx_M)) : Nat → Int32 → gx_M → Option (Unit × gx_M)
  | 0, _, _ => none
  | n + 1, v3_2, μ3 => if x1 ≤ v3_2 then k4 μ3 else gx_ck (gx_ix v3_2 n0 = true) (gx_lt (gx_uL μ3 a0 v3_2.toNatClampNeg p1) (fun (μ7 : gx_M) => L_J7_fill_d0a16_6 x1 n0 a0 p1 k4 n (v3_2 + 1) μ7))
def f_J7_fill_d0a16 (a0 : Nat) (n0 : Nat) (p1 : Int64) (μ : gx_M) : Option (Unit × gx_M) := gx_lt (Int32.ofNat n0) (fun (x1 : Int32) => L_J7_fill_d0a16_6 x1 n0 a0 p1 (fun (μ9 : gx_M) => some ((), μ9)) 4000 0 μ)
theorem okL_J7_fill_d0a16_6 {E : gx_E} {l : Launch} {x1 : Int32} {n0 : Nat} {a0 : Nat} {p1 : Int64} (ha0 : gx_G1[a0]? = some (53, n0, [])) {k4 : gx_M → Option (Unit × gx_M)} (hk : ∀ (μ8 : gx_M), GoW E l Y_J7_fill_d0a16 0 gx_eV 22 [] [] μ8 (k4 μ8)) : ∀ (n : Nat) (v3_2 : Int32) (μ3 : gx_M), GoW E l Y_J7_fill_d0a16 0 gx_eV 6 [some (.ref (E.2.2.1 + a0)), some (.long p1), none, some (.int v3_2), some (.int x1)] [] μ3 (L_J7_fill_d0a16_6 x1 n0 a0 p1 k4 n v3_2 μ3) := by
  intro n
  induction n with
  | zero => intros; exact W_no
  | succ n ih =>
    intro v3_2 μ3
    rw [L_J7_fill_d0a16_6.eq_2]
    refine W_s (s_iload_n dJ7_fill_d0a16_6 rfl rfl) ?_
    refine W_s (s_iload dJ7_fill_d0a16_7 rfl) ?_
    refine W_ite (fun h5 => ?_) (fun h5 => ?_)
    · refine W_s (s_icmp_ge_t dJ7_fill_d0a16_9 rfl h5) ?_
      exact W_wk (hk μ3) le_n
    · refine W_s (s_icmp_ge_f dJ7_fill_d0a16_9 rfl h5) ?_
      refine W_s (s_aload_n dJ7_fill_d0a16_12 rfl rfl) ?_
      refine W_s (s_iload_n dJ7_fill_d0a16_13 rfl rfl) ?_
      refine W_s (s_lload_n dJ7_fill_d0a16_14 rfl rfl) ?_
      refine W_ck (fun h6 => ?_)
      refine W_s (s_last dJ7_fill_d0a16_15 ha0 (gx_ixv h6)) ?_
      refine W_letM (fun μ7 => ?_)
      refine W_s (s_iinc dJ7_fill_d0a16_16 rfl (kinc_1 v3_2) (Nat.le_of_ble_eq_true rfl)) ?_
      refine W_s (s_goto dJ7_fill_d0a16_19 rfl) ?_
      exact W_wk (ih (v3_2 + 1) μ7) (le_s rfl (le_s rfl (le_o (le_s rfl (le_s rfl le_n)))))
theorem ev_J7_fill_d0a16 {E : gx_E} {l : Launch} (a0 : Nat) (n0 : Nat) (p1 : Int64) (ha0 : gx_G1[a0]? = some (53, n0, [])) (μ : gx_M) {r : Unit} {μ' : gx_M} (hr : f_J7_fill_d0a16 a0 n0 p1 μ = some (r, μ')) : gEv E l 0 Y_J7_fill_d0a16 [.ref (E.2.2.1 + a0), .long p1] gx_G1 μ (gx_eV r) gx_G1 μ' := by
  refine W_ev (by decide) (Nat.le_of_ble_eq_true rfl) (em := gx_eV) (T := f_J7_fill_d0a16 a0 n0 p1 μ) ?_ hr
  show GoW E l Y_J7_fill_d0a16 0 gx_eV 0 (gx_el [.ref (E.2.2.1 + a0), .long p1]) [] μ (f_J7_fill_d0a16 a0 n0 p1 μ)
  unfold f_J7_fill_d0a16
  refine W_s (s_iconst dJ7_fill_d0a16_0 kci_0) ?_
  refine W_s (s_istore_n dJ7_fill_d0a16_1 rfl (Nat.le_of_ble_eq_true rfl)) ?_
  refine W_s (s_aload_n dJ7_fill_d0a16_2 rfl rfl) ?_
  refine W_s (s_alenA (ty := .int) dJ7_fill_d0a16_3 ha0 (by decide) rfl) ?_
  refine W_letI (fun x1 => ?_)
  refine W_s (s_istore dJ7_fill_d0a16_4 (Nat.le_of_ble_eq_true rfl)) ?_
  refine W_wk (okL_J7_fill_d0a16_6 ha0 ?_ 4000 0 μ) (le_s rfl (le_s rfl (le_o (le_s rfl (le_s rfl le_n)))))
  intro μ9
  exact W_r (r := ()) (f_void dJ7_fill_d0a16_22 rfl)

def L_J7_fill_53178_5 (x1 : Int32) (n0 : Nat) (a0 : Nat) (p1 : Int32) (k4 : gx_M → Option (Unit × gx_M)) : Nat → Int32 → gx_M → Option (Unit × gx_M)
  | 0, _, _ => none
  | n + 1, v2_2, μ3 => if x1 ≤ v2_2 then k4 μ3 else gx_ck (gx_ix v2_2 n0 = true) (gx_lt (gx_uI μ3 a0 v2_2.toNatClampNeg p1) (fun (μ7 : gx_M) => L_J7_fill_53178_5 x1 n0 a0 p1 k4 n (v2_2 + 1) μ7))
def f_J7_fill_53178 (a0 : Nat) (n0 : Nat) (p1 : Int32) (μ : gx_M) : Option (Unit × gx_M) := gx_lt (Int32.ofNat n0) (fun (x1 : Int32) => L_J7_fill_53178_5 x1 n0 a0 p1 (fun (μ9 : gx_M) => some ((), μ9)) 4000 0 μ)
theorem okL_J7_fill_53178_5 {E : gx_E} {l : Launch} {x1 : Int32} {n0 : Nat} {a0 : Nat} {p1 : Int32} (ha0 : gx_G1[a0]? = some (50, n0, [])) {k4 : gx_M → Option (Unit × gx_M)} (hk : ∀ (μ8 : gx_M), GoW E l Y_J7_fill_53178 0 gx_eV 20 [] [] μ8 (k4 μ8)) : ∀ (n : Nat) (v2_2 : Int32) (μ3 : gx_M), GoW E l Y_J7_fill_53178 0 gx_eV 5 [some (.ref (E.2.2.1 + a0)), some (.int p1), some (.int v2_2), some (.int x1)] [] μ3 (L_J7_fill_53178_5 x1 n0 a0 p1 k4 n v2_2 μ3) := by
  intro n
  induction n with
  | zero => intros; exact W_no
  | succ n ih =>
    intro v2_2 μ3
    rw [L_J7_fill_53178_5.eq_2]
    refine W_s (s_iload_n dJ7_fill_53178_5 rfl rfl) ?_
    refine W_s (s_iload_n dJ7_fill_53178_6 rfl rfl) ?_
    refine W_ite (fun h5 => ?_) (fun h5 => ?_)
    · refine W_s (s_icmp_ge_t dJ7_fill_53178_7 rfl h5) ?_
      exact W_wk (hk μ3) le_n
    · refine W_s (s_icmp_ge_f dJ7_fill_53178_7 rfl h5) ?_
      refine W_s (s_aload_n dJ7_fill_53178_10 rfl rfl) ?_
      refine W_s (s_iload_n dJ7_fill_53178_11 rfl rfl) ?_
      refine W_s (s_iload_n dJ7_fill_53178_12 rfl rfl) ?_
      refine W_ck (fun h6 => ?_)
      refine W_s (s_iast dJ7_fill_53178_13 ha0 (gx_ixv h6)) ?_
      refine W_letM (fun μ7 => ?_)
      refine W_s (s_iinc dJ7_fill_53178_14 rfl (kinc_1 v2_2) (Nat.le_of_ble_eq_true rfl)) ?_
      refine W_s (s_goto dJ7_fill_53178_17 rfl) ?_
      exact W_wk (ih (v2_2 + 1) μ7) (le_s rfl (le_s rfl (le_s rfl (le_s rfl le_n))))
theorem ev_J7_fill_53178 {E : gx_E} {l : Launch} (a0 : Nat) (n0 : Nat) (p1 : Int32) (ha0 : gx_G1[a0]? = some (50, n0, [])) (μ : gx_M) {r : Unit} {μ' : gx_M} (hr : f_J7_fill_53178 a0 n0 p1 μ = some (r, μ')) : gEv E l 0 Y_J7_fill_53178 [.ref (E.2.2.1 + a0), .int p1] gx_G1 μ (gx_eV r) gx_G1 μ' := by
  refine W_ev (by decide) (Nat.le_of_ble_eq_true rfl) (em := gx_eV) (T := f_J7_fill_53178 a0 n0 p1 μ) ?_ hr
  show GoW E l Y_J7_fill_53178 0 gx_eV 0 (gx_el [.ref (E.2.2.1 + a0), .int p1]) [] μ (f_J7_fill_53178 a0 n0 p1 μ)
  unfold f_J7_fill_53178
  refine W_s (s_iconst dJ7_fill_53178_0 kci_0) ?_
  refine W_s (s_istore_n dJ7_fill_53178_1 rfl (Nat.le_of_ble_eq_true rfl)) ?_
  refine W_s (s_aload_n dJ7_fill_53178_2 rfl rfl) ?_
  refine W_s (s_alenA (ty := .int) dJ7_fill_53178_3 ha0 (by decide) rfl) ?_
  refine W_letI (fun x1 => ?_)
  refine W_s (s_istore_n dJ7_fill_53178_4 rfl (Nat.le_of_ble_eq_true rfl)) ?_
  refine W_wk (okL_J7_fill_53178_5 ha0 ?_ 4000 0 μ) (le_s rfl (le_s rfl (le_s rfl (le_s rfl le_n))))
  intro μ9
  exact W_r (r := ()) (f_void dJ7_fill_53178_20 rfl)

def f_J3_checkIndex_8e157 (p0 : Int32) (p1 : Int32) (μ : gx_M) : Option Int32 := if p0 < 0 then none else if p0 < p1 then some p0 else none
theorem ev_J3_checkIndex_8e157 {E : gx_E} {l : Launch} (p0 : Int32) (p1 : Int32) (q2 : Option Nat) (μ : gx_M) {r : Int32} (hr : f_J3_checkIndex_8e157 p0 p1 μ = some r) : gEv E l 0 Y_J3_checkIndex_8e157 [.int p0, .int p1, va_rf q2] gx_G1 μ (gx_eI r) gx_G1 μ := by
  cases q2 <;> (
    refine R_ev (by decide) (Nat.le_of_ble_eq_true rfl) (em := gx_eI) (T := f_J3_checkIndex_8e157 p0 p1 μ) ?_ hr
    unfold f_J3_checkIndex_8e157
    refine R_s (s_iload_n dJ3_checkIndex_8e157_0 rfl rfl) ?_
    refine R_ite (fun h1 => ?_) (fun h1 => ?_)
    · refine R_s (s_if_lt_t dJ3_checkIndex_8e157_1 rfl h1) ?_
      exact R_no
    · refine R_s (s_if_lt_f dJ3_checkIndex_8e157_1 rfl h1) ?_
      refine R_s (s_iload_n dJ3_checkIndex_8e157_4 rfl rfl) ?_
      refine R_s (s_iload_n dJ3_checkIndex_8e157_5 rfl rfl) ?_
      refine R_ite (fun h2 => ?_) (fun h2 => ?_)
      · refine R_s (s_icmp_lt_t dJ3_checkIndex_8e157_6 rfl h2) ?_
        refine R_s (s_iload_n dJ3_checkIndex_8e157_16 rfl rfl) ?_
        exact R_r (r := p0) (f_int (ty := .int) dJ3_checkIndex_8e157_17 rfl rfl)
      · refine R_s (s_icmp_lt_f dJ3_checkIndex_8e157_6 rfl h2) ?_
        exact R_no)

def L_X0_weighRuns_15 (a1 : Nat) (v5_1 : Int32) (p3 : Int64) (p2 : Int32) (k7 : gx_M → Option (Unit × gx_M)) : Nat → Int32 → gx_M → Option (Unit × gx_M)
  | 0, _, _ => none
  | n + 1, v6_5, μ6 => if (μ6.1 a1 0) ≤ v6_5 then k7 μ6 else gx_br (f_X5_goesIn a1 v5_1 v6_5 p3 μ6) (fun (r9 : Bool) => gx_lt (fun (j0_15 : Int64) (μ16 : gx_M) => gx_ck (gx_ix ((v5_1 * 40) + v6_5) 240 = true) (gx_lt (gx_uL μ16 76 ((v5_1 * 40) + v6_5).toNatClampNeg j0_15) (fun (μ18 : gx_M) => L_X0_weighRuns_15 a1 v5_1 p3 p2 k7 n (v6_5 + 1) μ18))) (fun J10 => if r9 = true then gx_br (f_X5_costOfRun a1 p2 v5_1 v6_5 μ6) (fun (r12 : Int32) => gx_lt ((r12 : Int32).toInt64) (fun (x13 : Int64) => gx_lt ((x13 <<< ((36 : Int32).toInt64 &&& 63)) + (((v6_5 : Int32).toInt64) <<< (((f_X0_rowShift v5_1) : Int32).toInt64 &&& 63))) (fun (x14 : Int64) => J10 x14 μ6))) else J10 1152921504606846976 μ6))
def L_X0_weighRuns_3 (a1 : Nat) (p3 : Int64) (p2 : Int32) (k3 : gx_M → Option (Unit × gx_M)) : Nat → Int32 → gx_M → Option (Unit × gx_M)
  | 0, _, _ => none
  | n + 1, v5_1, μ2 => if (μ2.1 a1 2) ≤ v5_1 then k3 μ2 else L_X0_weighRuns_15 a1 v5_1 p3 p2 (fun (μ20 : gx_M) => L_X0_weighRuns_3 a1 p3 p2 k3 n (v5_1 + 1) μ20) 4000 0 μ2
def f_X0_weighRuns (a1 : Nat) (p2 : Int32) (p3 : Int64) (μ : gx_M) : Option (Unit × gx_M) := L_X0_weighRuns_3 a1 p3 p2 (fun (μ22 : gx_M) => some ((), μ22)) 4000 0 μ
theorem okL_X0_weighRuns_15 {E : gx_E} {l : Launch} {a1 : Nat} {v5_1 : Int32} {p3 : Int64} {p2 : Int32} (ha1 : gx_St a1) {k7 : gx_M → Option (Unit × gx_M)} (hk : ∀ (μ19 : gx_M), GoW E l Y_X0_weighRuns 1 gx_eV 91 [some (.ref (E.2.2.1 + 75)), some (.ref (E.2.2.1 + a1)), some (.int p2), some (.long p3), none, some (.int v5_1)] [] μ19 (k7 μ19)) : ∀ (n : Nat) (v6_5 : Int32) (μ6 : gx_M), GoW E l Y_X0_weighRuns 1 gx_eV 15 [some (.ref (E.2.2.1 + 75)), some (.ref (E.2.2.1 + a1)), some (.int p2), some (.long p3), none, some (.int v5_1), some (.int v6_5)] [] μ6 (L_X0_weighRuns_15 a1 v5_1 p3 p2 k7 n v6_5 μ6) := by
  intro n
  induction n with
  | zero => intros; exact W_no
  | succ n ih =>
    intro v6_5 μ6
    rw [L_X0_weighRuns_15.eq_2]
    refine W_s (s_iload dX0_weighRuns_15 rfl) ?_
    refine W_s (s_aload_n dX0_weighRuns_17 rfl rfl) ?_
    refine W_s (gfm_RX0_27 ha1 rfl dX0_weighRuns_18) ?_
    refine W_ite (fun h8 => ?_) (fun h8 => ?_)
    · refine W_s (s_icmp_ge_t dX0_weighRuns_21 rfl h8) ?_
      exact W_wk (hk μ6) (le_s rfl (le_s rfl (le_s rfl (le_s rfl (le_o (le_s rfl le_n))))))
    · refine W_s (s_icmp_ge_f dX0_weighRuns_21 rfl h8) ?_
      refine W_s (s_ldc2 dX0_weighRuns_24 kw_RX0_30) ?_
      refine W_s (s_lstore dX0_weighRuns_27 (Nat.le_of_ble_eq_true rfl)) ?_
      refine W_s (s_aload_n dX0_weighRuns_29 rfl rfl) ?_
      refine W_s (s_iload dX0_weighRuns_30 rfl) ?_
      refine W_s (s_iload dX0_weighRuns_32 rfl) ?_
      refine W_s (s_lload_n dX0_weighRuns_34 rfl rfl) ?_
      refine W_br (ec := gx_eB) (fun r_ hr_ => s_callV (As := [.int _, .int _, .long _]) dX0_weighRuns_35 Lk_RX0_32 rfl (St_0 ha1) (by decide) rfl (Nat.le_of_ble_eq_true rfl) (Nat.le_of_ble_eq_true rfl) (ev_X5_goesIn a1 v5_1 v6_5 p3 ha1 μ6 hr_)) (fun r9 => ?_)
      refine W_fun (fun J => ∀ (j0_15 : Int64) (μ16 : gx_M), GoW E l Y_X0_weighRuns 1 gx_eV 70 [some (.ref (E.2.2.1 + 75)), some (.ref (E.2.2.1 + a1)), some (.int p2), some (.long p3), none, some (.int v5_1), some (.int v6_5), some (.long j0_15)] [] μ16 (J j0_15 μ16)) ?_ (fun J10 hJ10 => ?_)
      · intro j0_15 μ16
        refine W_s (s_aload_n dX0_weighRuns_70 rfl rfl) ?_
        refine W_s (gf_RX0_9 rfl dX0_weighRuns_71) ?_
        refine W_s (s_iload dX0_weighRuns_74 rfl) ?_
        refine W_s (s_bipush dX0_weighRuns_76 kcb_40) ?_
        refine W_s (s_imul dX0_weighRuns_78) ?_
        refine W_s (s_iload dX0_weighRuns_79 rfl) ?_
        refine W_s (s_iadd dX0_weighRuns_81) ?_
        refine W_s (s_lload dX0_weighRuns_82 rfl) ?_
        refine W_ck (fun h17 => ?_)
        refine W_s (s_last dX0_weighRuns_84 g_76 (gx_ixv h17)) ?_
        refine W_letM (fun μ18 => ?_)
        refine W_s (s_iinc dX0_weighRuns_85 rfl (kinc_1 v6_5) (Nat.le_of_ble_eq_true rfl)) ?_
        refine W_s (s_goto dX0_weighRuns_88 rfl) ?_
        exact W_wk (ih (v6_5 + 1) μ18) (le_s rfl (le_s rfl (le_s rfl (le_s rfl (le_o (le_s rfl (le_s rfl le_n)))))))
      · skip
        refine W_ite (fun h11 => ?_) (fun h11 => ?_)
        · refine W_s (s_if_eq_f dX0_weighRuns_38 rfl (gx_bt h11)) ?_
          refine W_s (s_aload_n dX0_weighRuns_41 rfl rfl) ?_
          refine W_s (s_iload_n dX0_weighRuns_42 rfl rfl) ?_
          refine W_s (s_iload dX0_weighRuns_43 rfl) ?_
          refine W_s (s_iload dX0_weighRuns_45 rfl) ?_
          refine W_br (ec := gx_eI) (fun r_ hr_ => s_callV (As := [.int _, .int _, .int _]) dX0_weighRuns_47 Lk_RX0_36 rfl (St_0 ha1) (by decide) rfl (Nat.le_of_ble_eq_true rfl) (Nat.le_of_ble_eq_true rfl) (ev_X5_costOfRun a1 p2 v5_1 v6_5 ha1 μ6 hr_)) (fun r12 => ?_)
          refine W_s (s_i2l dX0_weighRuns_50) ?_
          refine W_letL (fun x13 => ?_)
          refine W_s (s_lstore dX0_weighRuns_51 (Nat.le_of_ble_eq_true rfl)) ?_
          refine W_s (s_lload dX0_weighRuns_53 rfl) ?_
          refine W_s (s_bipush dX0_weighRuns_55 kcb_36) ?_
          refine W_s (s_lshl dX0_weighRuns_57) ?_
          refine W_s (s_iload dX0_weighRuns_58 rfl) ?_
          refine W_s (s_i2l dX0_weighRuns_60) ?_
          refine W_s (s_iload dX0_weighRuns_61 rfl) ?_
          refine W_s (s_callS (As := [.int _]) dX0_weighRuns_63 Lk_RX0_40 rfl (Nat.le_of_ble_eq_true rfl) (Nat.le_of_ble_eq_true rfl) (ev_X0_rowShift v5_1 μ6)) ?_
          refine W_s (s_lshl dX0_weighRuns_66) ?_
          refine W_s (s_ladd dX0_weighRuns_67) ?_
          refine W_letL (fun x14 => ?_)
          refine W_s (s_lstore dX0_weighRuns_68 (Nat.le_of_ble_eq_true rfl)) ?_
          exact W_wk (hJ10 x14 μ6) (le_s rfl (le_s rfl (le_s rfl (le_s rfl (le_o (le_s rfl (le_s rfl (le_s rfl le_n))))))))
        · refine W_s (s_if_eq_t dX0_weighRuns_38 rfl (gx_bf h11)) ?_
          exact W_wk (hJ10 1152921504606846976 μ6) (le_s rfl (le_s rfl (le_s rfl (le_s rfl (le_o (le_s rfl (le_s rfl (le_s rfl le_n))))))))
theorem okL_X0_weighRuns_3 {E : gx_E} {l : Launch} {a1 : Nat} {p3 : Int64} {p2 : Int32} (ha1 : gx_St a1) {k3 : gx_M → Option (Unit × gx_M)} (hk : ∀ (μ21 : gx_M), GoW E l Y_X0_weighRuns 1 gx_eV 97 [] [] μ21 (k3 μ21)) : ∀ (n : Nat) (v5_1 : Int32) (μ2 : gx_M), GoW E l Y_X0_weighRuns 1 gx_eV 3 [some (.ref (E.2.2.1 + 75)), some (.ref (E.2.2.1 + a1)), some (.int p2), some (.long p3), none, some (.int v5_1)] [] μ2 (L_X0_weighRuns_3 a1 p3 p2 k3 n v5_1 μ2) := by
  intro n
  induction n with
  | zero => intros; exact W_no
  | succ n ih =>
    intro v5_1 μ2
    rw [L_X0_weighRuns_3.eq_2]
    refine W_s (s_iload dX0_weighRuns_3 rfl) ?_
    refine W_s (s_aload_n dX0_weighRuns_5 rfl rfl) ?_
    refine W_s (gfm_RX0_21 ha1 rfl dX0_weighRuns_6) ?_
    refine W_ite (fun h4 => ?_) (fun h4 => ?_)
    · refine W_s (s_icmp_ge_t dX0_weighRuns_9 rfl h4) ?_
      exact W_wk (hk μ2) le_n
    · refine W_s (s_icmp_ge_f dX0_weighRuns_9 rfl h4) ?_
      refine W_s (s_iconst dX0_weighRuns_12 kci_0) ?_
      refine W_s (s_istore dX0_weighRuns_13 (Nat.le_of_ble_eq_true rfl)) ?_
      refine W_wk (okL_X0_weighRuns_15 ha1 ?_ 4000 0 μ2) (le_s rfl (le_s rfl (le_s rfl (le_s rfl (le_o (le_s rfl (le_s rfl le_n)))))))
      intro μ20
      refine W_s (s_iinc dX0_weighRuns_91 rfl (kinc_1 v5_1) (Nat.le_of_ble_eq_true rfl)) ?_
      refine W_s (s_goto dX0_weighRuns_94 rfl) ?_
      exact W_wk (ih (v5_1 + 1) μ20) (le_s rfl (le_s rfl (le_s rfl (le_s rfl (le_o (le_s rfl le_n))))))
theorem ev_X0_weighRuns {E : gx_E} {l : Launch} (a1 : Nat) (p2 : Int32) (p3 : Int64) (ha1 : gx_St a1) (μ : gx_M) {r : Unit} {μ' : gx_M} (hr : f_X0_weighRuns a1 p2 p3 μ = some (r, μ')) : gEv E l 1 Y_X0_weighRuns [.ref (E.2.2.1 + 75), .ref (E.2.2.1 + a1), .int p2, .long p3] gx_G1 μ (gx_eV r) gx_G1 μ' := by
  refine W_ev (by decide) (Nat.le_of_ble_eq_true rfl) (em := gx_eV) (T := f_X0_weighRuns a1 p2 p3 μ) ?_ hr
  show GoW E l Y_X0_weighRuns 1 gx_eV 0 (gx_el [.ref (E.2.2.1 + 75), .ref (E.2.2.1 + a1), .int p2, .long p3]) [] μ (f_X0_weighRuns a1 p2 p3 μ)
  unfold f_X0_weighRuns
  refine W_s (s_iconst dX0_weighRuns_0 kci_0) ?_
  refine W_s (s_istore dX0_weighRuns_1 (Nat.le_of_ble_eq_true rfl)) ?_
  refine W_wk (okL_X0_weighRuns_3 ha1 ?_ 4000 0 μ) (le_s rfl (le_s rfl (le_s rfl (le_s rfl (le_o (le_s rfl le_n))))))
  intro μ22
  exact W_r (r := ()) (f_void dX0_weighRuns_97 rfl)

def f_X0_firstIn (p0 : Int64) (p2 : Int32) : Int32 := if 1152921504606846976 ≤ p0 then (-1) else ((((p0 >>> (((f_X0_rowShift p2) : Int32).toInt64 &&& 63)) : Int64).toInt32) &&& 63)
theorem ev_X0_firstIn {E : gx_E} {l : Launch} (p0 : Int64) (p2 : Int32) (μ : gx_M) : gEv E l 1 Y_X0_firstIn [.long p0, .int p2] gx_G1 μ (gx_eI (f_X0_firstIn p0 p2)) gx_G1 μ := by
  refine P_ev (by decide) (Nat.le_of_ble_eq_true rfl) (em := gx_eI) (T := f_X0_firstIn p0 p2) ?_
  show GoP E l Y_X0_firstIn 1 gx_eI 0 (gx_el [.long p0, .int p2]) [] μ (f_X0_firstIn p0 p2)
  unfold f_X0_firstIn
  refine P_s (s_lload_n dX0_firstIn_0 rfl rfl) ?_
  refine P_s (s_ldc2 dX0_firstIn_1 kw_RX0_30) ?_
  refine P_s (s_lcmp dX0_firstIn_4) ?_
  refine P_ite (fun h1 => ?_) (fun h1 => ?_)
  · refine P_s (s_if_ge_t dX0_firstIn_5 rfl ((lgc_ge p0 1152921504606846976).mpr h1)) ?_
    refine P_s (s_iconst dX0_firstIn_21 kci_m1) ?_
    exact P_r (r := (-1)) (f_int (ty := .int) dX0_firstIn_22 rfl rfl)
  · refine P_s (s_if_ge_f dX0_firstIn_5 rfl (fun hc => h1 ((lgc_ge p0 1152921504606846976).mp hc))) ?_
    refine P_s (s_lload_n dX0_firstIn_8 rfl rfl) ?_
    refine P_s (s_iload_n dX0_firstIn_9 rfl rfl) ?_
    refine P_s (s_callS (As := [.int _]) dX0_firstIn_10 Lk_RX0_40 rfl (Nat.le_of_ble_eq_true rfl) (Nat.le_of_ble_eq_true rfl) (ev_X0_rowShift p2 μ)) ?_
    refine P_s (s_lshr dX0_firstIn_13) ?_
    refine P_s (s_l2i dX0_firstIn_14) ?_
    refine P_s (s_bipush dX0_firstIn_15 kcb_63) ?_
    refine P_s (s_iand dX0_firstIn_17) ?_
    refine P_s (s_goto dX0_firstIn_18 rfl) ?_
    exact P_r (r := ((((p0 >>> (((f_X0_rowShift p2) : Int32).toInt64 &&& 63)) : Int64).toInt32) &&& 63)) (f_int (ty := .int) dX0_firstIn_22 rfl rfl)

def L_X0_bestWeight_7 (μ : gx_M) (a1 : Nat) (p2 : Int32) (k3 : Int64 → Option Int64) : Nat → Int64 → Int32 → Option Int64
  | 0, _, _ => none
  | n + 1, v3_1, v5_2 => if (μ.1 a1 0) ≤ v5_2 then k3 v3_1 else gx_ck (gx_ix ((p2 * 40) + v5_2) 240 = true) (gx_lt (if (μ.2 76 ((p2 * 40) + v5_2).toNatClampNeg) < v3_1 then (μ.2 76 ((p2 * 40) + v5_2).toNatClampNeg) else v3_1) (fun (x6 : Int64) => L_X0_bestWeight_7 μ a1 p2 k3 n x6 (v5_2 + 1)))
def f_X0_bestWeight (a1 : Nat) (p2 : Int32) (μ : gx_M) : Option Int64 := L_X0_bestWeight_7 μ a1 p2 (fun (x3_8 : Int64) => some x3_8) 4000 1152921504606846976 0
theorem okL_X0_bestWeight_7 {E : gx_E} {l : Launch} {μ : gx_M} {a1 : Nat} {p2 : Int32} (ha1 : gx_St a1) {k3 : Int64 → Option Int64} (hk : ∀ (w7 : Int64), GoR E l Y_X0_bestWeight 1 gx_eL 39 [none, none, none, some (.long w7)] [] μ (k3 w7)) : ∀ (n : Nat) (v3_1 : Int64) (v5_2 : Int32), GoR E l Y_X0_bestWeight 1 gx_eL 7 [some (.ref (E.2.2.1 + 75)), some (.ref (E.2.2.1 + a1)), some (.int p2), some (.long v3_1), none, some (.int v5_2)] [] μ (L_X0_bestWeight_7 μ a1 p2 k3 n v3_1 v5_2) := by
  intro n
  induction n with
  | zero => intros; exact R_no
  | succ n ih =>
    intro v3_1 v5_2
    rw [L_X0_bestWeight_7.eq_2]
    refine R_s (s_iload dX0_bestWeight_7 rfl) ?_
    refine R_s (s_aload_n dX0_bestWeight_9 rfl rfl) ?_
    refine R_s (gfm_RX0_27 ha1 rfl dX0_bestWeight_10) ?_
    refine R_ite (fun h4 => ?_) (fun h4 => ?_)
    · refine R_s (s_icmp_ge_t dX0_bestWeight_13 rfl h4) ?_
      exact R_wk (hk v3_1) (le_o (le_o (le_o (le_s rfl le_n))))
    · refine R_s (s_icmp_ge_f dX0_bestWeight_13 rfl h4) ?_
      refine R_s (s_lload_n dX0_bestWeight_16 rfl rfl) ?_
      refine R_s (s_aload_n dX0_bestWeight_17 rfl rfl) ?_
      refine R_s (gf_RX0_9 rfl dX0_bestWeight_18) ?_
      refine R_s (s_iload_n dX0_bestWeight_21 rfl rfl) ?_
      refine R_s (s_bipush dX0_bestWeight_22 kcb_40) ?_
      refine R_s (s_imul dX0_bestWeight_24) ?_
      refine R_s (s_iload dX0_bestWeight_25 rfl) ?_
      refine R_s (s_iadd dX0_bestWeight_27) ?_
      refine R_ck (fun h5 => ?_)
      refine R_s (s_lald dX0_bestWeight_28 g_76 (gx_ixv h5)) ?_
      refine R_s (s_mminl dX0_bestWeight_29 Lk_RX0_44 (Nat.le_of_ble_eq_true rfl) (Nat.le_of_ble_eq_true rfl)) ?_
      refine R_letL (fun x6 => ?_)
      refine R_s (s_lstore_n dX0_bestWeight_32 rfl (Nat.le_of_ble_eq_true rfl)) ?_
      refine R_s (s_iinc dX0_bestWeight_33 rfl (kinc_1 v5_2) (Nat.le_of_ble_eq_true rfl)) ?_
      refine R_s (s_goto dX0_bestWeight_36 rfl) ?_
      exact R_wk (ih x6 (v5_2 + 1)) (le_s rfl (le_s rfl (le_s rfl (le_s rfl (le_o (le_s rfl le_n))))))
theorem ev_X0_bestWeight {E : gx_E} {l : Launch} (a1 : Nat) (p2 : Int32) (ha1 : gx_St a1) (μ : gx_M) {r : Int64} (hr : f_X0_bestWeight a1 p2 μ = some r) : gEv E l 1 Y_X0_bestWeight [.ref (E.2.2.1 + 75), .ref (E.2.2.1 + a1), .int p2] gx_G1 μ (gx_eL r) gx_G1 μ := by
  refine R_ev (by decide) (Nat.le_of_ble_eq_true rfl) (em := gx_eL) (T := f_X0_bestWeight a1 p2 μ) ?_ hr
  show GoR E l Y_X0_bestWeight 1 gx_eL 0 (gx_el [.ref (E.2.2.1 + 75), .ref (E.2.2.1 + a1), .int p2]) [] μ (f_X0_bestWeight a1 p2 μ)
  unfold f_X0_bestWeight
  refine R_s (s_ldc2 dX0_bestWeight_0 kw_RX0_30) ?_
  refine R_s (s_lstore_n dX0_bestWeight_3 rfl (Nat.le_of_ble_eq_true rfl)) ?_
  refine R_s (s_iconst dX0_bestWeight_4 kci_0) ?_
  refine R_s (s_istore dX0_bestWeight_5 (Nat.le_of_ble_eq_true rfl)) ?_
  refine R_wk (okL_X0_bestWeight_7 ha1 ?_ 4000 1152921504606846976 0) (le_s rfl (le_s rfl (le_s rfl (le_s rfl (le_o (le_s rfl le_n))))))
  intro x3_8
  refine R_s (s_lload_n dX0_bestWeight_39 rfl rfl) ?_
  exact R_r (r := x3_8) (f_long dX0_bestWeight_40 rfl)

def L_X0_goOn_20 (a1 : Nat) (p2 : Int32) (p4 : Int32) (p3 : Int32) (p5 : Int64) (k5 : gx_M → Option (Unit × gx_M)) : Nat → Int32 → gx_M → Option (Unit × gx_M)
  | 0, _, _ => none
  | n + 1, v7_3, μ4 => if (μ4.1 a1 2) ≤ v7_3 then k5 μ4 else gx_ck (gx_ix ((v7_3 * 40) + p2) 240 = true) (gx_lt (μ4.2 76 ((v7_3 * 40) + p2).toNatClampNeg) (fun (x8 : Int64) => gx_lt (fun (μ15 : gx_M) => L_X0_goOn_20 a1 p2 p4 p3 p5 k5 n (v7_3 + 1) μ15) (fun J9 => if (((p4 &&& (p3 ^^^ (-1))) >>> (v7_3 &&& 31)) &&& 1) = 1 then if 1152921504606846976 ≤ x8 then J9 μ4 else gx_br (f_X0_behind a1 p2 p3 v7_3 μ4) (fun (r12 : Int32) => gx_bd (f_X0_lower 77 2624 r12 (p5 + x8) μ4) (fun (r13 : Unit) (μ14 : gx_M) => J9 μ14)) else J9 μ4)))
def f_X0_goOn (a1 : Nat) (p2 : Int32) (p3 : Int32) (p4 : Int32) (p5 : Int64) (μ : gx_M) : Option (Unit × gx_M) := gx_bd (f_X0_lower 77 2624 (((p2 + 1) * 64) + p3) p5 μ) (fun (r1 : Unit) (μ2 : gx_M) => L_X0_goOn_20 a1 p2 p4 p3 p5 (fun (μ17 : gx_M) => some ((), μ17)) 4000 0 μ2)
theorem okL_X0_goOn_20 {E : gx_E} {l : Launch} {a1 : Nat} {p2 : Int32} {p4 : Int32} {p3 : Int32} {p5 : Int64} (ha1 : gx_St a1) {k5 : gx_M → Option (Unit × gx_M)} (hk : ∀ (μ16 : gx_M), GoW E l Y_X0_goOn 1 gx_eV 93 [] [] μ16 (k5 μ16)) : ∀ (n : Nat) (v7_3 : Int32) (μ4 : gx_M), GoW E l Y_X0_goOn 1 gx_eV 20 [some (.ref (E.2.2.1 + 75)), some (.ref (E.2.2.1 + a1)), some (.int p2), some (.int p3), some (.int p4), some (.long p5), none, some (.int v7_3)] [] μ4 (L_X0_goOn_20 a1 p2 p4 p3 p5 k5 n v7_3 μ4) := by
  intro n
  induction n with
  | zero => intros; exact W_no
  | succ n ih =>
    intro v7_3 μ4
    rw [L_X0_goOn_20.eq_2]
    refine W_s (s_iload dX0_goOn_20 rfl) ?_
    refine W_s (s_aload_n dX0_goOn_22 rfl rfl) ?_
    refine W_s (gfm_RX0_21 ha1 rfl dX0_goOn_23) ?_
    refine W_ite (fun h6 => ?_) (fun h6 => ?_)
    · refine W_s (s_icmp_ge_t dX0_goOn_26 rfl h6) ?_
      exact W_wk (hk μ4) le_n
    · refine W_s (s_icmp_ge_f dX0_goOn_26 rfl h6) ?_
      refine W_s (s_aload_n dX0_goOn_29 rfl rfl) ?_
      refine W_s (gf_RX0_9 rfl dX0_goOn_30) ?_
      refine W_s (s_iload dX0_goOn_33 rfl) ?_
      refine W_s (s_bipush dX0_goOn_35 kcb_40) ?_
      refine W_s (s_imul dX0_goOn_37) ?_
      refine W_s (s_iload_n dX0_goOn_38 rfl rfl) ?_
      refine W_s (s_iadd dX0_goOn_39) ?_
      refine W_ck (fun h7 => ?_)
      refine W_s (s_lald dX0_goOn_40 g_76 (gx_ixv h7)) ?_
      refine W_letL (fun x8 => ?_)
      refine W_s (s_lstore dX0_goOn_41 (Nat.le_of_ble_eq_true rfl)) ?_
      refine W_s (s_iload dX0_goOn_43 rfl) ?_
      refine W_s (s_iload_n dX0_goOn_45 rfl rfl) ?_
      refine W_s (s_iconst dX0_goOn_46 kci_m1) ?_
      refine W_s (s_ixor dX0_goOn_47) ?_
      refine W_s (s_iand dX0_goOn_48) ?_
      refine W_s (s_iload dX0_goOn_49 rfl) ?_
      refine W_s (s_ishr dX0_goOn_51) ?_
      refine W_s (s_iconst dX0_goOn_52 kci_1) ?_
      refine W_s (s_iand dX0_goOn_53) ?_
      refine W_s (s_iconst dX0_goOn_54 kci_1) ?_
      refine W_fun (fun J => ∀ (μ15 : gx_M), GoW E l Y_X0_goOn 1 gx_eV 87 [some (.ref (E.2.2.1 + 75)), some (.ref (E.2.2.1 + a1)), some (.int p2), some (.int p3), some (.int p4), some (.long p5), none, some (.int v7_3)] [] μ15 (J μ15)) ?_ (fun J9 hJ9 => ?_)
      · intro μ15
        refine W_s (s_iinc dX0_goOn_87 rfl (kinc_1 v7_3) (Nat.le_of_ble_eq_true rfl)) ?_
        refine W_s (s_goto dX0_goOn_90 rfl) ?_
        exact W_wk (ih (v7_3 + 1) μ15) (le_s rfl (le_s rfl (le_s rfl (le_s rfl (le_s rfl (le_s rfl (le_o (le_s rfl le_n))))))))
      · skip
        refine W_ite (fun h10 => ?_) (fun h10 => ?_)
        · refine W_s (s_icmp_ne_f dX0_goOn_55 rfl h10) ?_
          refine W_s (s_lload dX0_goOn_58 rfl) ?_
          refine W_s (s_ldc2 dX0_goOn_60 kw_RX0_30) ?_
          refine W_s (s_lcmp dX0_goOn_63) ?_
          refine W_ite (fun h11 => ?_) (fun h11 => ?_)
          · refine W_s (s_if_ge_t dX0_goOn_64 rfl ((lgc_ge x8 1152921504606846976).mpr h11)) ?_
            exact W_wk (hJ9 μ4) (le_s rfl (le_s rfl (le_s rfl (le_s rfl (le_s rfl (le_s rfl (le_o (le_s rfl le_n))))))))
          · refine W_s (s_if_ge_f dX0_goOn_64 rfl (fun hc => h11 ((lgc_ge x8 1152921504606846976).mp hc))) ?_
            refine W_s (s_aload_n dX0_goOn_67 rfl rfl) ?_
            refine W_s (gf_RX0_15 rfl dX0_goOn_68) ?_
            refine W_s (s_aload_n dX0_goOn_71 rfl rfl) ?_
            refine W_s (s_iload_n dX0_goOn_72 rfl rfl) ?_
            refine W_s (s_iload_n dX0_goOn_73 rfl rfl) ?_
            refine W_s (s_iload dX0_goOn_74 rfl) ?_
            refine W_br (ec := gx_eI) (fun r_ hr_ => s_callS (As := [.ref _, .int _, .int _, .int _]) dX0_goOn_76 Lk_RX0_87 rfl (Nat.le_of_ble_eq_true rfl) (Nat.le_of_ble_eq_true rfl) (ev_X0_behind a1 p2 p3 v7_3 ha1 μ4 hr_)) (fun r12 => ?_)
            refine W_s (s_lload dX0_goOn_79 rfl) ?_
            refine W_s (s_lload dX0_goOn_81 rfl) ?_
            refine W_s (s_ladd dX0_goOn_83) ?_
            refine W_bd (ec := gx_eV) (fun r_ μ_ hr_ => s_callS (As := [.ref _, .int _, .long _]) dX0_goOn_84 Lk_RX0_83 rfl (Nat.le_of_ble_eq_true rfl) (Nat.le_of_ble_eq_true rfl) (ev_X0_lower 77 2624 r12 (p5 + x8) g_77 μ4 hr_)) (fun r13 μ14 => ?_)
            exact W_wk (hJ9 μ14) (le_s rfl (le_s rfl (le_s rfl (le_s rfl (le_s rfl (le_s rfl (le_o (le_s rfl le_n))))))))
        · refine W_s (s_icmp_ne_t dX0_goOn_55 rfl h10) ?_
          exact W_wk (hJ9 μ4) (le_s rfl (le_s rfl (le_s rfl (le_s rfl (le_s rfl (le_s rfl (le_o (le_s rfl le_n))))))))
theorem ev_X0_goOn {E : gx_E} {l : Launch} (a1 : Nat) (p2 : Int32) (p3 : Int32) (p4 : Int32) (p5 : Int64) (ha1 : gx_St a1) (μ : gx_M) {r : Unit} {μ' : gx_M} (hr : f_X0_goOn a1 p2 p3 p4 p5 μ = some (r, μ')) : gEv E l 1 Y_X0_goOn [.ref (E.2.2.1 + 75), .ref (E.2.2.1 + a1), .int p2, .int p3, .int p4, .long p5] gx_G1 μ (gx_eV r) gx_G1 μ' := by
  refine W_ev (by decide) (Nat.le_of_ble_eq_true rfl) (em := gx_eV) (T := f_X0_goOn a1 p2 p3 p4 p5 μ) ?_ hr
  show GoW E l Y_X0_goOn 1 gx_eV 0 (gx_el [.ref (E.2.2.1 + 75), .ref (E.2.2.1 + a1), .int p2, .int p3, .int p4, .long p5]) [] μ (f_X0_goOn a1 p2 p3 p4 p5 μ)
  unfold f_X0_goOn
  refine W_s (s_aload_n dX0_goOn_0 rfl rfl) ?_
  refine W_s (gf_RX0_15 rfl dX0_goOn_1) ?_
  refine W_s (s_iload_n dX0_goOn_4 rfl rfl) ?_
  refine W_s (s_iconst dX0_goOn_5 kci_1) ?_
  refine W_s (s_iadd dX0_goOn_6) ?_
  refine W_s (s_bipush dX0_goOn_7 kcb_64) ?_
  refine W_s (s_imul dX0_goOn_9) ?_
  refine W_s (s_iload_n dX0_goOn_10 rfl rfl) ?_
  refine W_s (s_iadd dX0_goOn_11) ?_
  refine W_s (s_lload dX0_goOn_12 rfl) ?_
  refine W_bd (ec := gx_eV) (fun r_ μ_ hr_ => s_callS (As := [.ref _, .int _, .long _]) dX0_goOn_14 Lk_RX0_83 rfl (Nat.le_of_ble_eq_true rfl) (Nat.le_of_ble_eq_true rfl) (ev_X0_lower 77 2624 (((p2 + 1) * 64) + p3) p5 g_77 μ hr_)) (fun r1 μ2 => ?_)
  refine W_s (s_iconst dX0_goOn_17 kci_0) ?_
  refine W_s (s_istore dX0_goOn_18 (Nat.le_of_ble_eq_true rfl)) ?_
  refine W_wk (okL_X0_goOn_20 ha1 ?_ 4000 0 μ2) (le_s rfl (le_s rfl (le_s rfl (le_s rfl (le_s rfl (le_s rfl (le_o (le_s rfl le_n))))))))
  intro μ17
  exact W_r (r := ()) (f_void dX0_goOn_93 rfl)

def f_X0_costOfSet (a1 : Nat) (p2 : Int32) (μ : gx_M) : Option Int32 := gx_ck (gx_ix (((μ.1 a1 0) * 64) + p2) 2624 = true) (some (f_X0_costIn (μ.2 77 (((μ.1 a1 0) * 64) + p2).toNatClampNeg)))
theorem ev_X0_costOfSet {E : gx_E} {l : Launch} (a1 : Nat) (p2 : Int32) (ha1 : gx_St a1) (μ : gx_M) {r : Int32} (hr : f_X0_costOfSet a1 p2 μ = some r) : gEv E l 1 Y_X0_costOfSet [.ref (E.2.2.1 + 75), .ref (E.2.2.1 + a1), .int p2] gx_G1 μ (gx_eI r) gx_G1 μ := by
  refine R_ev (by decide) (Nat.le_of_ble_eq_true rfl) (em := gx_eI) (T := f_X0_costOfSet a1 p2 μ) ?_ hr
  show GoR E l Y_X0_costOfSet 1 gx_eI 0 (gx_el [.ref (E.2.2.1 + 75), .ref (E.2.2.1 + a1), .int p2]) [] μ (f_X0_costOfSet a1 p2 μ)
  unfold f_X0_costOfSet
  refine R_s (s_aload_n dX0_costOfSet_0 rfl rfl) ?_
  refine R_s (gf_RX0_15 rfl dX0_costOfSet_1) ?_
  refine R_s (s_aload_n dX0_costOfSet_4 rfl rfl) ?_
  refine R_s (gfm_RX0_27 ha1 rfl dX0_costOfSet_5) ?_
  refine R_s (s_bipush dX0_costOfSet_8 kcb_64) ?_
  refine R_s (s_imul dX0_costOfSet_10) ?_
  refine R_s (s_iload_n dX0_costOfSet_11 rfl rfl) ?_
  refine R_s (s_iadd dX0_costOfSet_12) ?_
  refine R_ck (fun h1 => ?_)
  refine R_s (s_lald dX0_costOfSet_13 g_77 (gx_ixv h1)) ?_
  refine R_s (s_callS (As := [.long _]) dX0_costOfSet_14 Lk_RX0_54 rfl (Nat.le_of_ble_eq_true rfl) (Nat.le_of_ble_eq_true rfl) (ev_X0_costIn (μ.2 77 (((μ.1 a1 0) * 64) + p2).toNatClampNeg) μ)) ?_
  exact R_r (r := (f_X0_costIn (μ.2 77 (((μ.1 a1 0) * 64) + p2).toNatClampNeg))) (f_int (ty := .int) dX0_costOfSet_17 rfl rfl)

def f_X0_weighChoice (p1 : Int32) (p2 : Int32) (μ : gx_M) : Option (Unit × gx_M) := gx_lt (fun (j0_3 : Bool) (μ4 : gx_M) => gx_lt (fun (μ9 : gx_M) => gx_lt (gx_uI μ9 75 3 p1) (fun (μ10 : gx_M) => gx_lt (gx_uI μ10 75 4 p2) (fun (μ11 : gx_M) => some ((), μ11)))) (fun J5 => if (μ4.1 75 4) < p2 then J5 μ4 else if p2 = (μ4.1 75 4) then if j0_3 = true then J5 μ4 else some ((), μ4) else some ((), μ4))) (fun J1 => if (f_J6_bitCount_0f7a4 (μ.1 75 3)) ≤ (f_J6_bitCount_0f7a4 p1) then J1 false μ else J1 true μ)
theorem ev_X0_weighChoice {E : gx_E} {l : Launch} (p1 : Int32) (p2 : Int32) (μ : gx_M) {r : Unit} {μ' : gx_M} (hr : f_X0_weighChoice p1 p2 μ = some (r, μ')) : gEv E l 1 Y_X0_weighChoice [.ref (E.2.2.1 + 75), .int p1, .int p2] gx_G1 μ (gx_eV r) gx_G1 μ' := by
  refine W_ev (by decide) (Nat.le_of_ble_eq_true rfl) (em := gx_eV) (T := f_X0_weighChoice p1 p2 μ) ?_ hr
  show GoW E l Y_X0_weighChoice 1 gx_eV 0 (gx_el [.ref (E.2.2.1 + 75), .int p1, .int p2]) [] μ (f_X0_weighChoice p1 p2 μ)
  unfold f_X0_weighChoice
  refine W_s (s_iload_n dX0_weighChoice_0 rfl rfl) ?_
  refine W_s (s_callS (As := [.int _]) dX0_weighChoice_1 Lk_RX0_126 rfl (Nat.le_of_ble_eq_true rfl) (Nat.le_of_ble_eq_true rfl) (ev_J6_bitCount_0f7a4 p1 μ)) ?_
  refine W_s (s_aload_n dX0_weighChoice_4 rfl rfl) ?_
  refine W_s (gf_RX0_107 rfl dX0_weighChoice_5) ?_
  refine W_s (s_callS (As := [.int _]) dX0_weighChoice_8 Lk_RX0_126 rfl (Nat.le_of_ble_eq_true rfl) (Nat.le_of_ble_eq_true rfl) (ev_J6_bitCount_0f7a4 (μ.1 75 3) μ)) ?_
  refine W_fun (fun J => ∀ (j0_3 : Bool) (μ4 : gx_M), GoW E l Y_X0_weighChoice 1 gx_eV 19 [some (.ref (E.2.2.1 + 75)), some (.int p1), some (.int p2)] [.int (gx_bi j0_3)] μ4 (J j0_3 μ4)) ?_ (fun J1 hJ1 => ?_)
  · intro j0_3 μ4
    refine W_s (s_istore_n dX0_weighChoice_19 rfl (Nat.le_of_ble_eq_true rfl)) ?_
    refine W_s (s_iload_n dX0_weighChoice_20 rfl rfl) ?_
    refine W_s (s_aload_n dX0_weighChoice_21 rfl rfl) ?_
    refine W_s (gf_RX0_110 rfl dX0_weighChoice_22) ?_
    refine W_fun (fun J => ∀ (μ9 : gx_M), GoW E l Y_X0_weighChoice 1 gx_eV 40 [some (.ref (E.2.2.1 + 75)), some (.int p1), some (.int p2)] [] μ9 (J μ9)) ?_ (fun J5 hJ5 => ?_)
    · intro μ9
      refine W_s (s_aload_n dX0_weighChoice_40 rfl rfl) ?_
      refine W_s (s_iload_n dX0_weighChoice_41 rfl rfl) ?_
      refine W_s (pf_RX0_107 rfl dX0_weighChoice_42) ?_
      refine W_letM (fun μ10 => ?_)
      refine W_s (s_aload_n dX0_weighChoice_45 rfl rfl) ?_
      refine W_s (s_iload_n dX0_weighChoice_46 rfl rfl) ?_
      refine W_s (pf_RX0_110 rfl dX0_weighChoice_47) ?_
      refine W_letM (fun μ11 => ?_)
      exact W_r (r := ()) (f_void dX0_weighChoice_50 rfl)
    · skip
      refine W_ite (fun h6 => ?_) (fun h6 => ?_)
      · refine W_s (s_icmp_gt_t dX0_weighChoice_25 rfl h6) ?_
        exact W_wk (hJ5 μ4) (le_s rfl (le_s rfl (le_s rfl le_n)))
      · refine W_s (s_icmp_gt_f dX0_weighChoice_25 rfl h6) ?_
        refine W_s (s_iload_n dX0_weighChoice_28 rfl rfl) ?_
        refine W_s (s_aload_n dX0_weighChoice_29 rfl rfl) ?_
        refine W_s (gf_RX0_110 rfl dX0_weighChoice_30) ?_
        refine W_ite (fun h7 => ?_) (fun h7 => ?_)
        · refine W_s (s_icmp_ne_f dX0_weighChoice_33 rfl h7) ?_
          refine W_s (s_iload_n dX0_weighChoice_36 rfl rfl) ?_
          refine W_ite (fun h8 => ?_) (fun h8 => ?_)
          · refine W_s (s_if_eq_f dX0_weighChoice_37 rfl (gx_bt h8)) ?_
            exact W_wk (hJ5 μ4) (le_s rfl (le_s rfl (le_s rfl le_n)))
          · refine W_s (s_if_eq_t dX0_weighChoice_37 rfl (gx_bf h8)) ?_
            exact W_r (r := ()) (f_void dX0_weighChoice_50 rfl)
        · refine W_s (s_icmp_ne_t dX0_weighChoice_33 rfl h7) ?_
          exact W_r (r := ()) (f_void dX0_weighChoice_50 rfl)
  · skip
    refine W_ite (fun h2 => ?_) (fun h2 => ?_)
    · refine W_s (s_icmp_ge_t dX0_weighChoice_11 rfl h2) ?_
      refine W_s (s_iconst dX0_weighChoice_18 kci_0) ?_
      exact W_wk (hJ1 false μ) (le_s rfl (le_s rfl (le_s rfl le_n)))
    · refine W_s (s_icmp_ge_f dX0_weighChoice_11 rfl h2) ?_
      refine W_s (s_iconst dX0_weighChoice_14 kci_1) ?_
      refine W_s (s_goto dX0_weighChoice_15 rfl) ?_
      exact W_wk (hJ1 true μ) (le_s rfl (le_s rfl (le_s rfl le_n)))

def f_X0_giveIn (a1 : Nat) (p2 : Int32) (p3 : Int32) (p4 : Int32) (p5 : Int32) (μ : gx_M) : Option (Unit × gx_M) := gx_ck (gx_ix ((p5 * 40) + p3) 240 = true) (gx_lt ((μ.2 76 ((p5 * 40) + p3).toNatClampNeg) >>> ((36 : Int32).toInt64 &&& 63)) (fun (x2 : Int64) => gx_ck (gx_ix ((p3 * 64) + p4) 2624 = true) (gx_lt (μ.2 78 ((p3 * 64) + p4).toNatClampNeg) (fun (x4 : Int64) => gx_lt (fun (μ10 : gx_M) => gx_lt (μ10.2 77 ((p3 * 64) + p4).toNatClampNeg) (fun (x11 : Int64) => gx_br (f_X0_dearestNotHis a1 p2 p5 p3 μ10) (fun (r12 : Int32) => if 1152921504606846976 ≤ x11 then some ((), μ10) else if r12 = (-1) then some ((), μ10) else gx_ck (gx_ix r12 40 = true) (gx_lt (((x11 >>> ((36 : Int32).toInt64 &&& 63)) + x2) - (((μ10.1 (a1 + 2) r12.toNatClampNeg) : Int32).toInt64)) (fun (x16 : Int64) => gx_br (f_X0_behind a1 p3 p4 p5 μ10) (fun (r17 : Int32) => gx_bd (f_X0_lower 78 2624 r17 ((x16 <<< ((6 : Int32).toInt64 &&& 63)) + ((r12 : Int32).toInt64)) μ10) (fun (r18 : Unit) (μ19 : gx_M) => some ((), μ19)))))))) (fun J5 => if 1152921504606846976 ≤ x4 then J5 μ else gx_br (f_X0_behind a1 p3 p4 p5 μ) (fun (r7 : Int32) => gx_bd (f_X0_lower 78 2624 r7 (x4 + (x2 <<< ((6 : Int32).toInt64 &&& 63))) μ) (fun (r8 : Unit) (μ9 : gx_M) => J5 μ9)))))))
theorem ev_X0_giveIn {E : gx_E} {l : Launch} (a1 : Nat) (p2 : Int32) (p3 : Int32) (p4 : Int32) (p5 : Int32) (ha1 : gx_St a1) (μ : gx_M) {r : Unit} {μ' : gx_M} (hr : f_X0_giveIn a1 p2 p3 p4 p5 μ = some (r, μ')) : gEv E l 1 Y_X0_giveIn [.ref (E.2.2.1 + 75), .ref (E.2.2.1 + a1), .int p2, .int p3, .int p4, .int p5] gx_G1 μ (gx_eV r) gx_G1 μ' := by
  refine W_ev (by decide) (Nat.le_of_ble_eq_true rfl) (em := gx_eV) (T := f_X0_giveIn a1 p2 p3 p4 p5 μ) ?_ hr
  show GoW E l Y_X0_giveIn 1 gx_eV 0 (gx_el [.ref (E.2.2.1 + 75), .ref (E.2.2.1 + a1), .int p2, .int p3, .int p4, .int p5]) [] μ (f_X0_giveIn a1 p2 p3 p4 p5 μ)
  unfold f_X0_giveIn
  refine W_s (s_aload_n dX0_giveIn_0 rfl rfl) ?_
  refine W_s (gf_RX0_9 rfl dX0_giveIn_1) ?_
  refine W_s (s_iload dX0_giveIn_4 rfl) ?_
  refine W_s (s_bipush dX0_giveIn_6 kcb_40) ?_
  refine W_s (s_imul dX0_giveIn_8) ?_
  refine W_s (s_iload_n dX0_giveIn_9 rfl rfl) ?_
  refine W_s (s_iadd dX0_giveIn_10) ?_
  refine W_ck (fun h1 => ?_)
  refine W_s (s_lald dX0_giveIn_11 g_76 (gx_ixv h1)) ?_
  refine W_s (s_bipush dX0_giveIn_12 kcb_36) ?_
  refine W_s (s_lshr dX0_giveIn_14) ?_
  refine W_letL (fun x2 => ?_)
  refine W_s (s_lstore dX0_giveIn_15 (Nat.le_of_ble_eq_true rfl)) ?_
  refine W_s (s_aload_n dX0_giveIn_17 rfl rfl) ?_
  refine W_s (gf_RX0_18 rfl dX0_giveIn_18) ?_
  refine W_s (s_iload_n dX0_giveIn_21 rfl rfl) ?_
  refine W_s (s_bipush dX0_giveIn_22 kcb_64) ?_
  refine W_s (s_imul dX0_giveIn_24) ?_
  refine W_s (s_iload dX0_giveIn_25 rfl) ?_
  refine W_s (s_iadd dX0_giveIn_27) ?_
  refine W_ck (fun h3 => ?_)
  refine W_s (s_lald dX0_giveIn_28 g_78 (gx_ixv h3)) ?_
  refine W_letL (fun x4 => ?_)
  refine W_s (s_lstore dX0_giveIn_29 (Nat.le_of_ble_eq_true rfl)) ?_
  refine W_s (s_lload dX0_giveIn_31 rfl) ?_
  refine W_s (s_ldc2 dX0_giveIn_33 kw_RX0_30) ?_
  refine W_s (s_lcmp dX0_giveIn_36) ?_
  refine W_fun (fun J => ∀ (μ10 : gx_M), GoW E l Y_X0_giveIn 1 gx_eV 64 [some (.ref (E.2.2.1 + 75)), some (.ref (E.2.2.1 + a1)), some (.int p2), some (.int p3), some (.int p4), some (.int p5), some (.long x2)] [] μ10 (J μ10)) ?_ (fun J5 hJ5 => ?_)
  · intro μ10
    refine W_s (s_aload_n dX0_giveIn_64 rfl rfl) ?_
    refine W_s (gf_RX0_15 rfl dX0_giveIn_65) ?_
    refine W_s (s_iload_n dX0_giveIn_68 rfl rfl) ?_
    refine W_s (s_bipush dX0_giveIn_69 kcb_64) ?_
    refine W_s (s_imul dX0_giveIn_71) ?_
    refine W_s (s_iload dX0_giveIn_72 rfl) ?_
    refine W_s (s_iadd dX0_giveIn_74) ?_
    refine W_s (s_lald dX0_giveIn_75 g_77 (gx_ixv h3)) ?_
    refine W_letL (fun x11 => ?_)
    refine W_s (s_lstore dX0_giveIn_76 (Nat.le_of_ble_eq_true rfl)) ?_
    refine W_s (s_aload_n dX0_giveIn_78 rfl rfl) ?_
    refine W_s (s_iload_n dX0_giveIn_79 rfl rfl) ?_
    refine W_s (s_iload dX0_giveIn_80 rfl) ?_
    refine W_s (s_iload_n dX0_giveIn_82 rfl rfl) ?_
    refine W_br (ec := gx_eI) (fun r_ hr_ => s_callS (As := [.ref _, .int _, .int _, .int _]) dX0_giveIn_83 Lk_RX0_151 rfl (Nat.le_of_ble_eq_true rfl) (Nat.le_of_ble_eq_true rfl) (ev_X0_dearestNotHis a1 p2 p5 p3 ha1 μ10 hr_)) (fun r12 => ?_)
    refine W_s (s_istore dX0_giveIn_86 (Nat.le_of_ble_eq_true rfl)) ?_
    refine W_s (s_lload dX0_giveIn_88 rfl) ?_
    refine W_s (s_ldc2 dX0_giveIn_90 kw_RX0_30) ?_
    refine W_s (s_lcmp dX0_giveIn_93) ?_
    refine W_ite (fun h13 => ?_) (fun h13 => ?_)
    · refine W_s (s_if_ge_t dX0_giveIn_94 rfl ((lgc_ge x11 1152921504606846976).mpr h13)) ?_
      exact W_r (r := ()) (f_void dX0_giveIn_147 rfl)
    · refine W_s (s_if_ge_f dX0_giveIn_94 rfl (fun hc => h13 ((lgc_ge x11 1152921504606846976).mp hc))) ?_
      refine W_s (s_iload dX0_giveIn_97 rfl) ?_
      refine W_s (s_iconst dX0_giveIn_99 kci_m1) ?_
      refine W_ite (fun h14 => ?_) (fun h14 => ?_)
      · refine W_s (s_icmp_eq_t dX0_giveIn_100 rfl h14) ?_
        exact W_r (r := ()) (f_void dX0_giveIn_147 rfl)
      · refine W_s (s_icmp_eq_f dX0_giveIn_100 rfl h14) ?_
        refine W_s (s_lload dX0_giveIn_103 rfl) ?_
        refine W_s (s_bipush dX0_giveIn_105 kcb_36) ?_
        refine W_s (s_lshr dX0_giveIn_107) ?_
        refine W_s (s_lload dX0_giveIn_108 rfl) ?_
        refine W_s (s_ladd dX0_giveIn_110) ?_
        refine W_s (s_aload_n dX0_giveIn_111 rfl rfl) ?_
        refine W_s (gfm_RX0_154 ha1 rfl dX0_giveIn_112) ?_
        refine W_s (s_iload dX0_giveIn_115 rfl) ?_
        refine W_ck (fun h15 => ?_)
        refine W_s (s_iald dX0_giveIn_117 (St_2 ha1) (gx_ixv h15)) ?_
        refine W_s (s_i2l dX0_giveIn_118) ?_
        refine W_s (s_lsub dX0_giveIn_119) ?_
        refine W_letL (fun x16 => ?_)
        refine W_s (s_lstore dX0_giveIn_120 (Nat.le_of_ble_eq_true rfl)) ?_
        refine W_s (s_aload_n dX0_giveIn_122 rfl rfl) ?_
        refine W_s (gf_RX0_18 rfl dX0_giveIn_123) ?_
        refine W_s (s_aload_n dX0_giveIn_126 rfl rfl) ?_
        refine W_s (s_iload_n dX0_giveIn_127 rfl rfl) ?_
        refine W_s (s_iload dX0_giveIn_128 rfl) ?_
        refine W_s (s_iload dX0_giveIn_130 rfl) ?_
        refine W_br (ec := gx_eI) (fun r_ hr_ => s_callS (As := [.ref _, .int _, .int _, .int _]) dX0_giveIn_132 Lk_RX0_87 rfl (Nat.le_of_ble_eq_true rfl) (Nat.le_of_ble_eq_true rfl) (ev_X0_behind a1 p3 p4 p5 ha1 μ10 hr_)) (fun r17 => ?_)
        refine W_s (s_lload dX0_giveIn_135 rfl) ?_
        refine W_s (s_bipush dX0_giveIn_137 kcb_6) ?_
        refine W_s (s_lshl dX0_giveIn_139) ?_
        refine W_s (s_iload dX0_giveIn_140 rfl) ?_
        refine W_s (s_i2l dX0_giveIn_142) ?_
        refine W_s (s_ladd dX0_giveIn_143) ?_
        refine W_bd (ec := gx_eV) (fun r_ μ_ hr_ => s_callS (As := [.ref _, .int _, .long _]) dX0_giveIn_144 Lk_RX0_83 rfl (Nat.le_of_ble_eq_true rfl) (Nat.le_of_ble_eq_true rfl) (ev_X0_lower 78 2624 r17 ((x16 <<< ((6 : Int32).toInt64 &&& 63)) + ((r12 : Int32).toInt64)) g_78 μ10 hr_)) (fun r18 μ19 => ?_)
        exact W_r (r := ()) (f_void dX0_giveIn_147 rfl)
  · skip
    refine W_ite (fun h6 => ?_) (fun h6 => ?_)
    · refine W_s (s_if_ge_t dX0_giveIn_37 rfl ((lgc_ge x4 1152921504606846976).mpr h6)) ?_
      exact W_wk (hJ5 μ) (le_s rfl (le_s rfl (le_s rfl (le_s rfl (le_s rfl (le_s rfl (le_s rfl le_n)))))))
    · refine W_s (s_if_ge_f dX0_giveIn_37 rfl (fun hc => h6 ((lgc_ge x4 1152921504606846976).mp hc))) ?_
      refine W_s (s_aload_n dX0_giveIn_40 rfl rfl) ?_
      refine W_s (gf_RX0_18 rfl dX0_giveIn_41) ?_
      refine W_s (s_aload_n dX0_giveIn_44 rfl rfl) ?_
      refine W_s (s_iload_n dX0_giveIn_45 rfl rfl) ?_
      refine W_s (s_iload dX0_giveIn_46 rfl) ?_
      refine W_s (s_iload dX0_giveIn_48 rfl) ?_
      refine W_br (ec := gx_eI) (fun r_ hr_ => s_callS (As := [.ref _, .int _, .int _, .int _]) dX0_giveIn_50 Lk_RX0_87 rfl (Nat.le_of_ble_eq_true rfl) (Nat.le_of_ble_eq_true rfl) (ev_X0_behind a1 p3 p4 p5 ha1 μ hr_)) (fun r7 => ?_)
      refine W_s (s_lload dX0_giveIn_53 rfl) ?_
      refine W_s (s_lload dX0_giveIn_55 rfl) ?_
      refine W_s (s_bipush dX0_giveIn_57 kcb_6) ?_
      refine W_s (s_lshl dX0_giveIn_59) ?_
      refine W_s (s_ladd dX0_giveIn_60) ?_
      refine W_bd (ec := gx_eV) (fun r_ μ_ hr_ => s_callS (As := [.ref _, .int _, .long _]) dX0_giveIn_61 Lk_RX0_83 rfl (Nat.le_of_ble_eq_true rfl) (Nat.le_of_ble_eq_true rfl) (ev_X0_lower 78 2624 r7 (x4 + (x2 <<< ((6 : Int32).toInt64 &&& 63))) g_78 μ hr_)) (fun r8 μ9 => ?_)
      exact W_wk (hJ5 μ9) (le_s rfl (le_s rfl (le_s rfl (le_s rfl (le_s rfl (le_s rfl (le_s rfl le_n)))))))

def L_X1_findRuns_23 (a1 : Nat) (v4_3 : Int32) (p2 : Int64) (k9 : gx_M → Option (Unit × gx_M)) : Nat → Int32 → gx_M → Option (Unit × gx_M)
  | 0, _, _ => none
  | n + 1, v5_7, μ8 => if (μ8.1 a1 0) ≤ v5_7 then k9 μ8 else gx_br (f_X5_goesIn a1 v4_3 v5_7 p2 μ8) (fun (r11 : Bool) => gx_lt (fun (μ17 : gx_M) => L_X1_findRuns_23 a1 v4_3 p2 k9 n (v5_7 + 1) μ17) (fun J12 => if r11 = true then gx_ck (gx_ix v4_3 6 = true) (gx_bd (f_X1_noteRun ((v5_7 + (μ8.1 (a1 + 4) v4_3.toNatClampNeg)) - 1) (μ8.1 (a1 + 4) v4_3.toNatClampNeg) μ8) (fun (r15 : Unit) (μ16 : gx_M) => J12 μ16)) else J12 μ8))
def L_X1_findRuns_11 (a1 : Nat) (p2 : Int64) (k5 : gx_M → Option (Unit × gx_M)) : Nat → Int32 → gx_M → Option (Unit × gx_M)
  | 0, _, _ => none
  | n + 1, v4_3, μ4 => if (μ4.1 a1 2) ≤ v4_3 then k5 μ4 else L_X1_findRuns_23 a1 v4_3 p2 (fun (μ19 : gx_M) => L_X1_findRuns_11 a1 p2 k5 n (v4_3 + 1) μ19) 4000 0 μ4
def f_X1_findRuns (a1 : Nat) (p2 : Int64) (μ : gx_M) : Option (Unit × gx_M) := gx_bd (f_J7_fill_53178 80 40 0 μ) (fun (r1 : Unit) (μ2 : gx_M) => L_X1_findRuns_11 a1 p2 (fun (μ21 : gx_M) => some ((), μ21)) 4000 0 μ2)
theorem okL_X1_findRuns_23 {E : gx_E} {l : Launch} {a1 : Nat} {v4_3 : Int32} {p2 : Int64} (ha1 : gx_St a1) {k9 : gx_M → Option (Unit × gx_M)} (hk : ∀ (μ18 : gx_M), GoW E l Y_X1_findRuns 1 gx_eV 73 [some (.ref (E.2.2.1 + 79)), some (.ref (E.2.2.1 + a1)), some (.long p2), none, some (.int v4_3)] [] μ18 (k9 μ18)) : ∀ (n : Nat) (v5_7 : Int32) (μ8 : gx_M), GoW E l Y_X1_findRuns 1 gx_eV 23 [some (.ref (E.2.2.1 + 79)), some (.ref (E.2.2.1 + a1)), some (.long p2), none, some (.int v4_3), some (.int v5_7)] [] μ8 (L_X1_findRuns_23 a1 v4_3 p2 k9 n v5_7 μ8) := by
  intro n
  induction n with
  | zero => intros; exact W_no
  | succ n ih =>
    intro v5_7 μ8
    rw [L_X1_findRuns_23.eq_2]
    refine W_s (s_iload dX1_findRuns_23 rfl) ?_
    refine W_s (s_aload_n dX1_findRuns_25 rfl rfl) ?_
    refine W_s (gfm_RX1_41 ha1 rfl dX1_findRuns_26) ?_
    refine W_ite (fun h10 => ?_) (fun h10 => ?_)
    · refine W_s (s_icmp_ge_t dX1_findRuns_29 rfl h10) ?_
      exact W_wk (hk μ8) (le_s rfl (le_s rfl (le_s rfl (le_o (le_s rfl le_n)))))
    · refine W_s (s_icmp_ge_f dX1_findRuns_29 rfl h10) ?_
      refine W_s (s_aload_n dX1_findRuns_32 rfl rfl) ?_
      refine W_s (s_iload dX1_findRuns_33 rfl) ?_
      refine W_s (s_iload dX1_findRuns_35 rfl) ?_
      refine W_s (s_lload_n dX1_findRuns_37 rfl rfl) ?_
      refine W_br (ec := gx_eB) (fun r_ hr_ => s_callV (As := [.int _, .int _, .long _]) dX1_findRuns_38 Lk_RX1_44 rfl (St_0 ha1) (by decide) rfl (Nat.le_of_ble_eq_true rfl) (Nat.le_of_ble_eq_true rfl) (ev_X5_goesIn a1 v4_3 v5_7 p2 ha1 μ8 hr_)) (fun r11 => ?_)
      refine W_fun (fun J => ∀ (μ17 : gx_M), GoW E l Y_X1_findRuns 1 gx_eV 67 [some (.ref (E.2.2.1 + 79)), some (.ref (E.2.2.1 + a1)), some (.long p2), none, some (.int v4_3), some (.int v5_7)] [] μ17 (J μ17)) ?_ (fun J12 hJ12 => ?_)
      · intro μ17
        refine W_s (s_iinc dX1_findRuns_67 rfl (kinc_1 v5_7) (Nat.le_of_ble_eq_true rfl)) ?_
        refine W_s (s_goto dX1_findRuns_70 rfl) ?_
        exact W_wk (ih (v5_7 + 1) μ17) (le_s rfl (le_s rfl (le_s rfl (le_o (le_s rfl (le_s rfl le_n))))))
      · skip
        refine W_ite (fun h13 => ?_) (fun h13 => ?_)
        · refine W_s (s_if_eq_f dX1_findRuns_41 rfl (gx_bt h13)) ?_
          refine W_s (s_aload_n dX1_findRuns_44 rfl rfl) ?_
          refine W_s (s_iload dX1_findRuns_45 rfl) ?_
          refine W_s (s_aload_n dX1_findRuns_47 rfl rfl) ?_
          refine W_s (gfm_RX1_48 ha1 rfl dX1_findRuns_48) ?_
          refine W_s (s_iload dX1_findRuns_51 rfl) ?_
          refine W_ck (fun h14 => ?_)
          refine W_s (s_iald dX1_findRuns_53 (St_4 ha1) (gx_ixv h14)) ?_
          refine W_s (s_iadd dX1_findRuns_54) ?_
          refine W_s (s_iconst dX1_findRuns_55 kci_1) ?_
          refine W_s (s_isub dX1_findRuns_56) ?_
          refine W_s (s_aload_n dX1_findRuns_57 rfl rfl) ?_
          refine W_s (gfm_RX1_48 ha1 rfl dX1_findRuns_58) ?_
          refine W_s (s_iload dX1_findRuns_61 rfl) ?_
          refine W_s (s_iald dX1_findRuns_63 (St_4 ha1) (gx_ixv h14)) ?_
          refine W_bd (ec := gx_eV) (fun r_ μ_ hr_ => s_callV (As := [.int _, .int _]) dX1_findRuns_64 Lk_RX1_51 rfl g_79 (by decide) rfl (Nat.le_of_ble_eq_true rfl) (Nat.le_of_ble_eq_true rfl) (ev_X1_noteRun ((v5_7 + (μ8.1 (a1 + 4) v4_3.toNatClampNeg)) - 1) (μ8.1 (a1 + 4) v4_3.toNatClampNeg) μ8 hr_)) (fun r15 μ16 => ?_)
          exact W_wk (hJ12 μ16) (le_s rfl (le_s rfl (le_s rfl (le_o (le_s rfl (le_s rfl le_n))))))
        · refine W_s (s_if_eq_t dX1_findRuns_41 rfl (gx_bf h13)) ?_
          exact W_wk (hJ12 μ8) (le_s rfl (le_s rfl (le_s rfl (le_o (le_s rfl (le_s rfl le_n))))))
theorem okL_X1_findRuns_11 {E : gx_E} {l : Launch} {a1 : Nat} {p2 : Int64} (ha1 : gx_St a1) {k5 : gx_M → Option (Unit × gx_M)} (hk : ∀ (μ20 : gx_M), GoW E l Y_X1_findRuns 1 gx_eV 79 [] [] μ20 (k5 μ20)) : ∀ (n : Nat) (v4_3 : Int32) (μ4 : gx_M), GoW E l Y_X1_findRuns 1 gx_eV 11 [some (.ref (E.2.2.1 + 79)), some (.ref (E.2.2.1 + a1)), some (.long p2), none, some (.int v4_3)] [] μ4 (L_X1_findRuns_11 a1 p2 k5 n v4_3 μ4) := by
  intro n
  induction n with
  | zero => intros; exact W_no
  | succ n ih =>
    intro v4_3 μ4
    rw [L_X1_findRuns_11.eq_2]
    refine W_s (s_iload dX1_findRuns_11 rfl) ?_
    refine W_s (s_aload_n dX1_findRuns_13 rfl rfl) ?_
    refine W_s (gfm_RX1_36 ha1 rfl dX1_findRuns_14) ?_
    refine W_ite (fun h6 => ?_) (fun h6 => ?_)
    · refine W_s (s_icmp_ge_t dX1_findRuns_17 rfl h6) ?_
      exact W_wk (hk μ4) le_n
    · refine W_s (s_icmp_ge_f dX1_findRuns_17 rfl h6) ?_
      refine W_s (s_iconst dX1_findRuns_20 kci_0) ?_
      refine W_s (s_istore dX1_findRuns_21 (Nat.le_of_ble_eq_true rfl)) ?_
      refine W_wk (okL_X1_findRuns_23 ha1 ?_ 4000 0 μ4) (le_s rfl (le_s rfl (le_s rfl (le_o (le_s rfl (le_s rfl le_n))))))
      intro μ19
      refine W_s (s_iinc dX1_findRuns_73 rfl (kinc_1 v4_3) (Nat.le_of_ble_eq_true rfl)) ?_
      refine W_s (s_goto dX1_findRuns_76 rfl) ?_
      exact W_wk (ih (v4_3 + 1) μ19) (le_s rfl (le_s rfl (le_s rfl (le_o (le_s rfl le_n)))))
theorem ev_X1_findRuns {E : gx_E} {l : Launch} (a1 : Nat) (p2 : Int64) (ha1 : gx_St a1) (μ : gx_M) {r : Unit} {μ' : gx_M} (hr : f_X1_findRuns a1 p2 μ = some (r, μ')) : gEv E l 1 Y_X1_findRuns [.ref (E.2.2.1 + 79), .ref (E.2.2.1 + a1), .long p2] gx_G1 μ (gx_eV r) gx_G1 μ' := by
  refine W_ev (by decide) (Nat.le_of_ble_eq_true rfl) (em := gx_eV) (T := f_X1_findRuns a1 p2 μ) ?_ hr
  show GoW E l Y_X1_findRuns 1 gx_eV 0 (gx_el [.ref (E.2.2.1 + 79), .ref (E.2.2.1 + a1), .long p2]) [] μ (f_X1_findRuns a1 p2 μ)
  unfold f_X1_findRuns
  refine W_s (s_aload_n dX1_findRuns_0 rfl rfl) ?_
  refine W_s (gf_RX1_9 rfl dX1_findRuns_1) ?_
  refine W_s (s_iconst dX1_findRuns_4 kci_0) ?_
  refine W_bd (ec := gx_eV) (fun r_ μ_ hr_ => s_callS (As := [.ref _, .int _]) dX1_findRuns_5 Lk_RX1_30 rfl (Nat.le_of_ble_eq_true rfl) (Nat.le_of_ble_eq_true rfl) (ev_J7_fill_53178 80 40 0 g_80 μ hr_)) (fun r1 μ2 => ?_)
  refine W_s (s_iconst dX1_findRuns_8 kci_0) ?_
  refine W_s (s_istore dX1_findRuns_9 (Nat.le_of_ble_eq_true rfl)) ?_
  refine W_wk (okL_X1_findRuns_11 ha1 ?_ 4000 0 μ2) (le_s rfl (le_s rfl (le_s rfl (le_o (le_s rfl le_n)))))
  intro μ21
  exact W_r (r := ()) (f_void dX1_findRuns_79 rfl)

def f_X2_copyFrom (a0 : Nat) (n0 : Nat) (a1 : Nat) (n1 : Nat) (μ : gx_M) : Option (Unit × gx_M) := gx_lt (if (μ.1 a0 0) < (μ.1 a1 3) then (μ.1 a0 0) else (μ.1 a1 3)) (fun (x1 : Int32) => gx_lt (gx_uI μ a0 3 x1) (fun (μ2 : gx_M) => gx_ck (gx_cpk 0 0 (μ2.1 a0 3) n1 n0 = true) (gx_lt (gx_cp μ2 (a1 + 1) (a0 + 1) ((0 : Int32).toNatClampNeg) ((0 : Int32).toNatClampNeg) ((μ2.1 a0 3).toNatClampNeg)) (fun (μ4 : gx_M) => gx_ck (gx_cpk 0 0 ((μ4.1 a0 3) * 3) (n1 * 3) (n0 * 3) = true) (gx_lt (gx_cp μ4 (a1 + 2) (a0 + 2) ((0 : Int32).toNatClampNeg) ((0 : Int32).toNatClampNeg) (((μ4.1 a0 3) * 3).toNatClampNeg)) (fun (μ6 : gx_M) => some ((), μ6)))))))
theorem ev_X2_copyFrom {E : gx_E} {l : Launch} (a0 : Nat) (n0 : Nat) (a1 : Nat) (n1 : Nat) (ha0 : gx_Ln a0 n0) (ha1 : gx_Ln a1 n1) (μ : gx_M) {r : Unit} {μ' : gx_M} (hr : f_X2_copyFrom a0 n0 a1 n1 μ = some (r, μ')) : gEv E l 1 Y_X2_copyFrom [.ref (E.2.2.1 + a0), .ref (E.2.2.1 + a1)] gx_G1 μ (gx_eV r) gx_G1 μ' := by
  refine W_ev (by decide) (Nat.le_of_ble_eq_true rfl) (em := gx_eV) (T := f_X2_copyFrom a0 n0 a1 n1 μ) ?_ hr
  show GoW E l Y_X2_copyFrom 1 gx_eV 0 (gx_el [.ref (E.2.2.1 + a0), .ref (E.2.2.1 + a1)]) [] μ (f_X2_copyFrom a0 n0 a1 n1 μ)
  unfold f_X2_copyFrom
  refine W_s (s_aload_n dX2_copyFrom_0 rfl rfl) ?_
  refine W_s (s_aload_n dX2_copyFrom_1 rfl rfl) ?_
  refine W_s (gfm_RX2_20 ha1 rfl dX2_copyFrom_2) ?_
  refine W_s (s_aload_n dX2_copyFrom_5 rfl rfl) ?_
  refine W_s (gfm_RX2_7 ha0 rfl dX2_copyFrom_6) ?_
  refine W_s (s_mmin dX2_copyFrom_9 Lk_RX2_23 (Nat.le_of_ble_eq_true rfl) (Nat.le_of_ble_eq_true rfl)) ?_
  refine W_letI (fun x1 => ?_)
  refine W_s (pfm_RX2_20 ha0 rfl dX2_copyFrom_12) ?_
  refine W_letM (fun μ2 => ?_)
  refine W_s (s_aload_n dX2_copyFrom_15 rfl rfl) ?_
  refine W_s (gfm_RX2_13 ha1 rfl dX2_copyFrom_16) ?_
  refine W_s (s_iconst dX2_copyFrom_19 kci_0) ?_
  refine W_s (s_aload_n dX2_copyFrom_20 rfl rfl) ?_
  refine W_s (gfm_RX2_13 ha0 rfl dX2_copyFrom_21) ?_
  refine W_s (s_iconst dX2_copyFrom_24 kci_0) ?_
  refine W_s (s_aload_n dX2_copyFrom_25 rfl rfl) ?_
  refine W_s (gfm_RX2_20 ha0 rfl dX2_copyFrom_26) ?_
  refine W_ck (fun h3 => ?_)
  refine W_s (s_acopyI dX2_copyFrom_29 Lk_RX2_29 (Nat.le_of_ble_eq_true rfl) (Nat.le_of_ble_eq_true rfl) (Ln_1 ha1) (Ln_1 ha0) h3) ?_
  refine W_letM (fun μ4 => ?_)
  refine W_s (s_aload_n dX2_copyFrom_32 rfl rfl) ?_
  refine W_s (gfm_RX2_17 ha1 rfl dX2_copyFrom_33) ?_
  refine W_s (s_iconst dX2_copyFrom_36 kci_0) ?_
  refine W_s (s_aload_n dX2_copyFrom_37 rfl rfl) ?_
  refine W_s (gfm_RX2_17 ha0 rfl dX2_copyFrom_38) ?_
  refine W_s (s_iconst dX2_copyFrom_41 kci_0) ?_
  refine W_s (s_aload_n dX2_copyFrom_42 rfl rfl) ?_
  refine W_s (gfm_RX2_20 ha0 rfl dX2_copyFrom_43) ?_
  refine W_s (s_iconst dX2_copyFrom_46 kci_3) ?_
  refine W_s (s_imul dX2_copyFrom_47) ?_
  refine W_ck (fun h5 => ?_)
  refine W_s (s_acopyI dX2_copyFrom_48 Lk_RX2_29 (Nat.le_of_ble_eq_true rfl) (Nat.le_of_ble_eq_true rfl) (Ln_2 ha1) (Ln_2 ha0) h5) ?_
  refine W_letM (fun μ6 => ?_)
  exact W_r (r := ()) (f_void dX2_copyFrom_51 rfl)

def f_X3_areThere (p1 : Int32) (p2 : Int32) (μ : gx_M) : Bool := if (f_X5_hasPerson 63 p1 μ) = true then if (f_X5_hasMinute 63 p2 μ) = true then true else false else false
theorem ev_X3_areThere {E : gx_E} {l : Launch} (p1 : Int32) (p2 : Int32) (μ : gx_M) : gEv E l 1 Y_X3_areThere [.ref (E.2.2.1 + 62), .int p1, .int p2] gx_G1 μ (gx_eB (f_X3_areThere p1 p2 μ)) gx_G1 μ := by
  refine P_ev (by decide) (Nat.le_of_ble_eq_true rfl) (em := gx_eB) (T := f_X3_areThere p1 p2 μ) ?_
  show GoP E l Y_X3_areThere 1 gx_eB 0 (gx_el [.ref (E.2.2.1 + 62), .int p1, .int p2]) [] μ (f_X3_areThere p1 p2 μ)
  unfold f_X3_areThere
  refine P_s (s_aload_n dX3_areThere_0 rfl rfl) ?_
  refine P_s (gf_RX3_12 rfl dX3_areThere_1) ?_
  refine P_s (s_iload_n dX3_areThere_4 rfl rfl) ?_
  refine P_s (s_callV (As := [.int _]) dX3_areThere_5 Lk_RX3_85 rfl (St_0 St_c_63) (by decide) rfl (Nat.le_of_ble_eq_true rfl) (Nat.le_of_ble_eq_true rfl) (ev_X5_hasPerson 63 p1 St_c_63 μ)) ?_
  refine P_ite (fun h1 => ?_) (fun h1 => ?_)
  · refine P_s (s_if_eq_f dX3_areThere_8 rfl (gx_bt h1)) ?_
    refine P_s (s_aload_n dX3_areThere_11 rfl rfl) ?_
    refine P_s (gf_RX3_12 rfl dX3_areThere_12) ?_
    refine P_s (s_iload_n dX3_areThere_15 rfl rfl) ?_
    refine P_s (s_callV (As := [.int _]) dX3_areThere_16 Lk_RX3_89 rfl (St_0 St_c_63) (by decide) rfl (Nat.le_of_ble_eq_true rfl) (Nat.le_of_ble_eq_true rfl) (ev_X5_hasMinute 63 p2 St_c_63 μ)) ?_
    refine P_ite (fun h2 => ?_) (fun h2 => ?_)
    · refine P_s (s_if_eq_f dX3_areThere_19 rfl (gx_bt h2)) ?_
      refine P_s (s_iconst dX3_areThere_22 kci_1) ?_
      refine P_s (s_goto dX3_areThere_23 rfl) ?_
      exact P_r (r := true) (f_int (ty := .boolean) (x := gx_bi true) dX3_areThere_27 rfl (gx_bn true))
    · refine P_s (s_if_eq_t dX3_areThere_19 rfl (gx_bf h2)) ?_
      refine P_s (s_iconst dX3_areThere_26 kci_0) ?_
      exact P_r (r := false) (f_int (ty := .boolean) (x := gx_bi false) dX3_areThere_27 rfl (gx_bn false))
  · refine P_s (s_if_eq_t dX3_areThere_8 rfl (gx_bf h1)) ?_
    refine P_s (s_iconst dX3_areThere_26 kci_0) ?_
    exact P_r (r := false) (f_int (ty := .boolean) (x := gx_bi false) dX3_areThere_27 rfl (gx_bn false))

def L_X3_freeMinutes_5 (μ : gx_M) (p1 : Int32) (k3 : Int64 → Option Int64) : Nat → Int64 → Int32 → Option Int64
  | 0, _, _ => none
  | n + 1, v2_1, v4_2 => if (μ.1 63 0) ≤ v4_2 then k3 v2_1 else gx_br (f_X3_isFreeOf p1 v4_2 μ) (fun (r5 : Bool) => gx_lt (fun (j0_9 : Int64) => L_X3_freeMinutes_5 μ p1 k3 n j0_9 (v4_2 + 1)) (fun J6 => if r5 = true then gx_lt (v2_1 ||| ((1 : Int64) <<< ((v4_2 : Int32).toInt64 &&& 63))) (fun (x8 : Int64) => J6 x8) else J6 v2_1))
def f_X3_freeMinutes (p1 : Int32) (μ : gx_M) : Option Int64 := L_X3_freeMinutes_5 μ p1 (fun (x2_11 : Int64) => some x2_11) 4000 0 0
theorem okL_X3_freeMinutes_5 {E : gx_E} {l : Launch} {μ : gx_M} {p1 : Int32} {k3 : Int64 → Option Int64} (hk : ∀ (w10 : Int64), GoR E l Y_X3_freeMinutes 1 gx_eL 40 [none, none, some (.long w10)] [] μ (k3 w10)) : ∀ (n : Nat) (v2_1 : Int64) (v4_2 : Int32), GoR E l Y_X3_freeMinutes 1 gx_eL 5 [some (.ref (E.2.2.1 + 62)), some (.int p1), some (.long v2_1), none, some (.int v4_2)] [] μ (L_X3_freeMinutes_5 μ p1 k3 n v2_1 v4_2) := by
  intro n
  induction n with
  | zero => intros; exact R_no
  | succ n ih =>
    intro v2_1 v4_2
    rw [L_X3_freeMinutes_5.eq_2]
    refine R_s (s_iload dX3_freeMinutes_5 rfl) ?_
    refine R_s (s_aload_n dX3_freeMinutes_7 rfl rfl) ?_
    refine R_s (gf_RX3_12 rfl dX3_freeMinutes_8) ?_
    refine R_s (gfm_RX3_128 St_c_63 rfl dX3_freeMinutes_11) ?_
    refine R_ite (fun h4 => ?_) (fun h4 => ?_)
    · refine R_s (s_icmp_ge_t dX3_freeMinutes_14 rfl h4) ?_
      exact R_wk (hk v2_1) (le_o (le_o (le_s rfl le_n)))
    · refine R_s (s_icmp_ge_f dX3_freeMinutes_14 rfl h4) ?_
      refine R_s (s_aload_n dX3_freeMinutes_17 rfl rfl) ?_
      refine R_s (s_iload_n dX3_freeMinutes_18 rfl rfl) ?_
      refine R_s (s_iload dX3_freeMinutes_19 rfl) ?_
      refine R_br (ec := gx_eB) (fun r_ hr_ => s_callV (As := [.int _, .int _]) dX3_freeMinutes_21 Lk_RX3_108 rfl g_62 (by decide) rfl (Nat.le_of_ble_eq_true rfl) (Nat.le_of_ble_eq_true rfl) (ev_X3_isFreeOf p1 v4_2 μ hr_)) (fun r5 => ?_)
      refine R_fun (fun J => ∀ (j0_9 : Int64), GoR E l Y_X3_freeMinutes 1 gx_eL 34 [some (.ref (E.2.2.1 + 62)), some (.int p1), some (.long j0_9), none, some (.int v4_2)] [] μ (J j0_9)) ?_ (fun J6 hJ6 => ?_)
      · intro j0_9
        refine R_s (s_iinc dX3_freeMinutes_34 rfl (kinc_1 v4_2) (Nat.le_of_ble_eq_true rfl)) ?_
        refine R_s (s_goto dX3_freeMinutes_37 rfl) ?_
        exact R_wk (ih j0_9 (v4_2 + 1)) (le_s rfl (le_s rfl (le_s rfl (le_o (le_s rfl le_n)))))
      · skip
        refine R_ite (fun h7 => ?_) (fun h7 => ?_)
        · refine R_s (s_if_eq_f dX3_freeMinutes_24 rfl (gx_bt h7)) ?_
          refine R_s (s_lload_n dX3_freeMinutes_27 rfl rfl) ?_
          refine R_s (s_lconst dX3_freeMinutes_28 kcl_1) ?_
          refine R_s (s_iload dX3_freeMinutes_29 rfl) ?_
          refine R_s (s_lshl dX3_freeMinutes_31) ?_
          refine R_s (s_lor dX3_freeMinutes_32) ?_
          refine R_letL (fun x8 => ?_)
          refine R_s (s_lstore_n dX3_freeMinutes_33 rfl (Nat.le_of_ble_eq_true rfl)) ?_
          exact R_wk (hJ6 x8) (le_s rfl (le_s rfl (le_s rfl (le_o (le_s rfl le_n)))))
        · refine R_s (s_if_eq_t dX3_freeMinutes_24 rfl (gx_bf h7)) ?_
          exact R_wk (hJ6 v2_1) (le_s rfl (le_s rfl (le_s rfl (le_o (le_s rfl le_n)))))
theorem ev_X3_freeMinutes {E : gx_E} {l : Launch} (p1 : Int32) (μ : gx_M) {r : Int64} (hr : f_X3_freeMinutes p1 μ = some r) : gEv E l 1 Y_X3_freeMinutes [.ref (E.2.2.1 + 62), .int p1] gx_G1 μ (gx_eL r) gx_G1 μ := by
  refine R_ev (by decide) (Nat.le_of_ble_eq_true rfl) (em := gx_eL) (T := f_X3_freeMinutes p1 μ) ?_ hr
  show GoR E l Y_X3_freeMinutes 1 gx_eL 0 (gx_el [.ref (E.2.2.1 + 62), .int p1]) [] μ (f_X3_freeMinutes p1 μ)
  unfold f_X3_freeMinutes
  refine R_s (s_lconst dX3_freeMinutes_0 kcl_0) ?_
  refine R_s (s_lstore_n dX3_freeMinutes_1 rfl (Nat.le_of_ble_eq_true rfl)) ?_
  refine R_s (s_iconst dX3_freeMinutes_2 kci_0) ?_
  refine R_s (s_istore dX3_freeMinutes_3 (Nat.le_of_ble_eq_true rfl)) ?_
  refine R_wk (okL_X3_freeMinutes_5 ?_ 4000 0 0) (le_s rfl (le_s rfl (le_s rfl (le_o (le_s rfl le_n)))))
  intro x2_11
  refine R_s (s_lload_n dX3_freeMinutes_40 rfl rfl) ?_
  exact R_r (r := x2_11) (f_long dX3_freeMinutes_41 rfl)

def f_X3_changesPrice (p1 : Int32) (p2 : Int32) (μ : gx_M) : Option (Bool × gx_M) := if (f_X5_hasMinute 63 p1 μ) = true then gx_ck (gx_ix p1 40 = true) (gx_lt ((μ.1 65 p1.toNatClampNeg) + p2) (fun (x3 : Int32) => if x3 < 0 then some (false, μ) else if x3 ≤ 9 then gx_lt (gx_uI μ 65 p1.toNatClampNeg x3) (fun (μ6 : gx_M) => some (true, μ6)) else some (false, μ))) else some (false, μ)
theorem ev_X3_changesPrice {E : gx_E} {l : Launch} (p1 : Int32) (p2 : Int32) (μ : gx_M) {r : Bool} {μ' : gx_M} (hr : f_X3_changesPrice p1 p2 μ = some (r, μ')) : gEv E l 1 Y_X3_changesPrice [.ref (E.2.2.1 + 62), .int p1, .int p2] gx_G1 μ (gx_eB r) gx_G1 μ' := by
  refine W_ev (by decide) (Nat.le_of_ble_eq_true rfl) (em := gx_eB) (T := f_X3_changesPrice p1 p2 μ) ?_ hr
  show GoW E l Y_X3_changesPrice 1 gx_eB 0 (gx_el [.ref (E.2.2.1 + 62), .int p1, .int p2]) [] μ (f_X3_changesPrice p1 p2 μ)
  unfold f_X3_changesPrice
  refine W_s (s_aload_n dX3_changesPrice_0 rfl rfl) ?_
  refine W_s (gf_RX3_12 rfl dX3_changesPrice_1) ?_
  refine W_s (s_iload_n dX3_changesPrice_4 rfl rfl) ?_
  refine W_s (s_callV (As := [.int _]) dX3_changesPrice_5 Lk_RX3_89 rfl (St_0 St_c_63) (by decide) rfl (Nat.le_of_ble_eq_true rfl) (Nat.le_of_ble_eq_true rfl) (ev_X5_hasMinute 63 p1 St_c_63 μ)) ?_
  refine W_ite (fun h1 => ?_) (fun h1 => ?_)
  · refine W_s (s_if_ne_t dX3_changesPrice_8 rfl (gx_bt h1)) ?_
    refine W_s (s_aload_n dX3_changesPrice_13 rfl rfl) ?_
    refine W_s (gf_RX3_12 rfl dX3_changesPrice_14) ?_
    refine W_s (gfm_RX3_98 St_c_63 rfl dX3_changesPrice_17) ?_
    refine W_s (s_iload_n dX3_changesPrice_20 rfl rfl) ?_
    refine W_ck (fun h2 => ?_)
    refine W_s (s_iald dX3_changesPrice_21 (St_2 St_c_63) (gx_ixv h2)) ?_
    refine W_s (s_iload_n dX3_changesPrice_22 rfl rfl) ?_
    refine W_s (s_iadd dX3_changesPrice_23) ?_
    refine W_letI (fun x3 => ?_)
    refine W_s (s_istore_n dX3_changesPrice_24 rfl (Nat.le_of_ble_eq_true rfl)) ?_
    refine W_s (s_iload_n dX3_changesPrice_25 rfl rfl) ?_
    refine W_ite (fun h4 => ?_) (fun h4 => ?_)
    · refine W_s (s_if_lt_t dX3_changesPrice_26 rfl h4) ?_
      refine W_s (s_iconst dX3_changesPrice_35 kci_0) ?_
      exact W_r (r := false) (f_int (ty := .boolean) (x := gx_bi false) dX3_changesPrice_36 rfl (gx_bn false))
    · refine W_s (s_if_lt_f dX3_changesPrice_26 rfl h4) ?_
      refine W_s (s_iload_n dX3_changesPrice_29 rfl rfl) ?_
      refine W_s (s_bipush dX3_changesPrice_30 kcb_9) ?_
      refine W_ite (fun h5 => ?_) (fun h5 => ?_)
      · refine W_s (s_icmp_le_t dX3_changesPrice_32 rfl h5) ?_
        refine W_s (s_aload_n dX3_changesPrice_37 rfl rfl) ?_
        refine W_s (gf_RX3_12 rfl dX3_changesPrice_38) ?_
        refine W_s (gfm_RX3_98 St_c_63 rfl dX3_changesPrice_41) ?_
        refine W_s (s_iload_n dX3_changesPrice_44 rfl rfl) ?_
        refine W_s (s_iload_n dX3_changesPrice_45 rfl rfl) ?_
        refine W_s (s_iast dX3_changesPrice_46 (St_2 St_c_63) (gx_ixv h2)) ?_
        refine W_letM (fun μ6 => ?_)
        refine W_s (s_iconst dX3_changesPrice_47 kci_1) ?_
        exact W_r (r := true) (f_int (ty := .boolean) (x := gx_bi true) dX3_changesPrice_48 rfl (gx_bn true))
      · refine W_s (s_icmp_le_f dX3_changesPrice_32 rfl h5) ?_
        refine W_s (s_iconst dX3_changesPrice_35 kci_0) ?_
        exact W_r (r := false) (f_int (ty := .boolean) (x := gx_bi false) dX3_changesPrice_36 rfl (gx_bn false))
  · refine W_s (s_if_ne_f dX3_changesPrice_8 rfl (gx_bf h1)) ?_
    refine W_s (s_iconst dX3_changesPrice_11 kci_0) ?_
    exact W_r (r := false) (f_int (ty := .boolean) (x := gx_bi false) dX3_changesPrice_12 rfl (gx_bn false))

def f_X3_partOfState (p1 : Int32) (μ : gx_M) : Option Int32 := if (f_X11_isAmong p1 10 (μ.1 63 1)) = true then gx_ck (gx_ix (p1 - 10) 4 = true) (some (μ.1 64 (p1 - 10).toNatClampNeg)) else if (f_X11_isAmong p1 20 (μ.1 63 1)) = true then gx_br (f_X5_held 63 (p1 - 20) μ) (fun (r4 : Int64) => some (f_J13_bitCount_95d88 r4)) else if (f_X11_isAmong p1 30 (μ.1 63 2)) = true then gx_ck (gx_ix (p1 - 30) 6 = true) (some (μ.1 72 (p1 - 30).toNatClampNeg)) else if (f_X11_isAmong p1 100 (μ.1 63 0)) = true then gx_ck (gx_ix (p1 - 100) 40 = true) (some (μ.1 65 (p1 - 100).toNatClampNeg)) else if (f_X11_isAmong p1 200 (μ.1 63 0)) = true then gx_ck (gx_ix (p1 - 200) 40 = true) (some (μ.1 66 (p1 - 200).toNatClampNeg)) else if (f_X11_isAmong p1 300 (μ.1 63 0)) = true then gx_ck (gx_ix (p1 - 300) 40 = true) (if (μ.1 71 (p1 - 300).toNatClampNeg) = 0 then some 0 else some 1) else some (-2)
theorem ev_X3_partOfState {E : gx_E} {l : Launch} {fk : Nat} {uq : Option Nat} {adK adV : Nat → Nat} (hE : gx_EX E fk uq adK adV) (p1 : Int32) (μ : gx_M) {r : Int32} (hr : f_X3_partOfState p1 μ = some r) : gEv E l 1 Y_X3_partOfState [.ref (E.2.2.1 + 62), .int p1] gx_G1 μ (gx_eI r) gx_G1 μ := by
  refine R_ev (by decide) (Nat.le_of_ble_eq_true rfl) (em := gx_eI) (T := f_X3_partOfState p1 μ) ?_ hr
  show GoR E l Y_X3_partOfState 1 gx_eI 0 (gx_el [.ref (E.2.2.1 + 62), .int p1]) [] μ (f_X3_partOfState p1 μ)
  unfold f_X3_partOfState
  refine R_s (s_iload_n dX3_partOfState_0 rfl rfl) ?_
  refine R_s (s_bipush dX3_partOfState_1 kcb_10) ?_
  refine R_s (s_aload_n dX3_partOfState_3 rfl rfl) ?_
  refine R_s (gf_RX3_12 rfl dX3_partOfState_4) ?_
  refine R_s (gfm_RX3_147 St_c_63 rfl dX3_partOfState_7) ?_
  refine R_s (s_callSN hE (As := [.int _, .int _, .int _]) dX3_partOfState_10 Lk_RX3_167 rfl (Nat.le_of_ble_eq_true rfl) (Nat.le_of_ble_eq_true rfl) (ev_X11_isAmong p1 10 (μ.1 63 1) μ)) ?_
  refine R_ite (fun h1 => ?_) (fun h1 => ?_)
  · refine R_s (s_if_eq_f dX3_partOfState_13 rfl (gx_bt h1)) ?_
    refine R_s (s_aload_n dX3_partOfState_16 rfl rfl) ?_
    refine R_s (gf_RX3_12 rfl dX3_partOfState_17) ?_
    refine R_s (gfm_RX3_101 St_c_63 rfl dX3_partOfState_20) ?_
    refine R_s (s_iload_n dX3_partOfState_23 rfl rfl) ?_
    refine R_s (s_bipush dX3_partOfState_24 kcb_10) ?_
    refine R_s (s_isub dX3_partOfState_26) ?_
    refine R_ck (fun h2 => ?_)
    refine R_s (s_iald dX3_partOfState_27 (St_1 St_c_63) (gx_ixv h2)) ?_
    exact R_r (r := (μ.1 64 (p1 - 10).toNatClampNeg)) (f_int (ty := .int) dX3_partOfState_28 rfl rfl)
  · refine R_s (s_if_eq_t dX3_partOfState_13 rfl (gx_bf h1)) ?_
    refine R_s (s_iload_n dX3_partOfState_29 rfl rfl) ?_
    refine R_s (s_bipush dX3_partOfState_30 kcb_20) ?_
    refine R_s (s_aload_n dX3_partOfState_32 rfl rfl) ?_
    refine R_s (gf_RX3_12 rfl dX3_partOfState_33) ?_
    refine R_s (gfm_RX3_147 St_c_63 rfl dX3_partOfState_36) ?_
    refine R_s (s_callSN hE (As := [.int _, .int _, .int _]) dX3_partOfState_39 Lk_RX3_167 rfl (Nat.le_of_ble_eq_true rfl) (Nat.le_of_ble_eq_true rfl) (ev_X11_isAmong p1 20 (μ.1 63 1) μ)) ?_
    refine R_ite (fun h3 => ?_) (fun h3 => ?_)
    · refine R_s (s_if_eq_f dX3_partOfState_42 rfl (gx_bt h3)) ?_
      refine R_s (s_aload_n dX3_partOfState_45 rfl rfl) ?_
      refine R_s (gf_RX3_12 rfl dX3_partOfState_46) ?_
      refine R_s (s_iload_n dX3_partOfState_49 rfl rfl) ?_
      refine R_s (s_bipush dX3_partOfState_50 kcb_20) ?_
      refine R_s (s_isub dX3_partOfState_52) ?_
      refine R_br (ec := gx_eL) (fun r_ hr_ => s_callV (As := [.int _]) dX3_partOfState_53 Lk_RX3_170 rfl (St_0 St_c_63) (by decide) rfl (Nat.le_of_ble_eq_true rfl) (Nat.le_of_ble_eq_true rfl) (ev_X5_held 63 (p1 - 20) St_c_63 μ hr_)) (fun r4 => ?_)
      refine R_s (s_callS (As := [.long _]) dX3_partOfState_56 Lk_RX3_173 rfl (Nat.le_of_ble_eq_true rfl) (Nat.le_of_ble_eq_true rfl) (ev_J13_bitCount_95d88 r4 μ)) ?_
      exact R_r (r := (f_J13_bitCount_95d88 r4)) (f_int (ty := .int) dX3_partOfState_59 rfl rfl)
    · refine R_s (s_if_eq_t dX3_partOfState_42 rfl (gx_bf h3)) ?_
      refine R_s (s_iload_n dX3_partOfState_60 rfl rfl) ?_
      refine R_s (s_bipush dX3_partOfState_61 kcb_30) ?_
      refine R_s (s_aload_n dX3_partOfState_63 rfl rfl) ?_
      refine R_s (gf_RX3_12 rfl dX3_partOfState_64) ?_
      refine R_s (gfm_RX3_150 St_c_63 rfl dX3_partOfState_67) ?_
      refine R_s (s_callSN hE (As := [.int _, .int _, .int _]) dX3_partOfState_70 Lk_RX3_167 rfl (Nat.le_of_ble_eq_true rfl) (Nat.le_of_ble_eq_true rfl) (ev_X11_isAmong p1 30 (μ.1 63 2) μ)) ?_
      refine R_ite (fun h5 => ?_) (fun h5 => ?_)
      · refine R_s (s_if_eq_f dX3_partOfState_73 rfl (gx_bt h5)) ?_
        refine R_s (s_aload_n dX3_partOfState_76 rfl rfl) ?_
        refine R_s (gf_RX3_22 rfl dX3_partOfState_77) ?_
        refine R_s (s_iload_n dX3_partOfState_80 rfl rfl) ?_
        refine R_s (s_bipush dX3_partOfState_81 kcb_30) ?_
        refine R_s (s_isub dX3_partOfState_83) ?_
        refine R_ck (fun h6 => ?_)
        refine R_s (s_iald dX3_partOfState_84 g_72 (gx_ixv h6)) ?_
        exact R_r (r := (μ.1 72 (p1 - 30).toNatClampNeg)) (f_int (ty := .int) dX3_partOfState_85 rfl rfl)
      · refine R_s (s_if_eq_t dX3_partOfState_73 rfl (gx_bf h5)) ?_
        refine R_s (s_iload_n dX3_partOfState_86 rfl rfl) ?_
        refine R_s (s_bipush dX3_partOfState_87 kcb_100) ?_
        refine R_s (s_aload_n dX3_partOfState_89 rfl rfl) ?_
        refine R_s (gf_RX3_12 rfl dX3_partOfState_90) ?_
        refine R_s (gfm_RX3_128 St_c_63 rfl dX3_partOfState_93) ?_
        refine R_s (s_callSN hE (As := [.int _, .int _, .int _]) dX3_partOfState_96 Lk_RX3_167 rfl (Nat.le_of_ble_eq_true rfl) (Nat.le_of_ble_eq_true rfl) (ev_X11_isAmong p1 100 (μ.1 63 0) μ)) ?_
        refine R_ite (fun h7 => ?_) (fun h7 => ?_)
        · refine R_s (s_if_eq_f dX3_partOfState_99 rfl (gx_bt h7)) ?_
          refine R_s (s_aload_n dX3_partOfState_102 rfl rfl) ?_
          refine R_s (gf_RX3_12 rfl dX3_partOfState_103) ?_
          refine R_s (gfm_RX3_98 St_c_63 rfl dX3_partOfState_106) ?_
          refine R_s (s_iload_n dX3_partOfState_109 rfl rfl) ?_
          refine R_s (s_bipush dX3_partOfState_110 kcb_100) ?_
          refine R_s (s_isub dX3_partOfState_112) ?_
          refine R_ck (fun h8 => ?_)
          refine R_s (s_iald dX3_partOfState_113 (St_2 St_c_63) (gx_ixv h8)) ?_
          exact R_r (r := (μ.1 65 (p1 - 100).toNatClampNeg)) (f_int (ty := .int) dX3_partOfState_114 rfl rfl)
        · refine R_s (s_if_eq_t dX3_partOfState_99 rfl (gx_bf h7)) ?_
          refine R_s (s_iload_n dX3_partOfState_115 rfl rfl) ?_
          refine R_s (s_sipush dX3_partOfState_116 kcs_200) ?_
          refine R_s (s_aload_n dX3_partOfState_119 rfl rfl) ?_
          refine R_s (gf_RX3_12 rfl dX3_partOfState_120) ?_
          refine R_s (gfm_RX3_128 St_c_63 rfl dX3_partOfState_123) ?_
          refine R_s (s_callSN hE (As := [.int _, .int _, .int _]) dX3_partOfState_126 Lk_RX3_167 rfl (Nat.le_of_ble_eq_true rfl) (Nat.le_of_ble_eq_true rfl) (ev_X11_isAmong p1 200 (μ.1 63 0) μ)) ?_
          refine R_ite (fun h9 => ?_) (fun h9 => ?_)
          · refine R_s (s_if_eq_f dX3_partOfState_129 rfl (gx_bt h9)) ?_
            refine R_s (s_aload_n dX3_partOfState_132 rfl rfl) ?_
            refine R_s (gf_RX3_12 rfl dX3_partOfState_133) ?_
            refine R_s (gfm_RX3_92 St_c_63 rfl dX3_partOfState_136) ?_
            refine R_s (s_iload_n dX3_partOfState_139 rfl rfl) ?_
            refine R_s (s_sipush dX3_partOfState_140 kcs_200) ?_
            refine R_s (s_isub dX3_partOfState_143) ?_
            refine R_ck (fun h10 => ?_)
            refine R_s (s_iald dX3_partOfState_144 (St_3 St_c_63) (gx_ixv h10)) ?_
            exact R_r (r := (μ.1 66 (p1 - 200).toNatClampNeg)) (f_int (ty := .int) dX3_partOfState_145 rfl rfl)
          · refine R_s (s_if_eq_t dX3_partOfState_129 rfl (gx_bf h9)) ?_
            refine R_s (s_iload_n dX3_partOfState_146 rfl rfl) ?_
            refine R_s (s_sipush dX3_partOfState_147 kcs_300) ?_
            refine R_s (s_aload_n dX3_partOfState_150 rfl rfl) ?_
            refine R_s (gf_RX3_12 rfl dX3_partOfState_151) ?_
            refine R_s (gfm_RX3_128 St_c_63 rfl dX3_partOfState_154) ?_
            refine R_s (s_callSN hE (As := [.int _, .int _, .int _]) dX3_partOfState_157 Lk_RX3_167 rfl (Nat.le_of_ble_eq_true rfl) (Nat.le_of_ble_eq_true rfl) (ev_X11_isAmong p1 300 (μ.1 63 0) μ)) ?_
            refine R_ite (fun h11 => ?_) (fun h11 => ?_)
            · refine R_s (s_if_eq_f dX3_partOfState_160 rfl (gx_bt h11)) ?_
              refine R_s (s_aload_n dX3_partOfState_163 rfl rfl) ?_
              refine R_s (gf_RX3_18 rfl dX3_partOfState_164) ?_
              refine R_s (s_iload_n dX3_partOfState_167 rfl rfl) ?_
              refine R_s (s_sipush dX3_partOfState_168 kcs_300) ?_
              refine R_s (s_isub dX3_partOfState_171) ?_
              refine R_ck (fun h12 => ?_)
              refine R_s (s_zald dX3_partOfState_172 g_71 (gx_ixv h12)) ?_
              refine R_ite (fun h13 => ?_) (fun h13 => ?_)
              · refine R_s (s_if_eq_t dX3_partOfState_173 rfl h13) ?_
                refine R_s (s_iconst dX3_partOfState_180 kci_0) ?_
                exact R_r (r := 0) (f_int (ty := .int) dX3_partOfState_181 rfl rfl)
              · refine R_s (s_if_eq_f dX3_partOfState_173 rfl h13) ?_
                refine R_s (s_iconst dX3_partOfState_176 kci_1) ?_
                refine R_s (s_goto dX3_partOfState_177 rfl) ?_
                exact R_r (r := 1) (f_int (ty := .int) dX3_partOfState_181 rfl rfl)
            · refine R_s (s_if_eq_t dX3_partOfState_160 rfl (gx_bf h11)) ?_
              refine R_s (s_bipush dX3_partOfState_182 kcb_m2) ?_
              exact R_r (r := (-2)) (f_int (ty := .int) dX3_partOfState_184 rfl rfl)

def f_X3_timesMoved (p1 : Int32) (μ : gx_M) : Option Int32 := if (f_X5_hasMinute 63 p1 μ) = true then gx_ck (gx_ix p1 40 = true) (some (μ.1 74 p1.toNatClampNeg)) else some 0
theorem ev_X3_timesMoved {E : gx_E} {l : Launch} (p1 : Int32) (μ : gx_M) {r : Int32} (hr : f_X3_timesMoved p1 μ = some r) : gEv E l 1 Y_X3_timesMoved [.ref (E.2.2.1 + 62), .int p1] gx_G1 μ (gx_eI r) gx_G1 μ := by
  refine R_ev (by decide) (Nat.le_of_ble_eq_true rfl) (em := gx_eI) (T := f_X3_timesMoved p1 μ) ?_ hr
  show GoR E l Y_X3_timesMoved 1 gx_eI 0 (gx_el [.ref (E.2.2.1 + 62), .int p1]) [] μ (f_X3_timesMoved p1 μ)
  unfold f_X3_timesMoved
  refine R_s (s_aload_n dX3_timesMoved_0 rfl rfl) ?_
  refine R_s (gf_RX3_12 rfl dX3_timesMoved_1) ?_
  refine R_s (s_iload_n dX3_timesMoved_4 rfl rfl) ?_
  refine R_s (s_callV (As := [.int _]) dX3_timesMoved_5 Lk_RX3_89 rfl (St_0 St_c_63) (by decide) rfl (Nat.le_of_ble_eq_true rfl) (Nat.le_of_ble_eq_true rfl) (ev_X5_hasMinute 63 p1 St_c_63 μ)) ?_
  refine R_ite (fun h1 => ?_) (fun h1 => ?_)
  · refine R_s (s_if_eq_f dX3_timesMoved_8 rfl (gx_bt h1)) ?_
    refine R_s (s_aload_n dX3_timesMoved_11 rfl rfl) ?_
    refine R_s (gf_RX3_29 rfl dX3_timesMoved_12) ?_
    refine R_s (s_iload_n dX3_timesMoved_15 rfl rfl) ?_
    refine R_ck (fun h2 => ?_)
    refine R_s (s_iald dX3_timesMoved_16 g_74 (gx_ixv h2)) ?_
    refine R_s (s_goto dX3_timesMoved_17 rfl) ?_
    exact R_r (r := (μ.1 74 p1.toNatClampNeg)) (f_int (ty := .int) dX3_timesMoved_21 rfl rfl)
  · refine R_s (s_if_eq_t dX3_timesMoved_8 rfl (gx_bf h1)) ?_
    refine R_s (s_iconst dX3_timesMoved_20 kci_0) ?_
    exact R_r (r := 0) (f_int (ty := .int) dX3_timesMoved_21 rfl rfl)

def f_X4_countFurther (p1 : Int32) (p2 : Int32) (μ : gx_M) : Option (Unit × gx_M) := gx_lt (f_X4_mostFurther p1 p2) (fun (x1 : Int32) => if x1 = 0 then some ((), μ) else gx_lt (gx_uI μ 42 8 ((μ.1 42 8) + 1)) (fun (μ3 : gx_M) => if (μ3.1 42 8) ≤ x1 then some ((), μ3) else gx_bd (f_X4_note 3 (μ3.1 43 4) μ3) (fun (r5 : Unit) (μ6 : gx_M) => some ((), μ6))))
theorem ev_X4_countFurther {E : gx_E} {l : Launch} (p1 : Int32) (p2 : Int32) (μ : gx_M) {r : Unit} {μ' : gx_M} (hr : f_X4_countFurther p1 p2 μ = some (r, μ')) : gEv E l 1 Y_X4_countFurther [.ref (E.2.2.1 + 42), .int p1, .int p2] gx_G1 μ (gx_eV r) gx_G1 μ' := by
  refine W_ev (by decide) (Nat.le_of_ble_eq_true rfl) (em := gx_eV) (T := f_X4_countFurther p1 p2 μ) ?_ hr
  show GoW E l Y_X4_countFurther 1 gx_eV 0 (gx_el [.ref (E.2.2.1 + 42), .int p1, .int p2]) [] μ (f_X4_countFurther p1 p2 μ)
  unfold f_X4_countFurther
  refine W_s (s_iload_n dX4_countFurther_0 rfl rfl) ?_
  refine W_s (s_iload_n dX4_countFurther_1 rfl rfl) ?_
  refine W_s (s_callS (As := [.int _, .int _]) dX4_countFurther_2 Lk_RX4_180 rfl (Nat.le_of_ble_eq_true rfl) (Nat.le_of_ble_eq_true rfl) (ev_X4_mostFurther p1 p2 μ)) ?_
  refine W_letI (fun x1 => ?_)
  refine W_s (s_istore_n dX4_countFurther_5 rfl (Nat.le_of_ble_eq_true rfl)) ?_
  refine W_s (s_iload_n dX4_countFurther_6 rfl rfl) ?_
  refine W_ite (fun h2 => ?_) (fun h2 => ?_)
  · refine W_s (s_if_ne_f dX4_countFurther_7 rfl h2) ?_
    exact W_r (r := ()) (f_void dX4_countFurther_10 rfl)
  · refine W_s (s_if_ne_t dX4_countFurther_7 rfl h2) ?_
    refine W_s (s_aload_n dX4_countFurther_11 rfl rfl) ?_
    refine W_s (s_dup dX4_countFurther_12 rfl) ?_
    refine W_s (gf_RX4_81 rfl dX4_countFurther_13) ?_
    refine W_s (s_iconst dX4_countFurther_16 kci_1) ?_
    refine W_s (s_iadd dX4_countFurther_17) ?_
    refine W_s (pf_RX4_81 rfl dX4_countFurther_18) ?_
    refine W_letM (fun μ3 => ?_)
    refine W_s (s_aload_n dX4_countFurther_21 rfl rfl) ?_
    refine W_s (gf_RX4_81 rfl dX4_countFurther_22) ?_
    refine W_s (s_iload_n dX4_countFurther_25 rfl rfl) ?_
    refine W_ite (fun h4 => ?_) (fun h4 => ?_)
    · refine W_s (s_icmp_le_t dX4_countFurther_26 rfl h4) ?_
      exact W_r (r := ()) (f_void dX4_countFurther_41 rfl)
    · refine W_s (s_icmp_le_f dX4_countFurther_26 rfl h4) ?_
      refine W_s (s_aload_n dX4_countFurther_29 rfl rfl) ?_
      refine W_s (s_iconst dX4_countFurther_30 kci_3) ?_
      refine W_s (s_aload_n dX4_countFurther_31 rfl rfl) ?_
      refine W_s (gf_RX4_12 rfl dX4_countFurther_32) ?_
      refine W_s (gf_RX4_99 rfl dX4_countFurther_35) ?_
      refine W_bd (ec := gx_eV) (fun r_ μ_ hr_ => s_callV (As := [.int _, .int _]) dX4_countFurther_38 Lk_RX4_69 rfl g_42 (by decide) rfl (Nat.le_of_ble_eq_true rfl) (Nat.le_of_ble_eq_true rfl) (ev_X4_note 3 (μ3.1 43 4) μ3 hr_)) (fun r5 μ6 => ?_)
      exact W_r (r := ()) (f_void dX4_countFurther_41 rfl)

def f_X4_takeNumber (p1 : Int32) (p2 : Int32) (μ : gx_M) : Option (Unit × gx_M) := gx_lt (μ.1 43 5) (fun (x1 : Int32) => gx_lt (fun (j0_9 : Bool) (μ10 : gx_M) => gx_lt (fun (μ19 : gx_M) => gx_ck (gx_ix p2 4 = true) (gx_lt (gx_uI μ19 61 p2.toNatClampNeg x1) (fun (μ21 : gx_M) => some ((), μ21)))) (fun J11 => gx_lt (fun (μ16 : gx_M) => gx_bd (f_X4_note 2 (μ16.1 43 4) μ16) (fun (r17 : Unit) (μ18 : gx_M) => J11 μ18)) (fun J12 => if x1 < (f_X4_leastOf p1) then J12 μ10 else if (f_X4_mostOf p1) < x1 then J12 μ10 else if j0_9 = true then J12 μ10 else J11 μ10))) (fun J2 => gx_lt (fun (μ8 : gx_M) => J2 false μ8) (fun J3 => if p1 = 116 then if p2 ≤ 0 then J3 μ else gx_ck (gx_ix (p2 - 1) 4 = true) (if (μ.1 61 (p2 - 1).toNatClampNeg) ≤ x1 then J3 μ else J2 true μ) else J3 μ)))
theorem ev_X4_takeNumber {E : gx_E} {l : Launch} (p1 : Int32) (p2 : Int32) (μ : gx_M) {r : Unit} {μ' : gx_M} (hr : f_X4_takeNumber p1 p2 μ = some (r, μ')) : gEv E l 1 Y_X4_takeNumber [.ref (E.2.2.1 + 42), .int p1, .int p2] gx_G1 μ (gx_eV r) gx_G1 μ' := by
  refine W_ev (by decide) (Nat.le_of_ble_eq_true rfl) (em := gx_eV) (T := f_X4_takeNumber p1 p2 μ) ?_ hr
  show GoW E l Y_X4_takeNumber 1 gx_eV 0 (gx_el [.ref (E.2.2.1 + 42), .int p1, .int p2]) [] μ (f_X4_takeNumber p1 p2 μ)
  unfold f_X4_takeNumber
  refine W_s (s_aload_n dX4_takeNumber_0 rfl rfl) ?_
  refine W_s (gf_RX4_12 rfl dX4_takeNumber_1) ?_
  refine W_s (gf_RX4_184 rfl dX4_takeNumber_4) ?_
  refine W_letI (fun x1 => ?_)
  refine W_s (s_istore_n dX4_takeNumber_7 rfl (Nat.le_of_ble_eq_true rfl)) ?_
  refine W_s (s_iload_n dX4_takeNumber_8 rfl rfl) ?_
  refine W_s (s_bipush dX4_takeNumber_9 kcb_116) ?_
  refine W_fun (fun J => ∀ (j0_9 : Bool) (μ10 : gx_M), GoW E l Y_X4_takeNumber 1 gx_eV 35 [some (.ref (E.2.2.1 + 42)), some (.int p1), some (.int p2), some (.int x1)] [.int (gx_bi j0_9)] μ10 (J j0_9 μ10)) ?_ (fun J2 hJ2 => ?_)
  · intro j0_9 μ10
    refine W_s (s_istore dX4_takeNumber_35 (Nat.le_of_ble_eq_true rfl)) ?_
    refine W_s (s_iload_n dX4_takeNumber_37 rfl rfl) ?_
    refine W_s (s_iload_n dX4_takeNumber_38 rfl rfl) ?_
    refine W_s (s_callS (As := [.int _]) dX4_takeNumber_39 Lk_RX4_187 rfl (Nat.le_of_ble_eq_true rfl) (Nat.le_of_ble_eq_true rfl) (ev_X4_leastOf p1 μ10)) ?_
    refine W_fun (fun J => ∀ (μ19 : gx_M), GoW E l Y_X4_takeNumber 1 gx_eV 70 [some (.ref (E.2.2.1 + 42)), none, some (.int p2), some (.int x1)] [] μ19 (J μ19)) ?_ (fun J11 hJ11 => ?_)
    · intro μ19
      refine W_s (s_aload_n dX4_takeNumber_70 rfl rfl) ?_
      refine W_s (gf_RX4_44 rfl dX4_takeNumber_71) ?_
      refine W_s (s_iload_n dX4_takeNumber_74 rfl rfl) ?_
      refine W_s (s_iload_n dX4_takeNumber_75 rfl rfl) ?_
      refine W_ck (fun h20 => ?_)
      refine W_s (s_iast dX4_takeNumber_76 g_61 (gx_ixv h20)) ?_
      refine W_letM (fun μ21 => ?_)
      exact W_r (r := ()) (f_void dX4_takeNumber_77 rfl)
    · skip
      refine W_fun (fun J => ∀ (μ16 : gx_M), GoW E l Y_X4_takeNumber 1 gx_eV 58 [some (.ref (E.2.2.1 + 42)), none, some (.int p2), some (.int x1)] [] μ16 (J μ16)) ?_ (fun J12 hJ12 => ?_)
      · intro μ16
        refine W_s (s_aload_n dX4_takeNumber_58 rfl rfl) ?_
        refine W_s (s_iconst dX4_takeNumber_59 kci_2) ?_
        refine W_s (s_aload_n dX4_takeNumber_60 rfl rfl) ?_
        refine W_s (gf_RX4_12 rfl dX4_takeNumber_61) ?_
        refine W_s (gf_RX4_99 rfl dX4_takeNumber_64) ?_
        refine W_bd (ec := gx_eV) (fun r_ μ_ hr_ => s_callV (As := [.int _, .int _]) dX4_takeNumber_67 Lk_RX4_69 rfl g_42 (by decide) rfl (Nat.le_of_ble_eq_true rfl) (Nat.le_of_ble_eq_true rfl) (ev_X4_note 2 (μ16.1 43 4) μ16 hr_)) (fun r17 μ18 => ?_)
        exact W_wk (hJ11 μ18) (le_s rfl (le_o (le_s rfl (le_s rfl le_n))))
      · skip
        refine W_ite (fun h13 => ?_) (fun h13 => ?_)
        · refine W_s (s_icmp_lt_t dX4_takeNumber_42 rfl h13) ?_
          exact W_wk (hJ12 μ10) (le_s rfl (le_o (le_s rfl (le_s rfl le_n))))
        · refine W_s (s_icmp_lt_f dX4_takeNumber_42 rfl h13) ?_
          refine W_s (s_iload_n dX4_takeNumber_45 rfl rfl) ?_
          refine W_s (s_iload_n dX4_takeNumber_46 rfl rfl) ?_
          refine W_s (s_callS (As := [.int _]) dX4_takeNumber_47 Lk_RX4_191 rfl (Nat.le_of_ble_eq_true rfl) (Nat.le_of_ble_eq_true rfl) (ev_X4_mostOf p1 μ10)) ?_
          refine W_ite (fun h14 => ?_) (fun h14 => ?_)
          · refine W_s (s_icmp_gt_t dX4_takeNumber_50 rfl h14) ?_
            exact W_wk (hJ12 μ10) (le_s rfl (le_o (le_s rfl (le_s rfl le_n))))
          · refine W_s (s_icmp_gt_f dX4_takeNumber_50 rfl h14) ?_
            refine W_s (s_iload dX4_takeNumber_53 rfl) ?_
            refine W_ite (fun h15 => ?_) (fun h15 => ?_)
            · refine W_s (s_if_eq_f dX4_takeNumber_55 rfl (gx_bt h15)) ?_
              exact W_wk (hJ12 μ10) (le_s rfl (le_o (le_s rfl (le_s rfl le_n))))
            · refine W_s (s_if_eq_t dX4_takeNumber_55 rfl (gx_bf h15)) ?_
              exact W_wk (hJ11 μ10) (le_s rfl (le_o (le_s rfl (le_s rfl le_n))))
  · skip
    refine W_fun (fun J => ∀ (μ8 : gx_M), GoW E l Y_X4_takeNumber 1 gx_eV 34 [some (.ref (E.2.2.1 + 42)), some (.int p1), some (.int p2), some (.int x1)] [] μ8 (J μ8)) ?_ (fun J3 hJ3 => ?_)
    · intro μ8
      refine W_s (s_iconst dX4_takeNumber_34 kci_0) ?_
      exact W_wk (hJ2 false μ8) (le_s rfl (le_s rfl (le_s rfl (le_s rfl le_n))))
    · skip
      refine W_ite (fun h4 => ?_) (fun h4 => ?_)
      · refine W_s (s_icmp_ne_f dX4_takeNumber_11 rfl h4) ?_
        refine W_s (s_iload_n dX4_takeNumber_14 rfl rfl) ?_
        refine W_ite (fun h5 => ?_) (fun h5 => ?_)
        · refine W_s (s_if_le_t dX4_takeNumber_15 rfl h5) ?_
          exact W_wk (hJ3 μ) (le_s rfl (le_s rfl (le_s rfl (le_s rfl le_n))))
        · refine W_s (s_if_le_f dX4_takeNumber_15 rfl h5) ?_
          refine W_s (s_iload_n dX4_takeNumber_18 rfl rfl) ?_
          refine W_s (s_aload_n dX4_takeNumber_19 rfl rfl) ?_
          refine W_s (gf_RX4_44 rfl dX4_takeNumber_20) ?_
          refine W_s (s_iload_n dX4_takeNumber_23 rfl rfl) ?_
          refine W_s (s_iconst dX4_takeNumber_24 kci_1) ?_
          refine W_s (s_isub dX4_takeNumber_25) ?_
          refine W_ck (fun h6 => ?_)
          refine W_s (s_iald dX4_takeNumber_26 g_61 (gx_ixv h6)) ?_
          refine W_ite (fun h7 => ?_) (fun h7 => ?_)
          · refine W_s (s_icmp_ge_t dX4_takeNumber_27 rfl h7) ?_
            exact W_wk (hJ3 μ) (le_s rfl (le_s rfl (le_s rfl (le_s rfl le_n))))
          · refine W_s (s_icmp_ge_f dX4_takeNumber_27 rfl h7) ?_
            refine W_s (s_iconst dX4_takeNumber_30 kci_1) ?_
            refine W_s (s_goto dX4_takeNumber_31 rfl) ?_
            exact W_wk (hJ2 true μ) (le_s rfl (le_s rfl (le_s rfl (le_s rfl le_n))))
      · refine W_s (s_icmp_ne_t dX4_takeNumber_11 rfl h4) ?_
        exact W_wk (hJ3 μ) (le_s rfl (le_s rfl (le_s rfl (le_s rfl le_n))))

def f_X4_tellBusiness (μ : gx_M) : Option (Unit × gx_M) := gx_lt (μ.1 45 2) (fun (x1 : Int32) => if x1 < 6 then gx_ck (gx_ix x1 6 = true) (gx_lt (gx_uI μ 49 x1.toNatClampNeg (μ.1 61 0)) (fun (μ4 : gx_M) => gx_lt (gx_uI μ4 50 x1.toNatClampNeg (μ4.1 61 1)) (fun (μ5 : gx_M) => gx_lt (gx_uI μ5 51 x1.toNatClampNeg (μ5.1 61 2)) (fun (μ6 : gx_M) => gx_lt (gx_uI μ6 52 x1.toNatClampNeg (μ6.1 61 3)) (fun (μ7 : gx_M) => gx_lt (gx_uI μ7 45 2 ((μ7.1 45 2) + 1)) (fun (μ8 : gx_M) => gx_lt (if (μ8.1 42 9) < (μ8.1 61 2) then (μ8.1 61 2) else (μ8.1 42 9)) (fun (x9 : Int32) => gx_lt (gx_uI μ8 42 9 x9) (fun (μ10 : gx_M) => some ((), μ10))))))))) else some ((), μ))
theorem ev_X4_tellBusiness {E : gx_E} {l : Launch} (μ : gx_M) {r : Unit} {μ' : gx_M} (hr : f_X4_tellBusiness μ = some (r, μ')) : gEv E l 1 Y_X4_tellBusiness [.ref (E.2.2.1 + 42)] gx_G1 μ (gx_eV r) gx_G1 μ' := by
  refine W_ev (by decide) (Nat.le_of_ble_eq_true rfl) (em := gx_eV) (T := f_X4_tellBusiness μ) ?_ hr
  show GoW E l Y_X4_tellBusiness 1 gx_eV 0 (gx_el [.ref (E.2.2.1 + 42)]) [] μ (f_X4_tellBusiness μ)
  unfold f_X4_tellBusiness
  refine W_s (s_aload_n dX4_tellBusiness_0 rfl rfl) ?_
  refine W_s (gf_RX4_21 rfl dX4_tellBusiness_1) ?_
  refine W_s (gfm_RX4_250 St_c_45 rfl dX4_tellBusiness_4) ?_
  refine W_letI (fun x1 => ?_)
  refine W_s (s_istore_n dX4_tellBusiness_7 rfl (Nat.le_of_ble_eq_true rfl)) ?_
  refine W_s (s_iload_n dX4_tellBusiness_8 rfl rfl) ?_
  refine W_s (s_bipush dX4_tellBusiness_9 kcb_6) ?_
  refine W_ite (fun h2 => ?_) (fun h2 => ?_)
  · refine W_s (s_icmp_lt_t dX4_tellBusiness_11 rfl h2) ?_
    refine W_s (s_aload_n dX4_tellBusiness_15 rfl rfl) ?_
    refine W_s (gf_RX4_21 rfl dX4_tellBusiness_16) ?_
    refine W_s (gfm_RX4_253 St_c_45 rfl dX4_tellBusiness_19) ?_
    refine W_s (s_iload_n dX4_tellBusiness_22 rfl rfl) ?_
    refine W_s (s_aload_n dX4_tellBusiness_23 rfl rfl) ?_
    refine W_s (gf_RX4_44 rfl dX4_tellBusiness_24) ?_
    refine W_s (s_iconst dX4_tellBusiness_27 kci_0) ?_
    refine W_s (s_ialdL (k := 0) dX4_tellBusiness_28 g_61 (gx_inl (by decide)) (by decide)) ?_
    refine W_ck (fun h3 => ?_)
    refine W_s (s_iast dX4_tellBusiness_29 (St_4 St_c_45) (gx_ixv h3)) ?_
    refine W_letM (fun μ4 => ?_)
    refine W_s (s_aload_n dX4_tellBusiness_30 rfl rfl) ?_
    refine W_s (gf_RX4_21 rfl dX4_tellBusiness_31) ?_
    refine W_s (gfm_RX4_255 St_c_45 rfl dX4_tellBusiness_34) ?_
    refine W_s (s_iload_n dX4_tellBusiness_37 rfl rfl) ?_
    refine W_s (s_aload_n dX4_tellBusiness_38 rfl rfl) ?_
    refine W_s (gf_RX4_44 rfl dX4_tellBusiness_39) ?_
    refine W_s (s_iconst dX4_tellBusiness_42 kci_1) ?_
    refine W_s (s_ialdL (k := 1) dX4_tellBusiness_43 g_61 (gx_inl (by decide)) (by decide)) ?_
    refine W_s (s_iast dX4_tellBusiness_44 (St_5 St_c_45) (gx_ixv h3)) ?_
    refine W_letM (fun μ5 => ?_)
    refine W_s (s_aload_n dX4_tellBusiness_45 rfl rfl) ?_
    refine W_s (gf_RX4_21 rfl dX4_tellBusiness_46) ?_
    refine W_s (gfm_RX4_258 St_c_45 rfl dX4_tellBusiness_49) ?_
    refine W_s (s_iload_n dX4_tellBusiness_52 rfl rfl) ?_
    refine W_s (s_aload_n dX4_tellBusiness_53 rfl rfl) ?_
    refine W_s (gf_RX4_44 rfl dX4_tellBusiness_54) ?_
    refine W_s (s_iconst dX4_tellBusiness_57 kci_2) ?_
    refine W_s (s_ialdL (k := 2) dX4_tellBusiness_58 g_61 (gx_inl (by decide)) (by decide)) ?_
    refine W_s (s_iast dX4_tellBusiness_59 (St_6 St_c_45) (gx_ixv h3)) ?_
    refine W_letM (fun μ6 => ?_)
    refine W_s (s_aload_n dX4_tellBusiness_60 rfl rfl) ?_
    refine W_s (gf_RX4_21 rfl dX4_tellBusiness_61) ?_
    refine W_s (gfm_RX4_261 St_c_45 rfl dX4_tellBusiness_64) ?_
    refine W_s (s_iload_n dX4_tellBusiness_67 rfl rfl) ?_
    refine W_s (s_aload_n dX4_tellBusiness_68 rfl rfl) ?_
    refine W_s (gf_RX4_44 rfl dX4_tellBusiness_69) ?_
    refine W_s (s_iconst dX4_tellBusiness_72 kci_3) ?_
    refine W_s (s_ialdL (k := 3) dX4_tellBusiness_73 g_61 (gx_inl (by decide)) (by decide)) ?_
    refine W_s (s_iast dX4_tellBusiness_74 (St_7 St_c_45) (gx_ixv h3)) ?_
    refine W_letM (fun μ7 => ?_)
    refine W_s (s_aload_n dX4_tellBusiness_75 rfl rfl) ?_
    refine W_s (gf_RX4_21 rfl dX4_tellBusiness_76) ?_
    refine W_s (s_dup dX4_tellBusiness_79 rfl) ?_
    refine W_s (gfm_RX4_250 St_c_45 rfl dX4_tellBusiness_80) ?_
    refine W_s (s_iconst dX4_tellBusiness_83 kci_1) ?_
    refine W_s (s_iadd dX4_tellBusiness_84) ?_
    refine W_s (pfm_RX4_250 St_c_45 rfl dX4_tellBusiness_85) ?_
    refine W_letM (fun μ8 => ?_)
    refine W_s (s_aload_n dX4_tellBusiness_88 rfl rfl) ?_
    refine W_s (s_aload_n dX4_tellBusiness_89 rfl rfl) ?_
    refine W_s (gf_RX4_84 rfl dX4_tellBusiness_90) ?_
    refine W_s (s_aload_n dX4_tellBusiness_93 rfl rfl) ?_
    refine W_s (gf_RX4_44 rfl dX4_tellBusiness_94) ?_
    refine W_s (s_iconst dX4_tellBusiness_97 kci_2) ?_
    refine W_s (s_ialdL (k := 2) dX4_tellBusiness_98 g_61 (gx_inl (by decide)) (by decide)) ?_
    refine W_s (s_mmax dX4_tellBusiness_99 Lk_RX4_231 (Nat.le_of_ble_eq_true rfl) (Nat.le_of_ble_eq_true rfl)) ?_
    refine W_letI (fun x9 => ?_)
    refine W_s (pf_RX4_84 rfl dX4_tellBusiness_102) ?_
    refine W_letM (fun μ10 => ?_)
    exact W_r (r := ()) (f_void dX4_tellBusiness_105 rfl)
  · refine W_s (s_icmp_lt_f dX4_tellBusiness_11 rfl h2) ?_
    exact W_r (r := ()) (f_void dX4_tellBusiness_14 rfl)

def f_X4_tellSwaps (p1 : Int32) (μ : gx_M) : Option (Unit × gx_M) := if p1 = 15 then gx_lt (gx_uI μ 59 0 (μ.1 61 0)) (fun (μ7 : gx_M) => some ((), μ7)) else gx_ck (gx_ix (((μ.1 61 0) * 6) + (μ.1 61 1)) 36 = true) (gx_lt (gx_uI μ 60 (((μ.1 61 0) * 6) + (μ.1 61 1)).toNatClampNeg (μ.1 61 2)) (fun (μ3 : gx_M) => gx_lt (if (μ3.1 61 0) < (μ3.1 61 1) then (μ3.1 61 1) else (μ3.1 61 0)) (fun (x4 : Int32) => gx_lt (if (μ3.1 42 10) < x4 then x4 else (μ3.1 42 10)) (fun (x5 : Int32) => gx_lt (gx_uI μ3 42 10 x5) (fun (μ6 : gx_M) => some ((), μ6))))))
theorem ev_X4_tellSwaps {E : gx_E} {l : Launch} (p1 : Int32) (μ : gx_M) {r : Unit} {μ' : gx_M} (hr : f_X4_tellSwaps p1 μ = some (r, μ')) : gEv E l 1 Y_X4_tellSwaps [.ref (E.2.2.1 + 42), .int p1] gx_G1 μ (gx_eV r) gx_G1 μ' := by
  refine W_ev (by decide) (Nat.le_of_ble_eq_true rfl) (em := gx_eV) (T := f_X4_tellSwaps p1 μ) ?_ hr
  show GoW E l Y_X4_tellSwaps 1 gx_eV 0 (gx_el [.ref (E.2.2.1 + 42), .int p1]) [] μ (f_X4_tellSwaps p1 μ)
  unfold f_X4_tellSwaps
  refine W_s (s_iload_n dX4_tellSwaps_0 rfl rfl) ?_
  refine W_s (s_bipush dX4_tellSwaps_1 kcb_15) ?_
  refine W_ite (fun h1 => ?_) (fun h1 => ?_)
  · refine W_s (s_icmp_ne_f dX4_tellSwaps_3 rfl h1) ?_
    refine W_s (s_aload_n dX4_tellSwaps_6 rfl rfl) ?_
    refine W_s (gf_RX4_40 rfl dX4_tellSwaps_7) ?_
    refine W_s (s_aload_n dX4_tellSwaps_10 rfl rfl) ?_
    refine W_s (gf_RX4_44 rfl dX4_tellSwaps_11) ?_
    refine W_s (s_iconst dX4_tellSwaps_14 kci_0) ?_
    refine W_s (s_ialdL (k := 0) dX4_tellSwaps_15 g_61 (gx_inl (by decide)) (by decide)) ?_
    refine W_s (pfm_RX4_96 Sw_c_59 rfl dX4_tellSwaps_16) ?_
    refine W_letM (fun μ7 => ?_)
    exact W_r (r := ()) (f_void dX4_tellSwaps_19 rfl)
  · refine W_s (s_icmp_ne_t dX4_tellSwaps_3 rfl h1) ?_
    refine W_s (s_aload_n dX4_tellSwaps_20 rfl rfl) ?_
    refine W_s (gf_RX4_40 rfl dX4_tellSwaps_21) ?_
    refine W_s (gfm_RX4_263 Sw_c_59 rfl dX4_tellSwaps_24) ?_
    refine W_s (s_aload_n dX4_tellSwaps_27 rfl rfl) ?_
    refine W_s (gf_RX4_44 rfl dX4_tellSwaps_28) ?_
    refine W_s (s_iconst dX4_tellSwaps_31 kci_0) ?_
    refine W_s (s_ialdL (k := 0) dX4_tellSwaps_32 g_61 (gx_inl (by decide)) (by decide)) ?_
    refine W_s (s_bipush dX4_tellSwaps_33 kcb_6) ?_
    refine W_s (s_imul dX4_tellSwaps_35) ?_
    refine W_s (s_aload_n dX4_tellSwaps_36 rfl rfl) ?_
    refine W_s (gf_RX4_44 rfl dX4_tellSwaps_37) ?_
    refine W_s (s_iconst dX4_tellSwaps_40 kci_1) ?_
    refine W_s (s_ialdL (k := 1) dX4_tellSwaps_41 g_61 (gx_inl (by decide)) (by decide)) ?_
    refine W_s (s_iadd dX4_tellSwaps_42) ?_
    refine W_s (s_aload_n dX4_tellSwaps_43 rfl rfl) ?_
    refine W_s (gf_RX4_44 rfl dX4_tellSwaps_44) ?_
    refine W_s (s_iconst dX4_tellSwaps_47 kci_2) ?_
    refine W_s (s_ialdL (k := 2) dX4_tellSwaps_48 g_61 (gx_inl (by decide)) (by decide)) ?_
    refine W_ck (fun h2 => ?_)
    refine W_s (s_iast dX4_tellSwaps_49 (Sw_1 Sw_c_59) (gx_ixv h2)) ?_
    refine W_letM (fun μ3 => ?_)
    refine W_s (s_aload_n dX4_tellSwaps_50 rfl rfl) ?_
    refine W_s (s_aload_n dX4_tellSwaps_51 rfl rfl) ?_
    refine W_s (gf_RX4_87 rfl dX4_tellSwaps_52) ?_
    refine W_s (s_aload_n dX4_tellSwaps_55 rfl rfl) ?_
    refine W_s (gf_RX4_44 rfl dX4_tellSwaps_56) ?_
    refine W_s (s_iconst dX4_tellSwaps_59 kci_0) ?_
    refine W_s (s_ialdL (k := 0) dX4_tellSwaps_60 g_61 (gx_inl (by decide)) (by decide)) ?_
    refine W_s (s_aload_n dX4_tellSwaps_61 rfl rfl) ?_
    refine W_s (gf_RX4_44 rfl dX4_tellSwaps_62) ?_
    refine W_s (s_iconst dX4_tellSwaps_65 kci_1) ?_
    refine W_s (s_ialdL (k := 1) dX4_tellSwaps_66 g_61 (gx_inl (by decide)) (by decide)) ?_
    refine W_s (s_mmax dX4_tellSwaps_67 Lk_RX4_231 (Nat.le_of_ble_eq_true rfl) (Nat.le_of_ble_eq_true rfl)) ?_
    refine W_letI (fun x4 => ?_)
    refine W_s (s_mmax dX4_tellSwaps_70 Lk_RX4_231 (Nat.le_of_ble_eq_true rfl) (Nat.le_of_ble_eq_true rfl)) ?_
    refine W_letI (fun x5 => ?_)
    refine W_s (pf_RX4_87 rfl dX4_tellSwaps_73) ?_
    refine W_letM (fun μ6 => ?_)
    exact W_r (r := ()) (f_void dX4_tellSwaps_76 rfl)

def f_X5_clear (a0 : Nat) (μ : gx_M) : Option (Unit × gx_M) := gx_lt (gx_uI μ a0 0 12) (fun (μ1 : gx_M) => gx_lt (gx_uI μ1 a0 1 2) (fun (μ2 : gx_M) => gx_lt (gx_uI μ2 a0 2 0) (fun (μ3 : gx_M) => gx_bd (f_J7_fill_53178 (a0 + 1) 4 20 μ3) (fun (r4 : Unit) (μ5 : gx_M) => gx_bd (f_J7_fill_53178 (a0 + 2) 40 1 μ5) (fun (r6 : Unit) (μ7 : gx_M) => gx_bd (f_J7_fill_53178 (a0 + 3) 40 (-1) μ7) (fun (r8 : Unit) (μ9 : gx_M) => some ((), μ9)))))))
theorem ev_X5_clear {E : gx_E} {l : Launch} (a0 : Nat) (ha0 : gx_St a0) (μ : gx_M) {r : Unit} {μ' : gx_M} (hr : f_X5_clear a0 μ = some (r, μ')) : gEv E l 1 Y_X5_clear [.ref (E.2.2.1 + a0)] gx_G1 μ (gx_eV r) gx_G1 μ' := by
  refine W_ev (by decide) (Nat.le_of_ble_eq_true rfl) (em := gx_eV) (T := f_X5_clear a0 μ) ?_ hr
  show GoW E l Y_X5_clear 1 gx_eV 0 (gx_el [.ref (E.2.2.1 + a0)]) [] μ (f_X5_clear a0 μ)
  unfold f_X5_clear
  refine W_s (s_aload_n dX5_clear_0 rfl rfl) ?_
  refine W_s (s_bipush dX5_clear_1 kcb_12) ?_
  refine W_s (pfm_RX5_33 ha0 rfl dX5_clear_3) ?_
  refine W_letM (fun μ1 => ?_)
  refine W_s (s_aload_n dX5_clear_6 rfl rfl) ?_
  refine W_s (s_iconst dX5_clear_7 kci_2) ?_
  refine W_s (pfm_RX5_37 ha0 rfl dX5_clear_8) ?_
  refine W_letM (fun μ2 => ?_)
  refine W_s (s_aload_n dX5_clear_11 rfl rfl) ?_
  refine W_s (s_iconst dX5_clear_12 kci_0) ?_
  refine W_s (pfm_RX5_40 ha0 rfl dX5_clear_13) ?_
  refine W_letM (fun μ3 => ?_)
  refine W_s (s_aload_n dX5_clear_16 rfl rfl) ?_
  refine W_s (gfm_RX5_9 ha0 rfl dX5_clear_17) ?_
  refine W_s (s_bipush dX5_clear_20 kcb_20) ?_
  refine W_bd (ec := gx_eV) (fun r_ μ_ hr_ => s_callS (As := [.ref _, .int _]) dX5_clear_22 Lk_RX5_43 rfl (Nat.le_of_ble_eq_true rfl) (Nat.le_of_ble_eq_true rfl) (ev_J7_fill_53178 (a0 + 1) 4 20 (St_1 ha0) μ3 hr_)) (fun r4 μ5 => ?_)
  refine W_s (s_aload_n dX5_clear_25 rfl rfl) ?_
  refine W_s (gfm_RX5_15 ha0 rfl dX5_clear_26) ?_
  refine W_s (s_iconst dX5_clear_29 kci_1) ?_
  refine W_bd (ec := gx_eV) (fun r_ μ_ hr_ => s_callS (As := [.ref _, .int _]) dX5_clear_30 Lk_RX5_43 rfl (Nat.le_of_ble_eq_true rfl) (Nat.le_of_ble_eq_true rfl) (ev_J7_fill_53178 (a0 + 2) 40 1 (St_2 ha0) μ5 hr_)) (fun r6 μ7 => ?_)
  refine W_s (s_aload_n dX5_clear_33 rfl rfl) ?_
  refine W_s (gfm_RX5_18 ha0 rfl dX5_clear_34) ?_
  refine W_s (s_iconst dX5_clear_37 kci_m1) ?_
  refine W_bd (ec := gx_eV) (fun r_ μ_ hr_ => s_callS (As := [.ref _, .int _]) dX5_clear_38 Lk_RX5_43 rfl (Nat.le_of_ble_eq_true rfl) (Nat.le_of_ble_eq_true rfl) (ev_J7_fill_53178 (a0 + 3) 40 (-1) (St_3 ha0) μ7 hr_)) (fun r8 μ9 => ?_)
  exact W_r (r := ()) (f_void dX5_clear_41 rfl)

def f_X5_copyFrom (a0 : Nat) (a1 : Nat) (μ : gx_M) : Option (Unit × gx_M) := gx_lt (gx_uI μ a0 0 (μ.1 a1 0)) (fun (μ1 : gx_M) => gx_lt (gx_uI μ1 a0 1 (μ1.1 a1 1)) (fun (μ2 : gx_M) => gx_lt (gx_uI μ2 a0 2 (μ2.1 a1 2)) (fun (μ3 : gx_M) => gx_ck (gx_cpk 0 0 4 4 4 = true) (gx_lt (gx_cp μ3 (a1 + 1) (a0 + 1) ((0 : Int32).toNatClampNeg) ((0 : Int32).toNatClampNeg) ((4 : Int32).toNatClampNeg)) (fun (μ5 : gx_M) => gx_ck (gx_cpk 0 0 40 40 40 = true) (gx_lt (gx_cp μ5 (a1 + 2) (a0 + 2) ((0 : Int32).toNatClampNeg) ((0 : Int32).toNatClampNeg) ((40 : Int32).toNatClampNeg)) (fun (μ7 : gx_M) => gx_ck (gx_cpk 0 0 40 40 40 = true) (gx_lt (gx_cp μ7 (a1 + 3) (a0 + 3) ((0 : Int32).toNatClampNeg) ((0 : Int32).toNatClampNeg) ((40 : Int32).toNatClampNeg)) (fun (μ9 : gx_M) => gx_ck (gx_cpk 0 0 6 6 6 = true) (gx_lt (gx_cp μ9 (a1 + 4) (a0 + 4) ((0 : Int32).toNatClampNeg) ((0 : Int32).toNatClampNeg) ((6 : Int32).toNatClampNeg)) (fun (μ11 : gx_M) => gx_ck (gx_cpk 0 0 6 6 6 = true) (gx_lt (gx_cp μ11 (a1 + 5) (a0 + 5) ((0 : Int32).toNatClampNeg) ((0 : Int32).toNatClampNeg) ((6 : Int32).toNatClampNeg)) (fun (μ13 : gx_M) => gx_ck (gx_cpk 0 0 6 6 6 = true) (gx_lt (gx_cp μ13 (a1 + 6) (a0 + 6) ((0 : Int32).toNatClampNeg) ((0 : Int32).toNatClampNeg) ((6 : Int32).toNatClampNeg)) (fun (μ15 : gx_M) => gx_ck (gx_cpk 0 0 6 6 6 = true) (gx_lt (gx_cp μ15 (a1 + 7) (a0 + 7) ((0 : Int32).toNatClampNeg) ((0 : Int32).toNatClampNeg) ((6 : Int32).toNatClampNeg)) (fun (μ17 : gx_M) => some ((), μ17))))))))))))))))))
theorem ev_X5_copyFrom {E : gx_E} {l : Launch} (a0 : Nat) (a1 : Nat) (ha0 : gx_St a0) (ha1 : gx_St a1) (μ : gx_M) {r : Unit} {μ' : gx_M} (hr : f_X5_copyFrom a0 a1 μ = some (r, μ')) : gEv E l 1 Y_X5_copyFrom [.ref (E.2.2.1 + a0), .ref (E.2.2.1 + a1)] gx_G1 μ (gx_eV r) gx_G1 μ' := by
  refine W_ev (by decide) (Nat.le_of_ble_eq_true rfl) (em := gx_eV) (T := f_X5_copyFrom a0 a1 μ) ?_ hr
  show GoW E l Y_X5_copyFrom 1 gx_eV 0 (gx_el [.ref (E.2.2.1 + a0), .ref (E.2.2.1 + a1)]) [] μ (f_X5_copyFrom a0 a1 μ)
  unfold f_X5_copyFrom
  refine W_s (s_aload_n dX5_copyFrom_0 rfl rfl) ?_
  refine W_s (s_aload_n dX5_copyFrom_1 rfl rfl) ?_
  refine W_s (gfm_RX5_33 ha1 rfl dX5_copyFrom_2) ?_
  refine W_s (pfm_RX5_33 ha0 rfl dX5_copyFrom_5) ?_
  refine W_letM (fun μ1 => ?_)
  refine W_s (s_aload_n dX5_copyFrom_8 rfl rfl) ?_
  refine W_s (s_aload_n dX5_copyFrom_9 rfl rfl) ?_
  refine W_s (gfm_RX5_37 ha1 rfl dX5_copyFrom_10) ?_
  refine W_s (pfm_RX5_37 ha0 rfl dX5_copyFrom_13) ?_
  refine W_letM (fun μ2 => ?_)
  refine W_s (s_aload_n dX5_copyFrom_16 rfl rfl) ?_
  refine W_s (s_aload_n dX5_copyFrom_17 rfl rfl) ?_
  refine W_s (gfm_RX5_40 ha1 rfl dX5_copyFrom_18) ?_
  refine W_s (pfm_RX5_40 ha0 rfl dX5_copyFrom_21) ?_
  refine W_letM (fun μ3 => ?_)
  refine W_s (s_aload_n dX5_copyFrom_24 rfl rfl) ?_
  refine W_s (gfm_RX5_9 ha1 rfl dX5_copyFrom_25) ?_
  refine W_s (s_iconst dX5_copyFrom_28 kci_0) ?_
  refine W_s (s_aload_n dX5_copyFrom_29 rfl rfl) ?_
  refine W_s (gfm_RX5_9 ha0 rfl dX5_copyFrom_30) ?_
  refine W_s (s_iconst dX5_copyFrom_33 kci_0) ?_
  refine W_s (s_iconst dX5_copyFrom_34 kci_4) ?_
  refine W_ck (fun h4 => ?_)
  refine W_s (s_acopyI dX5_copyFrom_35 Lk_RX5_49 (Nat.le_of_ble_eq_true rfl) (Nat.le_of_ble_eq_true rfl) (St_1 ha1) (St_1 ha0) h4) ?_
  refine W_letM (fun μ5 => ?_)
  refine W_s (s_aload_n dX5_copyFrom_38 rfl rfl) ?_
  refine W_s (gfm_RX5_15 ha1 rfl dX5_copyFrom_39) ?_
  refine W_s (s_iconst dX5_copyFrom_42 kci_0) ?_
  refine W_s (s_aload_n dX5_copyFrom_43 rfl rfl) ?_
  refine W_s (gfm_RX5_15 ha0 rfl dX5_copyFrom_44) ?_
  refine W_s (s_iconst dX5_copyFrom_47 kci_0) ?_
  refine W_s (s_bipush dX5_copyFrom_48 kcb_40) ?_
  refine W_ck (fun h6 => ?_)
  refine W_s (s_acopyI dX5_copyFrom_50 Lk_RX5_49 (Nat.le_of_ble_eq_true rfl) (Nat.le_of_ble_eq_true rfl) (St_2 ha1) (St_2 ha0) h6) ?_
  refine W_letM (fun μ7 => ?_)
  refine W_s (s_aload_n dX5_copyFrom_53 rfl rfl) ?_
  refine W_s (gfm_RX5_18 ha1 rfl dX5_copyFrom_54) ?_
  refine W_s (s_iconst dX5_copyFrom_57 kci_0) ?_
  refine W_s (s_aload_n dX5_copyFrom_58 rfl rfl) ?_
  refine W_s (gfm_RX5_18 ha0 rfl dX5_copyFrom_59) ?_
  refine W_s (s_iconst dX5_copyFrom_62 kci_0) ?_
  refine W_s (s_bipush dX5_copyFrom_63 kcb_40) ?_
  refine W_ck (fun h8 => ?_)
  refine W_s (s_acopyI dX5_copyFrom_65 Lk_RX5_49 (Nat.le_of_ble_eq_true rfl) (Nat.le_of_ble_eq_true rfl) (St_3 ha1) (St_3 ha0) h8) ?_
  refine W_letM (fun μ9 => ?_)
  refine W_s (s_aload_n dX5_copyFrom_68 rfl rfl) ?_
  refine W_s (gfm_RX5_21 ha1 rfl dX5_copyFrom_69) ?_
  refine W_s (s_iconst dX5_copyFrom_72 kci_0) ?_
  refine W_s (s_aload_n dX5_copyFrom_73 rfl rfl) ?_
  refine W_s (gfm_RX5_21 ha0 rfl dX5_copyFrom_74) ?_
  refine W_s (s_iconst dX5_copyFrom_77 kci_0) ?_
  refine W_s (s_bipush dX5_copyFrom_78 kcb_6) ?_
  refine W_ck (fun h10 => ?_)
  refine W_s (s_acopyI dX5_copyFrom_80 Lk_RX5_49 (Nat.le_of_ble_eq_true rfl) (Nat.le_of_ble_eq_true rfl) (St_4 ha1) (St_4 ha0) h10) ?_
  refine W_letM (fun μ11 => ?_)
  refine W_s (s_aload_n dX5_copyFrom_83 rfl rfl) ?_
  refine W_s (gfm_RX5_24 ha1 rfl dX5_copyFrom_84) ?_
  refine W_s (s_iconst dX5_copyFrom_87 kci_0) ?_
  refine W_s (s_aload_n dX5_copyFrom_88 rfl rfl) ?_
  refine W_s (gfm_RX5_24 ha0 rfl dX5_copyFrom_89) ?_
  refine W_s (s_iconst dX5_copyFrom_92 kci_0) ?_
  refine W_s (s_bipush dX5_copyFrom_93 kcb_6) ?_
  refine W_ck (fun h12 => ?_)
  refine W_s (s_acopyI dX5_copyFrom_95 Lk_RX5_49 (Nat.le_of_ble_eq_true rfl) (Nat.le_of_ble_eq_true rfl) (St_5 ha1) (St_5 ha0) h12) ?_
  refine W_letM (fun μ13 => ?_)
  refine W_s (s_aload_n dX5_copyFrom_98 rfl rfl) ?_
  refine W_s (gfm_RX5_27 ha1 rfl dX5_copyFrom_99) ?_
  refine W_s (s_iconst dX5_copyFrom_102 kci_0) ?_
  refine W_s (s_aload_n dX5_copyFrom_103 rfl rfl) ?_
  refine W_s (gfm_RX5_27 ha0 rfl dX5_copyFrom_104) ?_
  refine W_s (s_iconst dX5_copyFrom_107 kci_0) ?_
  refine W_s (s_bipush dX5_copyFrom_108 kcb_6) ?_
  refine W_ck (fun h14 => ?_)
  refine W_s (s_acopyI dX5_copyFrom_110 Lk_RX5_49 (Nat.le_of_ble_eq_true rfl) (Nat.le_of_ble_eq_true rfl) (St_6 ha1) (St_6 ha0) h14) ?_
  refine W_letM (fun μ15 => ?_)
  refine W_s (s_aload_n dX5_copyFrom_113 rfl rfl) ?_
  refine W_s (gfm_RX5_30 ha1 rfl dX5_copyFrom_114) ?_
  refine W_s (s_iconst dX5_copyFrom_117 kci_0) ?_
  refine W_s (s_aload_n dX5_copyFrom_118 rfl rfl) ?_
  refine W_s (gfm_RX5_30 ha0 rfl dX5_copyFrom_119) ?_
  refine W_s (s_iconst dX5_copyFrom_122 kci_0) ?_
  refine W_s (s_bipush dX5_copyFrom_123 kcb_6) ?_
  refine W_ck (fun h16 => ?_)
  refine W_s (s_acopyI dX5_copyFrom_125 Lk_RX5_49 (Nat.le_of_ble_eq_true rfl) (Nat.le_of_ble_eq_true rfl) (St_7 ha1) (St_7 ha0) h16) ?_
  refine W_letM (fun μ17 => ?_)
  exact W_r (r := ()) (f_void dX5_copyFrom_128 rfl)

def f_X5_hasSet (a0 : Nat) (p1 : Int32) (μ : gx_M) : Bool := if p1 < 0 then false else if (f_X5_subsets a0 μ) ≤ p1 then false else true
theorem ev_X5_hasSet {E : gx_E} {l : Launch} (a0 : Nat) (p1 : Int32) (ha0 : gx_St a0) (μ : gx_M) : gEv E l 1 Y_X5_hasSet [.ref (E.2.2.1 + a0), .int p1] gx_G1 μ (gx_eB (f_X5_hasSet a0 p1 μ)) gx_G1 μ := by
  refine P_ev (by decide) (Nat.le_of_ble_eq_true rfl) (em := gx_eB) (T := f_X5_hasSet a0 p1 μ) ?_
  show GoP E l Y_X5_hasSet 1 gx_eB 0 (gx_el [.ref (E.2.2.1 + a0), .int p1]) [] μ (f_X5_hasSet a0 p1 μ)
  unfold f_X5_hasSet
  refine P_s (s_iload_n dX5_hasSet_0 rfl rfl) ?_
  refine P_ite (fun h1 => ?_) (fun h1 => ?_)
  · refine P_s (s_if_lt_t dX5_hasSet_1 rfl h1) ?_
    refine P_s (s_iconst dX5_hasSet_16 kci_0) ?_
    exact P_r (r := false) (f_int (ty := .boolean) (x := gx_bi false) dX5_hasSet_17 rfl (gx_bn false))
  · refine P_s (s_if_lt_f dX5_hasSet_1 rfl h1) ?_
    refine P_s (s_iload_n dX5_hasSet_4 rfl rfl) ?_
    refine P_s (s_aload_n dX5_hasSet_5 rfl rfl) ?_
    refine P_s (s_callV (As := []) dX5_hasSet_6 Lk_RX5_55 rfl (St_0 ha0) (by decide) rfl (Nat.le_of_ble_eq_true rfl) (Nat.le_of_ble_eq_true rfl) (ev_X5_subsets a0 ha0 μ)) ?_
    refine P_ite (fun h2 => ?_) (fun h2 => ?_)
    · refine P_s (s_icmp_ge_t dX5_hasSet_9 rfl h2) ?_
      refine P_s (s_iconst dX5_hasSet_16 kci_0) ?_
      exact P_r (r := false) (f_int (ty := .boolean) (x := gx_bi false) dX5_hasSet_17 rfl (gx_bn false))
    · refine P_s (s_icmp_ge_f dX5_hasSet_9 rfl h2) ?_
      refine P_s (s_iconst dX5_hasSet_12 kci_1) ?_
      refine P_s (s_goto dX5_hasSet_13 rfl) ?_
      exact P_r (r := true) (f_int (ty := .boolean) (x := gx_bi true) dX5_hasSet_17 rfl (gx_bn true))

def L_X5_possible_23 (v4_2 : Int32) (μ : gx_M) (a0 : Nat) (p1 : Int64) (k9 : Int32 → Option Int32) : Nat → Int32 → Int32 → Option Int32
  | 0, _, _ => none
  | n + 1, v3_7, v5_8 => gx_ck (gx_ix v4_2 6 = true) (if (μ.1 (a0 + 6) v4_2.toNatClampNeg) < v5_8 then k9 v3_7 else gx_br (f_X5_goesIn a0 v4_2 v5_8 p1 μ) (fun (r12 : Bool) => gx_lt (fun (j0_16 : Int32) => L_X5_possible_23 v4_2 μ a0 p1 k9 n j0_16 (v5_8 + 1)) (fun J13 => if r12 = true then gx_lt (v3_7 ||| ((1 : Int32) <<< (v4_2 &&& 31))) (fun (x15 : Int32) => J13 x15) else J13 v3_7)))
def L_X5_possible_5 (μ : gx_M) (a0 : Nat) (p1 : Int64) (k3 : Int32 → Option Int32) : Nat → Int32 → Int32 → Option Int32
  | 0, _, _ => none
  | n + 1, v3_1, v4_2 => if (μ.1 a0 2) ≤ v4_2 then k3 v3_1 else gx_ck (gx_ix v4_2 6 = true) (gx_lt (μ.1 (a0 + 5) v4_2.toNatClampNeg) (fun (x6 : Int32) => L_X5_possible_23 v4_2 μ a0 p1 (fun (x3_18 : Int32) => L_X5_possible_5 μ a0 p1 k3 n x3_18 (v4_2 + 1)) 4000 v3_1 x6))
def f_X5_possible (a0 : Nat) (p1 : Int64) (μ : gx_M) : Option Int32 := L_X5_possible_5 μ a0 p1 (fun (x3_20 : Int32) => some x3_20) 4000 0 0
theorem okL_X5_possible_23 {E : gx_E} {l : Launch} {v4_2 : Int32} {μ : gx_M} {a0 : Nat} {p1 : Int64} (ha0 : gx_St a0) {k9 : Int32 → Option Int32} (hk : ∀ (w17 : Int32), GoR E l Y_X5_possible 1 gx_eI 60 [some (.ref (E.2.2.1 + a0)), some (.long p1), none, some (.int w17), some (.int v4_2)] [] μ (k9 w17)) : ∀ (n : Nat) (v3_7 : Int32) (v5_8 : Int32), GoR E l Y_X5_possible 1 gx_eI 23 [some (.ref (E.2.2.1 + a0)), some (.long p1), none, some (.int v3_7), some (.int v4_2), some (.int v5_8)] [] μ (L_X5_possible_23 v4_2 μ a0 p1 k9 n v3_7 v5_8) := by
  intro n
  induction n with
  | zero => intros; exact R_no
  | succ n ih =>
    intro v3_7 v5_8
    rw [L_X5_possible_23.eq_2]
    refine R_s (s_iload dX5_possible_23 rfl) ?_
    refine R_s (s_aload_n dX5_possible_25 rfl rfl) ?_
    refine R_s (gfm_RX5_27 ha0 rfl dX5_possible_26) ?_
    refine R_s (s_iload dX5_possible_29 rfl) ?_
    refine R_ck (fun h10 => ?_)
    refine R_s (s_iald dX5_possible_31 (St_6 ha0) (gx_ixv h10)) ?_
    refine R_ite (fun h11 => ?_) (fun h11 => ?_)
    · refine R_s (s_icmp_gt_t dX5_possible_32 rfl h11) ?_
      exact R_wk (hk v3_7) (le_s rfl (le_s rfl (le_o (le_s rfl (le_s rfl le_n)))))
    · refine R_s (s_icmp_gt_f dX5_possible_32 rfl h11) ?_
      refine R_s (s_aload_n dX5_possible_35 rfl rfl) ?_
      refine R_s (s_iload dX5_possible_36 rfl) ?_
      refine R_s (s_iload dX5_possible_38 rfl) ?_
      refine R_s (s_lload_n dX5_possible_40 rfl rfl) ?_
      refine R_br (ec := gx_eB) (fun r_ hr_ => s_callV (As := [.int _, .int _, .long _]) dX5_possible_41 Lk_RX5_61 rfl (St_0 ha0) (by decide) rfl (Nat.le_of_ble_eq_true rfl) (Nat.le_of_ble_eq_true rfl) (ev_X5_goesIn a0 v4_2 v5_8 p1 ha0 μ hr_)) (fun r12 => ?_)
      refine R_fun (fun J => ∀ (j0_16 : Int32), GoR E l Y_X5_possible 1 gx_eI 54 [some (.ref (E.2.2.1 + a0)), some (.long p1), none, some (.int j0_16), some (.int v4_2), some (.int v5_8)] [] μ (J j0_16)) ?_ (fun J13 hJ13 => ?_)
      · intro j0_16
        refine R_s (s_iinc dX5_possible_54 rfl (kinc_1 v5_8) (Nat.le_of_ble_eq_true rfl)) ?_
        refine R_s (s_goto dX5_possible_57 rfl) ?_
        exact R_wk (ih j0_16 (v5_8 + 1)) (le_s rfl (le_s rfl (le_o (le_s rfl (le_s rfl (le_s rfl le_n))))))
      · skip
        refine R_ite (fun h14 => ?_) (fun h14 => ?_)
        · refine R_s (s_if_eq_f dX5_possible_44 rfl (gx_bt h14)) ?_
          refine R_s (s_iload_n dX5_possible_47 rfl rfl) ?_
          refine R_s (s_iconst dX5_possible_48 kci_1) ?_
          refine R_s (s_iload dX5_possible_49 rfl) ?_
          refine R_s (s_ishl dX5_possible_51) ?_
          refine R_s (s_ior dX5_possible_52) ?_
          refine R_letI (fun x15 => ?_)
          refine R_s (s_istore_n dX5_possible_53 rfl (Nat.le_of_ble_eq_true rfl)) ?_
          exact R_wk (hJ13 x15) (le_s rfl (le_s rfl (le_o (le_s rfl (le_s rfl (le_s rfl le_n))))))
        · refine R_s (s_if_eq_t dX5_possible_44 rfl (gx_bf h14)) ?_
          exact R_wk (hJ13 v3_7) (le_s rfl (le_s rfl (le_o (le_s rfl (le_s rfl (le_s rfl le_n))))))
theorem okL_X5_possible_5 {E : gx_E} {l : Launch} {μ : gx_M} {a0 : Nat} {p1 : Int64} (ha0 : gx_St a0) {k3 : Int32 → Option Int32} (hk : ∀ (w19 : Int32), GoR E l Y_X5_possible 1 gx_eI 66 [none, none, none, some (.int w19)] [] μ (k3 w19)) : ∀ (n : Nat) (v3_1 : Int32) (v4_2 : Int32), GoR E l Y_X5_possible 1 gx_eI 5 [some (.ref (E.2.2.1 + a0)), some (.long p1), none, some (.int v3_1), some (.int v4_2)] [] μ (L_X5_possible_5 μ a0 p1 k3 n v3_1 v4_2) := by
  intro n
  induction n with
  | zero => intros; exact R_no
  | succ n ih =>
    intro v3_1 v4_2
    rw [L_X5_possible_5.eq_2]
    refine R_s (s_iload dX5_possible_5 rfl) ?_
    refine R_s (s_aload_n dX5_possible_7 rfl rfl) ?_
    refine R_s (gfm_RX5_40 ha0 rfl dX5_possible_8) ?_
    refine R_ite (fun h4 => ?_) (fun h4 => ?_)
    · refine R_s (s_icmp_ge_t dX5_possible_11 rfl h4) ?_
      exact R_wk (hk v3_1) (le_o (le_o (le_o (le_s rfl le_n))))
    · refine R_s (s_icmp_ge_f dX5_possible_11 rfl h4) ?_
      refine R_s (s_aload_n dX5_possible_14 rfl rfl) ?_
      refine R_s (gfm_RX5_24 ha0 rfl dX5_possible_15) ?_
      refine R_s (s_iload dX5_possible_18 rfl) ?_
      refine R_ck (fun h5 => ?_)
      refine R_s (s_iald dX5_possible_20 (St_5 ha0) (gx_ixv h5)) ?_
      refine R_letI (fun x6 => ?_)
      refine R_s (s_istore dX5_possible_21 (Nat.le_of_ble_eq_true rfl)) ?_
      refine R_wk (okL_X5_possible_23 ha0 ?_ 4000 v3_1 x6) (le_s rfl (le_s rfl (le_o (le_s rfl (le_s rfl (le_s rfl le_n))))))
      intro x3_18
      refine R_s (s_iinc dX5_possible_60 rfl (kinc_1 v4_2) (Nat.le_of_ble_eq_true rfl)) ?_
      refine R_s (s_goto dX5_possible_63 rfl) ?_
      exact R_wk (ih x3_18 (v4_2 + 1)) (le_s rfl (le_s rfl (le_o (le_s rfl (le_s rfl le_n)))))
theorem ev_X5_possible {E : gx_E} {l : Launch} (a0 : Nat) (p1 : Int64) (ha0 : gx_St a0) (μ : gx_M) {r : Int32} (hr : f_X5_possible a0 p1 μ = some r) : gEv E l 1 Y_X5_possible [.ref (E.2.2.1 + a0), .long p1] gx_G1 μ (gx_eI r) gx_G1 μ := by
  refine R_ev (by decide) (Nat.le_of_ble_eq_true rfl) (em := gx_eI) (T := f_X5_possible a0 p1 μ) ?_ hr
  show GoR E l Y_X5_possible 1 gx_eI 0 (gx_el [.ref (E.2.2.1 + a0), .long p1]) [] μ (f_X5_possible a0 p1 μ)
  unfold f_X5_possible
  refine R_s (s_iconst dX5_possible_0 kci_0) ?_
  refine R_s (s_istore_n dX5_possible_1 rfl (Nat.le_of_ble_eq_true rfl)) ?_
  refine R_s (s_iconst dX5_possible_2 kci_0) ?_
  refine R_s (s_istore dX5_possible_3 (Nat.le_of_ble_eq_true rfl)) ?_
  refine R_wk (okL_X5_possible_5 ha0 ?_ 4000 0 0) (le_s rfl (le_s rfl (le_o (le_s rfl (le_s rfl le_n)))))
  intro x3_20
  refine R_s (s_iload_n dX5_possible_66 rfl rfl) ?_
  exact R_r (r := x3_20) (f_int (ty := .int) dX5_possible_67 rfl rfl)

def L_X5_runsOver_4 (μ : gx_M) (a0 : Nat) (p1 : Int32) (k3 : Int32 → Option Int32) : Nat → Int32 → Int32 → Option Int32
  | 0, _, _ => none
  | n + 1, v2_1, v3_2 => if (μ.1 a0 2) ≤ v3_2 then k3 v2_1 else gx_ck (gx_ix v3_2 6 = true) (gx_lt (if (μ.1 (a0 + 5) v3_2.toNatClampNeg) < ((p1 - (μ.1 (a0 + 4) v3_2.toNatClampNeg)) + 1) then ((p1 - (μ.1 (a0 + 4) v3_2.toNatClampNeg)) + 1) else (μ.1 (a0 + 5) v3_2.toNatClampNeg)) (fun (x6 : Int32) => gx_lt (if (((μ.1 (a0 + 6) v3_2.toNatClampNeg) - (μ.1 (a0 + 4) v3_2.toNatClampNeg)) + 1) < p1 then (((μ.1 (a0 + 6) v3_2.toNatClampNeg) - (μ.1 (a0 + 4) v3_2.toNatClampNeg)) + 1) else p1) (fun (x7 : Int32) => gx_lt (if 0 < ((x7 - x6) + 1) then ((x7 - x6) + 1) else 0) (fun (x8 : Int32) => gx_lt (v2_1 + x8) (fun (x9 : Int32) => L_X5_runsOver_4 μ a0 p1 k3 n x9 (v3_2 + 1))))))
def f_X5_runsOver (a0 : Nat) (p1 : Int32) (μ : gx_M) : Option Int32 := L_X5_runsOver_4 μ a0 p1 (fun (x2_11 : Int32) => some x2_11) 4000 0 0
theorem okL_X5_runsOver_4 {E : gx_E} {l : Launch} {μ : gx_M} {a0 : Nat} {p1 : Int32} (ha0 : gx_St a0) {k3 : Int32 → Option Int32} (hk : ∀ (w10 : Int32), GoR E l Y_X5_runsOver 1 gx_eI 74 [none, none, some (.int w10)] [] μ (k3 w10)) : ∀ (n : Nat) (v2_1 : Int32) (v3_2 : Int32), GoR E l Y_X5_runsOver 1 gx_eI 4 [some (.ref (E.2.2.1 + a0)), some (.int p1), some (.int v2_1), some (.int v3_2)] [] μ (L_X5_runsOver_4 μ a0 p1 k3 n v2_1 v3_2) := by
  intro n
  induction n with
  | zero => intros; exact R_no
  | succ n ih =>
    intro v2_1 v3_2
    rw [L_X5_runsOver_4.eq_2]
    refine R_s (s_iload_n dX5_runsOver_4 rfl rfl) ?_
    refine R_s (s_aload_n dX5_runsOver_5 rfl rfl) ?_
    refine R_s (gfm_RX5_40 ha0 rfl dX5_runsOver_6) ?_
    refine R_ite (fun h4 => ?_) (fun h4 => ?_)
    · refine R_s (s_icmp_ge_t dX5_runsOver_9 rfl h4) ?_
      exact R_wk (hk v2_1) (le_o (le_o (le_s rfl le_n)))
    · refine R_s (s_icmp_ge_f dX5_runsOver_9 rfl h4) ?_
      refine R_s (s_aload_n dX5_runsOver_12 rfl rfl) ?_
      refine R_s (gfm_RX5_24 ha0 rfl dX5_runsOver_13) ?_
      refine R_s (s_iload_n dX5_runsOver_16 rfl rfl) ?_
      refine R_ck (fun h5 => ?_)
      refine R_s (s_iald dX5_runsOver_17 (St_5 ha0) (gx_ixv h5)) ?_
      refine R_s (s_iload_n dX5_runsOver_18 rfl rfl) ?_
      refine R_s (s_aload_n dX5_runsOver_19 rfl rfl) ?_
      refine R_s (gfm_RX5_21 ha0 rfl dX5_runsOver_20) ?_
      refine R_s (s_iload_n dX5_runsOver_23 rfl rfl) ?_
      refine R_s (s_iald dX5_runsOver_24 (St_4 ha0) (gx_ixv h5)) ?_
      refine R_s (s_isub dX5_runsOver_25) ?_
      refine R_s (s_iconst dX5_runsOver_26 kci_1) ?_
      refine R_s (s_iadd dX5_runsOver_27) ?_
      refine R_s (s_mmax dX5_runsOver_28 Lk_RX5_65 (Nat.le_of_ble_eq_true rfl) (Nat.le_of_ble_eq_true rfl)) ?_
      refine R_letI (fun x6 => ?_)
      refine R_s (s_istore dX5_runsOver_31 (Nat.le_of_ble_eq_true rfl)) ?_
      refine R_s (s_iload_n dX5_runsOver_33 rfl rfl) ?_
      refine R_s (s_aload_n dX5_runsOver_34 rfl rfl) ?_
      refine R_s (gfm_RX5_27 ha0 rfl dX5_runsOver_35) ?_
      refine R_s (s_iload_n dX5_runsOver_38 rfl rfl) ?_
      refine R_s (s_iald dX5_runsOver_39 (St_6 ha0) (gx_ixv h5)) ?_
      refine R_s (s_aload_n dX5_runsOver_40 rfl rfl) ?_
      refine R_s (gfm_RX5_21 ha0 rfl dX5_runsOver_41) ?_
      refine R_s (s_iload_n dX5_runsOver_44 rfl rfl) ?_
      refine R_s (s_iald dX5_runsOver_45 (St_4 ha0) (gx_ixv h5)) ?_
      refine R_s (s_isub dX5_runsOver_46) ?_
      refine R_s (s_iconst dX5_runsOver_47 kci_1) ?_
      refine R_s (s_iadd dX5_runsOver_48) ?_
      refine R_s (s_mmin dX5_runsOver_49 Lk_RX5_71 (Nat.le_of_ble_eq_true rfl) (Nat.le_of_ble_eq_true rfl)) ?_
      refine R_letI (fun x7 => ?_)
      refine R_s (s_istore dX5_runsOver_52 (Nat.le_of_ble_eq_true rfl)) ?_
      refine R_s (s_iload_n dX5_runsOver_54 rfl rfl) ?_
      refine R_s (s_iconst dX5_runsOver_55 kci_0) ?_
      refine R_s (s_iload dX5_runsOver_56 rfl) ?_
      refine R_s (s_iload dX5_runsOver_58 rfl) ?_
      refine R_s (s_isub dX5_runsOver_60) ?_
      refine R_s (s_iconst dX5_runsOver_61 kci_1) ?_
      refine R_s (s_iadd dX5_runsOver_62) ?_
      refine R_s (s_mmax dX5_runsOver_63 Lk_RX5_65 (Nat.le_of_ble_eq_true rfl) (Nat.le_of_ble_eq_true rfl)) ?_
      refine R_letI (fun x8 => ?_)
      refine R_s (s_iadd dX5_runsOver_66) ?_
      refine R_letI (fun x9 => ?_)
      refine R_s (s_istore_n dX5_runsOver_67 rfl (Nat.le_of_ble_eq_true rfl)) ?_
      refine R_s (s_iinc dX5_runsOver_68 rfl (kinc_1 v3_2) (Nat.le_of_ble_eq_true rfl)) ?_
      refine R_s (s_goto dX5_runsOver_71 rfl) ?_
      exact R_wk (ih x9 (v3_2 + 1)) (le_s rfl (le_s rfl (le_s rfl (le_s rfl le_n))))
theorem ev_X5_runsOver {E : gx_E} {l : Launch} (a0 : Nat) (p1 : Int32) (ha0 : gx_St a0) (μ : gx_M) {r : Int32} (hr : f_X5_runsOver a0 p1 μ = some r) : gEv E l 1 Y_X5_runsOver [.ref (E.2.2.1 + a0), .int p1] gx_G1 μ (gx_eI r) gx_G1 μ := by
  refine R_ev (by decide) (Nat.le_of_ble_eq_true rfl) (em := gx_eI) (T := f_X5_runsOver a0 p1 μ) ?_ hr
  show GoR E l Y_X5_runsOver 1 gx_eI 0 (gx_el [.ref (E.2.2.1 + a0), .int p1]) [] μ (f_X5_runsOver a0 p1 μ)
  unfold f_X5_runsOver
  refine R_s (s_iconst dX5_runsOver_0 kci_0) ?_
  refine R_s (s_istore_n dX5_runsOver_1 rfl (Nat.le_of_ble_eq_true rfl)) ?_
  refine R_s (s_iconst dX5_runsOver_2 kci_0) ?_
  refine R_s (s_istore_n dX5_runsOver_3 rfl (Nat.le_of_ble_eq_true rfl)) ?_
  refine R_wk (okL_X5_runsOver_4 ha0 ?_ 4000 0 0) (le_s rfl (le_s rfl (le_s rfl (le_s rfl le_n))))
  intro x2_11
  refine R_s (s_iload_n dX5_runsOver_74 rfl rfl) ?_
  exact R_r (r := x2_11) (f_int (ty := .int) dX5_runsOver_75 rfl rfl)

def f_X6_clear (a0 : Nat) (μ : gx_M) : Option (Unit × gx_M) := gx_lt (gx_uI μ a0 0 3) (fun (μ1 : gx_M) => gx_bd (f_J7_fill_53178 (a0 + 1) 36 0 μ1) (fun (r2 : Unit) (μ3 : gx_M) => some ((), μ3)))
theorem ev_X6_clear {E : gx_E} {l : Launch} (a0 : Nat) (ha0 : gx_Sw a0) (μ : gx_M) {r : Unit} {μ' : gx_M} (hr : f_X6_clear a0 μ = some (r, μ')) : gEv E l 1 Y_X6_clear [.ref (E.2.2.1 + a0)] gx_G1 μ (gx_eV r) gx_G1 μ' := by
  refine W_ev (by decide) (Nat.le_of_ble_eq_true rfl) (em := gx_eV) (T := f_X6_clear a0 μ) ?_ hr
  show GoW E l Y_X6_clear 1 gx_eV 0 (gx_el [.ref (E.2.2.1 + a0)]) [] μ (f_X6_clear a0 μ)
  unfold f_X6_clear
  refine W_s (s_aload_n dX6_clear_0 rfl rfl) ?_
  refine W_s (s_iconst dX6_clear_1 kci_3) ?_
  refine W_s (pfm_RX6_15 ha0 rfl dX6_clear_2) ?_
  refine W_letM (fun μ1 => ?_)
  refine W_s (s_aload_n dX6_clear_5 rfl rfl) ?_
  refine W_s (gfm_RX6_9 ha0 rfl dX6_clear_6) ?_
  refine W_s (s_iconst dX6_clear_9 kci_0) ?_
  refine W_bd (ec := gx_eV) (fun r_ μ_ hr_ => s_callS (As := [.ref _, .int _]) dX6_clear_10 Lk_RX6_19 rfl (Nat.le_of_ble_eq_true rfl) (Nat.le_of_ble_eq_true rfl) (ev_J7_fill_53178 (a0 + 1) 36 0 (Sw_1 ha0) μ1 hr_)) (fun r2 μ3 => ?_)
  exact W_r (r := ()) (f_void dX6_clear_13 rfl)

def f_X6_copyFrom (a0 : Nat) (a1 : Nat) (μ : gx_M) : Option (Unit × gx_M) := gx_lt (gx_uI μ a0 0 (μ.1 a1 0)) (fun (μ1 : gx_M) => gx_ck (gx_cpk 0 0 36 36 36 = true) (gx_lt (gx_cp μ1 (a1 + 1) (a0 + 1) ((0 : Int32).toNatClampNeg) ((0 : Int32).toNatClampNeg) ((36 : Int32).toNatClampNeg)) (fun (μ3 : gx_M) => some ((), μ3))))
theorem ev_X6_copyFrom {E : gx_E} {l : Launch} (a0 : Nat) (a1 : Nat) (ha0 : gx_Sw a0) (ha1 : gx_Sw a1) (μ : gx_M) {r : Unit} {μ' : gx_M} (hr : f_X6_copyFrom a0 a1 μ = some (r, μ')) : gEv E l 1 Y_X6_copyFrom [.ref (E.2.2.1 + a0), .ref (E.2.2.1 + a1)] gx_G1 μ (gx_eV r) gx_G1 μ' := by
  refine W_ev (by decide) (Nat.le_of_ble_eq_true rfl) (em := gx_eV) (T := f_X6_copyFrom a0 a1 μ) ?_ hr
  show GoW E l Y_X6_copyFrom 1 gx_eV 0 (gx_el [.ref (E.2.2.1 + a0), .ref (E.2.2.1 + a1)]) [] μ (f_X6_copyFrom a0 a1 μ)
  unfold f_X6_copyFrom
  refine W_s (s_aload_n dX6_copyFrom_0 rfl rfl) ?_
  refine W_s (s_aload_n dX6_copyFrom_1 rfl rfl) ?_
  refine W_s (gfm_RX6_15 ha1 rfl dX6_copyFrom_2) ?_
  refine W_s (pfm_RX6_15 ha0 rfl dX6_copyFrom_5) ?_
  refine W_letM (fun μ1 => ?_)
  refine W_s (s_aload_n dX6_copyFrom_8 rfl rfl) ?_
  refine W_s (gfm_RX6_9 ha1 rfl dX6_copyFrom_9) ?_
  refine W_s (s_iconst dX6_copyFrom_12 kci_0) ?_
  refine W_s (s_aload_n dX6_copyFrom_13 rfl rfl) ?_
  refine W_s (gfm_RX6_9 ha0 rfl dX6_copyFrom_14) ?_
  refine W_s (s_iconst dX6_copyFrom_17 kci_0) ?_
  refine W_s (s_bipush dX6_copyFrom_18 kcb_36) ?_
  refine W_ck (fun h2 => ?_)
  refine W_s (s_acopyI dX6_copyFrom_20 Lk_RX6_25 (Nat.le_of_ble_eq_true rfl) (Nat.le_of_ble_eq_true rfl) (Sw_1 ha1) (Sw_1 ha0) h2) ?_
  refine W_letM (fun μ3 => ?_)
  exact W_r (r := ()) (f_void dX6_copyFrom_23 rfl)

def L_X6_pairs_16 (μ : gx_M) (a0 : Nat) (v2_2 : Int32) (k8 : Int32 → Option Int32) : Nat → Int32 → Int32 → Option Int32
  | 0, _, _ => none
  | n + 1, v1_6, v3_7 => if (μ.1 a0 0) ≤ v3_7 then k8 v1_6 else gx_br (f_X6_worthTo a0 v2_2 v3_7 μ) (fun (r10 : Int32) => gx_br (f_X6_worthTo a0 v2_2 v2_2 μ) (fun (r11 : Int32) => gx_lt (fun (j0_17 : Int32) => L_X6_pairs_16 μ a0 v2_2 k8 n j0_17 (v3_7 + 1)) (fun J12 => if r10 ≤ r11 then J12 v1_6 else gx_br (f_X6_worthTo a0 v3_7 v2_2 μ) (fun (r14 : Int32) => gx_br (f_X6_worthTo a0 v3_7 v3_7 μ) (fun (r15 : Int32) => if r14 ≤ r15 then J12 v1_6 else J12 (v1_6 + 1))))))
def L_X6_pairs_4 (μ : gx_M) (a0 : Nat) (k3 : Int32 → Option Int32) : Nat → Int32 → Int32 → Option Int32
  | 0, _, _ => none
  | n + 1, v1_1, v2_2 => if (μ.1 a0 0) ≤ v2_2 then k3 v1_1 else gx_lt (v2_2 + 1) (fun (x5 : Int32) => L_X6_pairs_16 μ a0 v2_2 (fun (x1_19 : Int32) => L_X6_pairs_4 μ a0 k3 n x1_19 (v2_2 + 1)) 4000 v1_1 x5)
def f_X6_pairs (a0 : Nat) (μ : gx_M) : Option Int32 := L_X6_pairs_4 μ a0 (fun (x1_21 : Int32) => some x1_21) 4000 0 0
theorem okL_X6_pairs_16 {E : gx_E} {l : Launch} {μ : gx_M} {a0 : Nat} {v2_2 : Int32} (ha0 : gx_Sw a0) {k8 : Int32 → Option Int32} (hk : ∀ (w18 : Int32), GoR E l Y_X6_pairs 1 gx_eI 63 [some (.ref (E.2.2.1 + a0)), some (.int w18), some (.int v2_2)] [] μ (k8 w18)) : ∀ (n : Nat) (v1_6 : Int32) (v3_7 : Int32), GoR E l Y_X6_pairs 1 gx_eI 16 [some (.ref (E.2.2.1 + a0)), some (.int v1_6), some (.int v2_2), some (.int v3_7)] [] μ (L_X6_pairs_16 μ a0 v2_2 k8 n v1_6 v3_7) := by
  intro n
  induction n with
  | zero => intros; exact R_no
  | succ n ih =>
    intro v1_6 v3_7
    rw [L_X6_pairs_16.eq_2]
    refine R_s (s_iload_n dX6_pairs_16 rfl rfl) ?_
    refine R_s (s_aload_n dX6_pairs_17 rfl rfl) ?_
    refine R_s (gfm_RX6_15 ha0 rfl dX6_pairs_18) ?_
    refine R_ite (fun h9 => ?_) (fun h9 => ?_)
    · refine R_s (s_icmp_ge_t dX6_pairs_21 rfl h9) ?_
      exact R_wk (hk v1_6) (le_s rfl (le_s rfl (le_s rfl le_n)))
    · refine R_s (s_icmp_ge_f dX6_pairs_21 rfl h9) ?_
      refine R_s (s_aload_n dX6_pairs_24 rfl rfl) ?_
      refine R_s (s_iload_n dX6_pairs_25 rfl rfl) ?_
      refine R_s (s_iload_n dX6_pairs_26 rfl rfl) ?_
      refine R_br (ec := gx_eI) (fun r_ hr_ => s_callV (As := [.int _, .int _]) dX6_pairs_27 Lk_RX6_31 rfl (Sw_0 ha0) (by decide) rfl (Nat.le_of_ble_eq_true rfl) (Nat.le_of_ble_eq_true rfl) (ev_X6_worthTo a0 v2_2 v3_7 ha0 μ hr_)) (fun r10 => ?_)
      refine R_s (s_aload_n dX6_pairs_30 rfl rfl) ?_
      refine R_s (s_iload_n dX6_pairs_31 rfl rfl) ?_
      refine R_s (s_iload_n dX6_pairs_32 rfl rfl) ?_
      refine R_br (ec := gx_eI) (fun r_ hr_ => s_callV (As := [.int _, .int _]) dX6_pairs_33 Lk_RX6_31 rfl (Sw_0 ha0) (by decide) rfl (Nat.le_of_ble_eq_true rfl) (Nat.le_of_ble_eq_true rfl) (ev_X6_worthTo a0 v2_2 v2_2 ha0 μ hr_)) (fun r11 => ?_)
      refine R_fun (fun J => ∀ (j0_17 : Int32), GoR E l Y_X6_pairs 1 gx_eI 57 [some (.ref (E.2.2.1 + a0)), some (.int j0_17), some (.int v2_2), some (.int v3_7)] [] μ (J j0_17)) ?_ (fun J12 hJ12 => ?_)
      · intro j0_17
        refine R_s (s_iinc dX6_pairs_57 rfl (kinc_1 v3_7) (Nat.le_of_ble_eq_true rfl)) ?_
        refine R_s (s_goto dX6_pairs_60 rfl) ?_
        exact R_wk (ih j0_17 (v3_7 + 1)) (le_s rfl (le_s rfl (le_s rfl (le_s rfl le_n))))
      · skip
        refine R_ite (fun h13 => ?_) (fun h13 => ?_)
        · refine R_s (s_icmp_le_t dX6_pairs_36 rfl h13) ?_
          exact R_wk (hJ12 v1_6) (le_s rfl (le_s rfl (le_s rfl (le_s rfl le_n))))
        · refine R_s (s_icmp_le_f dX6_pairs_36 rfl h13) ?_
          refine R_s (s_aload_n dX6_pairs_39 rfl rfl) ?_
          refine R_s (s_iload_n dX6_pairs_40 rfl rfl) ?_
          refine R_s (s_iload_n dX6_pairs_41 rfl rfl) ?_
          refine R_br (ec := gx_eI) (fun r_ hr_ => s_callV (As := [.int _, .int _]) dX6_pairs_42 Lk_RX6_31 rfl (Sw_0 ha0) (by decide) rfl (Nat.le_of_ble_eq_true rfl) (Nat.le_of_ble_eq_true rfl) (ev_X6_worthTo a0 v3_7 v2_2 ha0 μ hr_)) (fun r14 => ?_)
          refine R_s (s_aload_n dX6_pairs_45 rfl rfl) ?_
          refine R_s (s_iload_n dX6_pairs_46 rfl rfl) ?_
          refine R_s (s_iload_n dX6_pairs_47 rfl rfl) ?_
          refine R_br (ec := gx_eI) (fun r_ hr_ => s_callV (As := [.int _, .int _]) dX6_pairs_48 Lk_RX6_31 rfl (Sw_0 ha0) (by decide) rfl (Nat.le_of_ble_eq_true rfl) (Nat.le_of_ble_eq_true rfl) (ev_X6_worthTo a0 v3_7 v3_7 ha0 μ hr_)) (fun r15 => ?_)
          refine R_ite (fun h16 => ?_) (fun h16 => ?_)
          · refine R_s (s_icmp_le_t dX6_pairs_51 rfl h16) ?_
            exact R_wk (hJ12 v1_6) (le_s rfl (le_s rfl (le_s rfl (le_s rfl le_n))))
          · refine R_s (s_icmp_le_f dX6_pairs_51 rfl h16) ?_
            refine R_s (s_iinc dX6_pairs_54 rfl (kinc_1 v1_6) (Nat.le_of_ble_eq_true rfl)) ?_
            exact R_wk (hJ12 (v1_6 + 1)) (le_s rfl (le_s rfl (le_s rfl (le_s rfl le_n))))
theorem okL_X6_pairs_4 {E : gx_E} {l : Launch} {μ : gx_M} {a0 : Nat} (ha0 : gx_Sw a0) {k3 : Int32 → Option Int32} (hk : ∀ (w20 : Int32), GoR E l Y_X6_pairs 1 gx_eI 69 [none, some (.int w20)] [] μ (k3 w20)) : ∀ (n : Nat) (v1_1 : Int32) (v2_2 : Int32), GoR E l Y_X6_pairs 1 gx_eI 4 [some (.ref (E.2.2.1 + a0)), some (.int v1_1), some (.int v2_2)] [] μ (L_X6_pairs_4 μ a0 k3 n v1_1 v2_2) := by
  intro n
  induction n with
  | zero => intros; exact R_no
  | succ n ih =>
    intro v1_1 v2_2
    rw [L_X6_pairs_4.eq_2]
    refine R_s (s_iload_n dX6_pairs_4 rfl rfl) ?_
    refine R_s (s_aload_n dX6_pairs_5 rfl rfl) ?_
    refine R_s (gfm_RX6_15 ha0 rfl dX6_pairs_6) ?_
    refine R_ite (fun h4 => ?_) (fun h4 => ?_)
    · refine R_s (s_icmp_ge_t dX6_pairs_9 rfl h4) ?_
      exact R_wk (hk v1_1) (le_o (le_s rfl le_n))
    · refine R_s (s_icmp_ge_f dX6_pairs_9 rfl h4) ?_
      refine R_s (s_iload_n dX6_pairs_12 rfl rfl) ?_
      refine R_s (s_iconst dX6_pairs_13 kci_1) ?_
      refine R_s (s_iadd dX6_pairs_14) ?_
      refine R_letI (fun x5 => ?_)
      refine R_s (s_istore_n dX6_pairs_15 rfl (Nat.le_of_ble_eq_true rfl)) ?_
      refine R_wk (okL_X6_pairs_16 ha0 ?_ 4000 v1_1 x5) (le_s rfl (le_s rfl (le_s rfl (le_s rfl le_n))))
      intro x1_19
      refine R_s (s_iinc dX6_pairs_63 rfl (kinc_1 v2_2) (Nat.le_of_ble_eq_true rfl)) ?_
      refine R_s (s_goto dX6_pairs_66 rfl) ?_
      exact R_wk (ih x1_19 (v2_2 + 1)) (le_s rfl (le_s rfl (le_s rfl le_n)))
theorem ev_X6_pairs {E : gx_E} {l : Launch} (a0 : Nat) (ha0 : gx_Sw a0) (μ : gx_M) {r : Int32} (hr : f_X6_pairs a0 μ = some r) : gEv E l 1 Y_X6_pairs [.ref (E.2.2.1 + a0)] gx_G1 μ (gx_eI r) gx_G1 μ := by
  refine R_ev (by decide) (Nat.le_of_ble_eq_true rfl) (em := gx_eI) (T := f_X6_pairs a0 μ) ?_ hr
  show GoR E l Y_X6_pairs 1 gx_eI 0 (gx_el [.ref (E.2.2.1 + a0)]) [] μ (f_X6_pairs a0 μ)
  unfold f_X6_pairs
  refine R_s (s_iconst dX6_pairs_0 kci_0) ?_
  refine R_s (s_istore_n dX6_pairs_1 rfl (Nat.le_of_ble_eq_true rfl)) ?_
  refine R_s (s_iconst dX6_pairs_2 kci_0) ?_
  refine R_s (s_istore_n dX6_pairs_3 rfl (Nat.le_of_ble_eq_true rfl)) ?_
  refine R_wk (okL_X6_pairs_4 ha0 ?_ 4000 0 0) (le_s rfl (le_s rfl (le_s rfl le_n)))
  intro x1_21
  refine R_s (s_iload_n dX6_pairs_69 rfl rfl) ?_
  exact R_r (r := x1_21) (f_int (ty := .int) dX6_pairs_70 rfl rfl)

def L_X7_takeFacts_12 (a1 : Nat) (n1 : Nat) (k5 : gx_M → Option (Unit × gx_M)) : Nat → Int32 → gx_M → Option (Unit × gx_M)
  | 0, _, _ => none
  | n + 1, v2_3, μ4 => if (μ4.1 a1 3) ≤ v2_3 then k5 μ4 else gx_br (f_X2_number a1 n1 v2_3 0 μ4) (fun (r7 : Int32) => gx_lt ((1 : Int64) <<< ((r7 : Int32).toInt64 &&& 63)) (fun (x8 : Int64) => gx_ck (gx_ix v2_3 n1 = true) (gx_lt (fun (μ14 : gx_M) => L_X7_takeFacts_12 a1 n1 k5 n (v2_3 + 1) μ14) (fun J10 => if (μ4.1 (a1 + 1) v2_3.toNatClampNeg) = 13 then gx_lt (gx_uL μ4 82 0 ((μ4.2 82 0) ||| x8)) (fun (μ13 : gx_M) => J10 μ13) else gx_lt (gx_uL μ4 82 1 ((μ4.2 82 1) ||| x8)) (fun (μ12 : gx_M) => J10 μ12)))))
def f_X7_takeFacts (a1 : Nat) (n1 : Nat) (μ : gx_M) : Option (Unit × gx_M) := gx_lt (gx_uL μ 82 0 0) (fun (μ1 : gx_M) => gx_lt (gx_uL μ1 82 1 0) (fun (μ2 : gx_M) => L_X7_takeFacts_12 a1 n1 (fun (μ16 : gx_M) => some ((), μ16)) 4000 0 μ2))
theorem okL_X7_takeFacts_12 {E : gx_E} {l : Launch} {a1 : Nat} {n1 : Nat} (ha1 : gx_Ln a1 n1) {k5 : gx_M → Option (Unit × gx_M)} (hk : ∀ (μ15 : gx_M), GoW E l Y_X7_takeFacts 1 gx_eV 69 [] [] μ15 (k5 μ15)) : ∀ (n : Nat) (v2_3 : Int32) (μ4 : gx_M), GoW E l Y_X7_takeFacts 1 gx_eV 12 [some (.ref (E.2.2.1 + 82)), some (.ref (E.2.2.1 + a1)), some (.int v2_3)] [] μ4 (L_X7_takeFacts_12 a1 n1 k5 n v2_3 μ4) := by
  intro n
  induction n with
  | zero => intros; exact W_no
  | succ n ih =>
    intro v2_3 μ4
    rw [L_X7_takeFacts_12.eq_2]
    refine W_s (s_iload_n dX7_takeFacts_12 rfl rfl) ?_
    refine W_s (s_aload_n dX7_takeFacts_13 rfl rfl) ?_
    refine W_s (gfm_RX7_56 ha1 rfl dX7_takeFacts_14) ?_
    refine W_ite (fun h6 => ?_) (fun h6 => ?_)
    · refine W_s (s_icmp_ge_t dX7_takeFacts_17 rfl h6) ?_
      exact W_wk (hk μ4) le_n
    · refine W_s (s_icmp_ge_f dX7_takeFacts_17 rfl h6) ?_
      refine W_s (s_lconst dX7_takeFacts_20 kcl_1) ?_
      refine W_s (s_aload_n dX7_takeFacts_21 rfl rfl) ?_
      refine W_s (s_iload_n dX7_takeFacts_22 rfl rfl) ?_
      refine W_s (s_iconst dX7_takeFacts_23 kci_0) ?_
      refine W_br (ec := gx_eI) (fun r_ hr_ => s_callV (As := [.int _, .int _]) dX7_takeFacts_24 Lk_RX7_59 rfl (Ln_0 ha1) (by decide) rfl (Nat.le_of_ble_eq_true rfl) (Nat.le_of_ble_eq_true rfl) (ev_X2_number a1 n1 v2_3 0 ha1 μ4 hr_)) (fun r7 => ?_)
      refine W_s (s_lshl dX7_takeFacts_27) ?_
      refine W_letL (fun x8 => ?_)
      refine W_s (s_lstore_n dX7_takeFacts_28 rfl (Nat.le_of_ble_eq_true rfl)) ?_
      refine W_s (s_aload_n dX7_takeFacts_29 rfl rfl) ?_
      refine W_s (gfm_RX7_63 ha1 rfl dX7_takeFacts_30) ?_
      refine W_s (s_iload_n dX7_takeFacts_33 rfl rfl) ?_
      refine W_ck (fun h9 => ?_)
      refine W_s (s_iald dX7_takeFacts_34 (Ln_1 ha1) (gx_ixv h9)) ?_
      refine W_s (s_bipush dX7_takeFacts_35 kcb_13) ?_
      refine W_fun (fun J => ∀ (μ14 : gx_M), GoW E l Y_X7_takeFacts 1 gx_eV 63 [some (.ref (E.2.2.1 + 82)), some (.ref (E.2.2.1 + a1)), some (.int v2_3)] [] μ14 (J μ14)) ?_ (fun J10 hJ10 => ?_)
      · intro μ14
        refine W_s (s_iinc dX7_takeFacts_63 rfl (kinc_1 v2_3) (Nat.le_of_ble_eq_true rfl)) ?_
        refine W_s (s_goto dX7_takeFacts_66 rfl) ?_
        exact W_wk (ih (v2_3 + 1) μ14) (le_s rfl (le_s rfl (le_s rfl le_n)))
      · skip
        refine W_ite (fun h11 => ?_) (fun h11 => ?_)
        · refine W_s (s_icmp_ne_f dX7_takeFacts_37 rfl h11) ?_
          refine W_s (s_aload_n dX7_takeFacts_40 rfl rfl) ?_
          refine W_s (s_dup dX7_takeFacts_41 rfl) ?_
          refine W_s (gf_RX7_49 rfl dX7_takeFacts_42) ?_
          refine W_s (s_lload_n dX7_takeFacts_45 rfl rfl) ?_
          refine W_s (s_lor dX7_takeFacts_46) ?_
          refine W_s (pf_RX7_49 rfl dX7_takeFacts_47) ?_
          refine W_letM (fun μ13 => ?_)
          refine W_s (s_goto dX7_takeFacts_50 rfl) ?_
          exact W_wk (hJ10 μ13) (le_s rfl (le_s rfl (le_s rfl le_n)))
        · refine W_s (s_icmp_ne_t dX7_takeFacts_37 rfl h11) ?_
          refine W_s (s_aload_n dX7_takeFacts_53 rfl rfl) ?_
          refine W_s (s_dup dX7_takeFacts_54 rfl) ?_
          refine W_s (gf_RX7_53 rfl dX7_takeFacts_55) ?_
          refine W_s (s_lload_n dX7_takeFacts_58 rfl rfl) ?_
          refine W_s (s_lor dX7_takeFacts_59) ?_
          refine W_s (pf_RX7_53 rfl dX7_takeFacts_60) ?_
          refine W_letM (fun μ12 => ?_)
          exact W_wk (hJ10 μ12) (le_s rfl (le_s rfl (le_s rfl le_n)))
theorem ev_X7_takeFacts {E : gx_E} {l : Launch} (a1 : Nat) (n1 : Nat) (ha1 : gx_Ln a1 n1) (μ : gx_M) {r : Unit} {μ' : gx_M} (hr : f_X7_takeFacts a1 n1 μ = some (r, μ')) : gEv E l 1 Y_X7_takeFacts [.ref (E.2.2.1 + 82), .ref (E.2.2.1 + a1)] gx_G1 μ (gx_eV r) gx_G1 μ' := by
  refine W_ev (by decide) (Nat.le_of_ble_eq_true rfl) (em := gx_eV) (T := f_X7_takeFacts a1 n1 μ) ?_ hr
  show GoW E l Y_X7_takeFacts 1 gx_eV 0 (gx_el [.ref (E.2.2.1 + 82), .ref (E.2.2.1 + a1)]) [] μ (f_X7_takeFacts a1 n1 μ)
  unfold f_X7_takeFacts
  refine W_s (s_aload_n dX7_takeFacts_0 rfl rfl) ?_
  refine W_s (s_lconst dX7_takeFacts_1 kcl_0) ?_
  refine W_s (pf_RX7_49 rfl dX7_takeFacts_2) ?_
  refine W_letM (fun μ1 => ?_)
  refine W_s (s_aload_n dX7_takeFacts_5 rfl rfl) ?_
  refine W_s (s_lconst dX7_takeFacts_6 kcl_0) ?_
  refine W_s (pf_RX7_53 rfl dX7_takeFacts_7) ?_
  refine W_letM (fun μ2 => ?_)
  refine W_s (s_iconst dX7_takeFacts_10 kci_0) ?_
  refine W_s (s_istore_n dX7_takeFacts_11 rfl (Nat.le_of_ble_eq_true rfl)) ?_
  refine W_wk (okL_X7_takeFacts_12 ha1 ?_ 4000 0 μ2) (le_s rfl (le_s rfl (le_s rfl le_n)))
  intro μ16
  exact W_r (r := ()) (f_void dX7_takeFacts_69 rfl)

def L_X7_takeRow_82 (p2 : Int32) (k23 : gx_M → Option (Unit × gx_M)) : Nat → Int32 → gx_M → Option (Unit × gx_M)
  | 0, _, _ => none
  | n + 1, v3_21, μ22 => if p2 < v3_21 then k23 μ22 else gx_ck (gx_ix v3_21 40 = true) (gx_lt (gx_uI μ22 83 v3_21.toNatClampNeg ((μ22.1 83 v3_21.toNatClampNeg) + 1)) (fun (μ26 : gx_M) => L_X7_takeRow_82 p2 k23 n (v3_21 + 1) μ26))
def f_X7_takeRow (p1 : Int32) (p2 : Int32) (μ : gx_M) : Option (Unit × gx_M) := gx_lt (fun (j0_6 : Int32) (μ7 : gx_M) => gx_lt (gx_uI μ7 82 4 j0_6) (fun (μ8 : gx_M) => gx_lt (fun (j0_14 : Int32) (μ15 : gx_M) => gx_lt (gx_uI μ15 82 5 j0_14) (fun (μ16 : gx_M) => gx_lt (if ((p2 - p1) + 1) < (μ16.1 82 6) then ((p2 - p1) + 1) else (μ16.1 82 6)) (fun (x17 : Int32) => gx_lt (gx_uI μ16 82 6 x17) (fun (μ18 : gx_M) => gx_lt (if (μ18.1 82 7) < ((p2 - p1) + 1) then ((p2 - p1) + 1) else (μ18.1 82 7)) (fun (x19 : Int32) => gx_lt (gx_uI μ18 82 7 x19) (fun (μ20 : gx_M) => L_X7_takeRow_82 p2 (fun (μ28 : gx_M) => gx_lt (gx_uI μ28 82 3 ((μ28.1 82 3) + 1)) (fun (μ29 : gx_M) => some ((), μ29))) 4000 p1 μ20)))))) (fun J9 => gx_lt (fun (μ13 : gx_M) => J9 p2 μ13) (fun J10 => if (μ8.1 82 3) = 0 then J10 μ8 else if (μ8.1 82 5) = p2 then J10 μ8 else J9 (-1) μ8)))) (fun J1 => gx_lt (fun (μ5 : gx_M) => J1 p1 μ5) (fun J2 => if (μ.1 82 3) = 0 then J2 μ else if (μ.1 82 4) = p1 then J2 μ else J1 (-1) μ))
theorem okL_X7_takeRow_82 {E : gx_E} {l : Launch} {p2 : Int32} {k23 : gx_M → Option (Unit × gx_M)} (hk : ∀ (μ27 : gx_M), GoW E l Y_X7_takeRow 1 gx_eV 103 [some (.ref (E.2.2.1 + 82))] [] μ27 (k23 μ27)) : ∀ (n : Nat) (v3_21 : Int32) (μ22 : gx_M), GoW E l Y_X7_takeRow 1 gx_eV 82 [some (.ref (E.2.2.1 + 82)), none, some (.int p2), some (.int v3_21)] [] μ22 (L_X7_takeRow_82 p2 k23 n v3_21 μ22) := by
  intro n
  induction n with
  | zero => intros; exact W_no
  | succ n ih =>
    intro v3_21 μ22
    rw [L_X7_takeRow_82.eq_2]
    refine W_s (s_iload_n dX7_takeRow_82 rfl rfl) ?_
    refine W_s (s_iload_n dX7_takeRow_83 rfl rfl) ?_
    refine W_ite (fun h24 => ?_) (fun h24 => ?_)
    · refine W_s (s_icmp_gt_t dX7_takeRow_84 rfl h24) ?_
      exact W_wk (hk μ22) (le_s rfl le_n)
    · refine W_s (s_icmp_gt_f dX7_takeRow_84 rfl h24) ?_
      refine W_s (s_aload_n dX7_takeRow_87 rfl rfl) ?_
      refine W_s (gf_RX7_9 rfl dX7_takeRow_88) ?_
      refine W_s (s_iload_n dX7_takeRow_91 rfl rfl) ?_
      refine W_s (s_dup2 dX7_takeRow_92 rfl rfl) ?_
      refine W_ck (fun h25 => ?_)
      refine W_s (s_iald dX7_takeRow_93 g_83 (gx_ixv h25)) ?_
      refine W_s (s_iconst dX7_takeRow_94 kci_1) ?_
      refine W_s (s_iadd dX7_takeRow_95) ?_
      refine W_s (s_iast dX7_takeRow_96 g_83 (gx_ixv h25)) ?_
      refine W_letM (fun μ26 => ?_)
      refine W_s (s_iinc dX7_takeRow_97 rfl (kinc_1 v3_21) (Nat.le_of_ble_eq_true rfl)) ?_
      refine W_s (s_goto dX7_takeRow_100 rfl) ?_
      exact W_wk (ih (v3_21 + 1) μ26) (le_s rfl (le_o (le_s rfl (le_s rfl le_n))))
theorem ev_X7_takeRow {E : gx_E} {l : Launch} (p1 : Int32) (p2 : Int32) (μ : gx_M) {r : Unit} {μ' : gx_M} (hr : f_X7_takeRow p1 p2 μ = some (r, μ')) : gEv E l 1 Y_X7_takeRow [.ref (E.2.2.1 + 82), .int p1, .int p2] gx_G1 μ (gx_eV r) gx_G1 μ' := by
  refine W_ev (by decide) (Nat.le_of_ble_eq_true rfl) (em := gx_eV) (T := f_X7_takeRow p1 p2 μ) ?_ hr
  show GoW E l Y_X7_takeRow 1 gx_eV 0 (gx_el [.ref (E.2.2.1 + 82), .int p1, .int p2]) [] μ (f_X7_takeRow p1 p2 μ)
  unfold f_X7_takeRow
  refine W_s (s_aload_n dX7_takeRow_0 rfl rfl) ?_
  refine W_s (s_aload_n dX7_takeRow_1 rfl rfl) ?_
  refine W_s (gf_RX7_19 rfl dX7_takeRow_2) ?_
  refine W_fun (fun J => ∀ (j0_6 : Int32) (μ7 : gx_M), GoW E l Y_X7_takeRow 1 gx_eV 21 [some (.ref (E.2.2.1 + 82)), some (.int p1), some (.int p2)] [.int j0_6, .ref (E.2.2.1 + 82)] μ7 (J j0_6 μ7)) ?_ (fun J1 hJ1 => ?_)
  · intro j0_6 μ7
    refine W_s (pf_RX7_23 rfl dX7_takeRow_21) ?_
    refine W_letM (fun μ8 => ?_)
    refine W_s (s_aload_n dX7_takeRow_24 rfl rfl) ?_
    refine W_s (s_aload_n dX7_takeRow_25 rfl rfl) ?_
    refine W_s (gf_RX7_19 rfl dX7_takeRow_26) ?_
    refine W_fun (fun J => ∀ (j0_14 : Int32) (μ15 : gx_M), GoW E l Y_X7_takeRow 1 gx_eV 45 [some (.ref (E.2.2.1 + 82)), some (.int p1), some (.int p2)] [.int j0_14, .ref (E.2.2.1 + 82)] μ15 (J j0_14 μ15)) ?_ (fun J9 hJ9 => ?_)
    · intro j0_14 μ15
      refine W_s (pf_RX7_26 rfl dX7_takeRow_45) ?_
      refine W_letM (fun μ16 => ?_)
      refine W_s (s_aload_n dX7_takeRow_48 rfl rfl) ?_
      refine W_s (s_aload_n dX7_takeRow_49 rfl rfl) ?_
      refine W_s (gf_RX7_29 rfl dX7_takeRow_50) ?_
      refine W_s (s_iload_n dX7_takeRow_53 rfl rfl) ?_
      refine W_s (s_iload_n dX7_takeRow_54 rfl rfl) ?_
      refine W_s (s_isub dX7_takeRow_55) ?_
      refine W_s (s_iconst dX7_takeRow_56 kci_1) ?_
      refine W_s (s_iadd dX7_takeRow_57) ?_
      refine W_s (s_mmin dX7_takeRow_58 Lk_RX7_68 (Nat.le_of_ble_eq_true rfl) (Nat.le_of_ble_eq_true rfl)) ?_
      refine W_letI (fun x17 => ?_)
      refine W_s (pf_RX7_29 rfl dX7_takeRow_61) ?_
      refine W_letM (fun μ18 => ?_)
      refine W_s (s_aload_n dX7_takeRow_64 rfl rfl) ?_
      refine W_s (s_aload_n dX7_takeRow_65 rfl rfl) ?_
      refine W_s (gf_RX7_32 rfl dX7_takeRow_66) ?_
      refine W_s (s_iload_n dX7_takeRow_69 rfl rfl) ?_
      refine W_s (s_iload_n dX7_takeRow_70 rfl rfl) ?_
      refine W_s (s_isub dX7_takeRow_71) ?_
      refine W_s (s_iconst dX7_takeRow_72 kci_1) ?_
      refine W_s (s_iadd dX7_takeRow_73) ?_
      refine W_s (s_mmax dX7_takeRow_74 Lk_RX7_73 (Nat.le_of_ble_eq_true rfl) (Nat.le_of_ble_eq_true rfl)) ?_
      refine W_letI (fun x19 => ?_)
      refine W_s (pf_RX7_32 rfl dX7_takeRow_77) ?_
      refine W_letM (fun μ20 => ?_)
      refine W_s (s_iload_n dX7_takeRow_80 rfl rfl) ?_
      refine W_s (s_istore_n dX7_takeRow_81 rfl (Nat.le_of_ble_eq_true rfl)) ?_
      refine W_wk (okL_X7_takeRow_82 ?_ 4000 p1 μ20) (le_s rfl (le_o (le_s rfl (le_s rfl le_n))))
      intro μ28
      refine W_s (s_aload_n dX7_takeRow_103 rfl rfl) ?_
      refine W_s (s_dup dX7_takeRow_104 rfl) ?_
      refine W_s (gf_RX7_19 rfl dX7_takeRow_105) ?_
      refine W_s (s_iconst dX7_takeRow_108 kci_1) ?_
      refine W_s (s_iadd dX7_takeRow_109) ?_
      refine W_s (pf_RX7_19 rfl dX7_takeRow_110) ?_
      refine W_letM (fun μ29 => ?_)
      exact W_r (r := ()) (f_void dX7_takeRow_113 rfl)
    · skip
      refine W_fun (fun J => ∀ (μ13 : gx_M), GoW E l Y_X7_takeRow 1 gx_eV 40 [some (.ref (E.2.2.1 + 82)), some (.int p1), some (.int p2)] [.ref (E.2.2.1 + 82)] μ13 (J μ13)) ?_ (fun J10 hJ10 => ?_)
      · intro μ13
        refine W_s (s_iload_n dX7_takeRow_40 rfl rfl) ?_
        refine W_s (s_goto dX7_takeRow_41 rfl) ?_
        exact W_wk (hJ9 p2 μ13) (le_s rfl (le_s rfl (le_s rfl le_n)))
      · skip
        refine W_ite (fun h11 => ?_) (fun h11 => ?_)
        · refine W_s (s_if_eq_t dX7_takeRow_29 rfl h11) ?_
          exact W_wk (hJ10 μ8) (le_s rfl (le_s rfl (le_s rfl le_n)))
        · refine W_s (s_if_eq_f dX7_takeRow_29 rfl h11) ?_
          refine W_s (s_aload_n dX7_takeRow_32 rfl rfl) ?_
          refine W_s (gf_RX7_26 rfl dX7_takeRow_33) ?_
          refine W_s (s_iload_n dX7_takeRow_36 rfl rfl) ?_
          refine W_ite (fun h12 => ?_) (fun h12 => ?_)
          · refine W_s (s_icmp_ne_f dX7_takeRow_37 rfl h12) ?_
            exact W_wk (hJ10 μ8) (le_s rfl (le_s rfl (le_s rfl le_n)))
          · refine W_s (s_icmp_ne_t dX7_takeRow_37 rfl h12) ?_
            refine W_s (s_iconst dX7_takeRow_44 kci_m1) ?_
            exact W_wk (hJ9 (-1) μ8) (le_s rfl (le_s rfl (le_s rfl le_n)))
  · skip
    refine W_fun (fun J => ∀ (μ5 : gx_M), GoW E l Y_X7_takeRow 1 gx_eV 16 [some (.ref (E.2.2.1 + 82)), some (.int p1), some (.int p2)] [.ref (E.2.2.1 + 82)] μ5 (J μ5)) ?_ (fun J2 hJ2 => ?_)
    · intro μ5
      refine W_s (s_iload_n dX7_takeRow_16 rfl rfl) ?_
      refine W_s (s_goto dX7_takeRow_17 rfl) ?_
      exact W_wk (hJ1 p1 μ5) (le_s rfl (le_s rfl (le_s rfl le_n)))
    · skip
      refine W_ite (fun h3 => ?_) (fun h3 => ?_)
      · refine W_s (s_if_eq_t dX7_takeRow_5 rfl h3) ?_
        exact W_wk (hJ2 μ) (le_s rfl (le_s rfl (le_s rfl le_n)))
      · refine W_s (s_if_eq_f dX7_takeRow_5 rfl h3) ?_
        refine W_s (s_aload_n dX7_takeRow_8 rfl rfl) ?_
        refine W_s (gf_RX7_23 rfl dX7_takeRow_9) ?_
        refine W_s (s_iload_n dX7_takeRow_12 rfl rfl) ?_
        refine W_ite (fun h4 => ?_) (fun h4 => ?_)
        · refine W_s (s_icmp_ne_f dX7_takeRow_13 rfl h4) ?_
          exact W_wk (hJ2 μ) (le_s rfl (le_s rfl (le_s rfl le_n)))
        · refine W_s (s_icmp_ne_t dX7_takeRow_13 rfl h4) ?_
          refine W_s (s_iconst dX7_takeRow_20 kci_m1) ?_
          exact W_wk (hJ1 (-1) μ) (le_s rfl (le_s rfl (le_s rfl le_n)))

def L_X7_seek_9 (μ : gx_M) (k5 : Int32 → Option Int32) : Nat → Int32 → Int32 → Int32 → Option Int32
  | 0, _, _, _ => none
  | n + 1, v1_2, v2_3, v3_4 => if 40 ≤ v3_4 then k5 v1_2 else if (μ.1 82 3) ≤ 0 then k5 v1_2 else gx_ck (gx_ix v3_4 40 = true) (gx_lt (if (μ.1 83 v3_4.toNatClampNeg) < ((μ.1 82 3) - (μ.1 83 v3_4.toNatClampNeg)) then ((μ.1 82 3) - (μ.1 83 v3_4.toNatClampNeg)) else (μ.1 83 v3_4.toNatClampNeg)) (fun (x9 : Int32) => gx_lt (fun (j0_14 : Int32) (j1_15 : Int32) => L_X7_seek_9 μ k5 n j0_14 j1_15 (v3_4 + 1)) (fun J10 => gx_lt (J10 v3_4 x9) (fun J11 => if v1_2 = (-1) then J11 else if v2_3 ≤ x9 then J10 v1_2 v2_3 else J11))))
def f_X7_seek (μ : gx_M) : Option Int32 := gx_lt (μ.1 82 3) (fun (x1 : Int32) => L_X7_seek_9 μ (fun (x1_17 : Int32) => some x1_17) 4000 (-1) x1 0)
theorem okL_X7_seek_9 {E : gx_E} {l : Launch} {μ : gx_M} {k5 : Int32 → Option Int32} (hk : ∀ (w16 : Int32), GoR E l Y_X7_seek 1 gx_eI 66 [none, some (.int w16)] [] μ (k5 w16)) : ∀ (n : Nat) (v1_2 : Int32) (v2_3 : Int32) (v3_4 : Int32), GoR E l Y_X7_seek 1 gx_eI 9 [some (.ref (E.2.2.1 + 82)), some (.int v1_2), some (.int v2_3), some (.int v3_4)] [] μ (L_X7_seek_9 μ k5 n v1_2 v2_3 v3_4) := by
  intro n
  induction n with
  | zero => intros; exact R_no
  | succ n ih =>
    intro v1_2 v2_3 v3_4
    rw [L_X7_seek_9.eq_2]
    refine R_s (s_iload_n dX7_seek_9 rfl rfl) ?_
    refine R_s (s_bipush dX7_seek_10 kcb_40) ?_
    refine R_ite (fun h6 => ?_) (fun h6 => ?_)
    · refine R_s (s_icmp_ge_t dX7_seek_12 rfl h6) ?_
      exact R_wk (hk v1_2) (le_o (le_s rfl le_n))
    · refine R_s (s_icmp_ge_f dX7_seek_12 rfl h6) ?_
      refine R_s (s_aload_n dX7_seek_15 rfl rfl) ?_
      refine R_s (gf_RX7_19 rfl dX7_seek_16) ?_
      refine R_ite (fun h7 => ?_) (fun h7 => ?_)
      · refine R_s (s_if_le_t dX7_seek_19 rfl h7) ?_
        exact R_wk (hk v1_2) (le_o (le_s rfl le_n))
      · refine R_s (s_if_le_f dX7_seek_19 rfl h7) ?_
        refine R_s (s_aload_n dX7_seek_22 rfl rfl) ?_
        refine R_s (gf_RX7_9 rfl dX7_seek_23) ?_
        refine R_s (s_iload_n dX7_seek_26 rfl rfl) ?_
        refine R_ck (fun h8 => ?_)
        refine R_s (s_iald dX7_seek_27 g_83 (gx_ixv h8)) ?_
        refine R_s (s_aload_n dX7_seek_28 rfl rfl) ?_
        refine R_s (gf_RX7_19 rfl dX7_seek_29) ?_
        refine R_s (s_aload_n dX7_seek_32 rfl rfl) ?_
        refine R_s (gf_RX7_9 rfl dX7_seek_33) ?_
        refine R_s (s_iload_n dX7_seek_36 rfl rfl) ?_
        refine R_s (s_iald dX7_seek_37 g_83 (gx_ixv h8)) ?_
        refine R_s (s_isub dX7_seek_38) ?_
        refine R_s (s_mmax dX7_seek_39 Lk_RX7_73 (Nat.le_of_ble_eq_true rfl) (Nat.le_of_ble_eq_true rfl)) ?_
        refine R_letI (fun x9 => ?_)
        refine R_s (s_istore dX7_seek_42 (Nat.le_of_ble_eq_true rfl)) ?_
        refine R_s (s_iload_n dX7_seek_44 rfl rfl) ?_
        refine R_s (s_iconst dX7_seek_45 kci_m1) ?_
        refine R_fun (fun J => ∀ (j0_14 : Int32) (j1_15 : Int32), GoR E l Y_X7_seek 1 gx_eI 60 [some (.ref (E.2.2.1 + 82)), some (.int j0_14), some (.int j1_15), some (.int v3_4)] [] μ (J j0_14 j1_15)) ?_ (fun J10 hJ10 => ?_)
        · intro j0_14 j1_15
          refine R_s (s_iinc dX7_seek_60 rfl (kinc_1 v3_4) (Nat.le_of_ble_eq_true rfl)) ?_
          refine R_s (s_goto dX7_seek_63 rfl) ?_
          exact R_wk (ih j0_14 j1_15 (v3_4 + 1)) (le_s rfl (le_s rfl (le_s rfl (le_s rfl le_n))))
        · skip
          refine R_fun (fun J => GoR E l Y_X7_seek 1 gx_eI 55 [some (.ref (E.2.2.1 + 82)), none, none, some (.int v3_4), some (.int x9)] [] μ (J)) ?_ (fun J11 hJ11 => ?_)
          · skip
            refine R_s (s_iload_n dX7_seek_55 rfl rfl) ?_
            refine R_s (s_istore_n dX7_seek_56 rfl (Nat.le_of_ble_eq_true rfl)) ?_
            refine R_s (s_iload dX7_seek_57 rfl) ?_
            refine R_s (s_istore_n dX7_seek_59 rfl (Nat.le_of_ble_eq_true rfl)) ?_
            exact R_wk (hJ10 v3_4 x9) (le_s rfl (le_s rfl (le_s rfl (le_s rfl le_n))))
          · skip
            refine R_ite (fun h12 => ?_) (fun h12 => ?_)
            · refine R_s (s_icmp_eq_t dX7_seek_46 rfl h12) ?_
              exact R_wk (hJ11) (le_s rfl (le_o (le_o (le_s rfl (le_s rfl le_n)))))
            · refine R_s (s_icmp_eq_f dX7_seek_46 rfl h12) ?_
              refine R_s (s_iload dX7_seek_49 rfl) ?_
              refine R_s (s_iload_n dX7_seek_51 rfl rfl) ?_
              refine R_ite (fun h13 => ?_) (fun h13 => ?_)
              · refine R_s (s_icmp_ge_t dX7_seek_52 rfl h13) ?_
                exact R_wk (hJ10 v1_2 v2_3) (le_s rfl (le_s rfl (le_s rfl (le_s rfl le_n))))
              · refine R_s (s_icmp_ge_f dX7_seek_52 rfl h13) ?_
                exact R_wk (hJ11) (le_s rfl (le_o (le_o (le_s rfl (le_s rfl le_n)))))
theorem ev_X7_seek {E : gx_E} {l : Launch} (μ : gx_M) {r : Int32} (hr : f_X7_seek μ = some r) : gEv E l 1 Y_X7_seek [.ref (E.2.2.1 + 82)] gx_G1 μ (gx_eI r) gx_G1 μ := by
  refine R_ev (by decide) (Nat.le_of_ble_eq_true rfl) (em := gx_eI) (T := f_X7_seek μ) ?_ hr
  show GoR E l Y_X7_seek 1 gx_eI 0 (gx_el [.ref (E.2.2.1 + 82)]) [] μ (f_X7_seek μ)
  unfold f_X7_seek
  refine R_s (s_iconst dX7_seek_0 kci_m1) ?_
  refine R_s (s_istore_n dX7_seek_1 rfl (Nat.le_of_ble_eq_true rfl)) ?_
  refine R_s (s_aload_n dX7_seek_2 rfl rfl) ?_
  refine R_s (gf_RX7_19 rfl dX7_seek_3) ?_
  refine R_letI (fun x1 => ?_)
  refine R_s (s_istore_n dX7_seek_6 rfl (Nat.le_of_ble_eq_true rfl)) ?_
  refine R_s (s_iconst dX7_seek_7 kci_0) ?_
  refine R_s (s_istore_n dX7_seek_8 rfl (Nat.le_of_ble_eq_true rfl)) ?_
  refine R_wk (okL_X7_seek_9 ?_ 4000 (-1) x1 0) (le_s rfl (le_s rfl (le_s rfl (le_s rfl le_n))))
  intro x1_17
  refine R_s (s_iload_n dX7_seek_66 rfl rfl) ?_
  exact R_r (r := x1_17) (f_int (ty := .int) dX7_seek_67 rfl rfl)

def L_X7_codeAt_13 (v3_2 : Int32) (μ : gx_M) (p1 : Int32) (k7 : Int32 → Option Int32) : Nat → Int32 → Int32 → Option Int32
  | 0, _, _ => none
  | n + 1, v2_5, v4_6 => if 40 ≤ v4_6 then k7 v2_5 else gx_lt (fun (j0_12 : Int32) => L_X7_codeAt_13 v3_2 μ p1 k7 n j0_12 (v4_6 + 1)) (fun J9 => if (f_X7_agrees v3_2 v4_6 μ) = true then if v2_5 = p1 then some ((v3_2 * 40) + v4_6) else J9 (v2_5 + 1) else J9 v2_5)
def L_X7_codeAt_4 (μ : gx_M) (p1 : Int32) (k3 : Option Int32) : Nat → Int32 → Int32 → Option Int32
  | 0, _, _ => none
  | n + 1, v2_1, v3_2 => if 40 ≤ v3_2 then k3 else L_X7_codeAt_13 v3_2 μ p1 (fun (x2_14 : Int32) => L_X7_codeAt_4 μ p1 k3 n x2_14 (v3_2 + 1)) 4000 v2_1 v3_2
def f_X7_codeAt (p1 : Int32) (μ : gx_M) : Option Int32 := L_X7_codeAt_4 μ p1 (some (-2)) 4000 0 0
theorem okL_X7_codeAt_13 {E : gx_E} {l : Launch} {v3_2 : Int32} {μ : gx_M} {p1 : Int32} {k7 : Int32 → Option Int32} (hk : ∀ (w13 : Int32), GoR E l Y_X7_codeAt 1 gx_eI 52 [some (.ref (E.2.2.1 + 82)), some (.int p1), some (.int w13), some (.int v3_2)] [] μ (k7 w13)) : ∀ (n : Nat) (v2_5 : Int32) (v4_6 : Int32), GoR E l Y_X7_codeAt 1 gx_eI 13 [some (.ref (E.2.2.1 + 82)), some (.int p1), some (.int v2_5), some (.int v3_2), some (.int v4_6)] [] μ (L_X7_codeAt_13 v3_2 μ p1 k7 n v2_5 v4_6) := by
  intro n
  induction n with
  | zero => intros; exact R_no
  | succ n ih =>
    intro v2_5 v4_6
    rw [L_X7_codeAt_13.eq_2]
    refine R_s (s_iload dX7_codeAt_13 rfl) ?_
    refine R_s (s_bipush dX7_codeAt_15 kcb_40) ?_
    refine R_ite (fun h8 => ?_) (fun h8 => ?_)
    · refine R_s (s_icmp_ge_t dX7_codeAt_17 rfl h8) ?_
      exact R_wk (hk v2_5) (le_s rfl (le_s rfl (le_s rfl (le_s rfl le_n))))
    · refine R_s (s_icmp_ge_f dX7_codeAt_17 rfl h8) ?_
      refine R_s (s_aload_n dX7_codeAt_20 rfl rfl) ?_
      refine R_s (s_iload_n dX7_codeAt_21 rfl rfl) ?_
      refine R_s (s_iload dX7_codeAt_22 rfl) ?_
      refine R_s (s_callV (As := [.int _, .int _]) dX7_codeAt_24 Lk_RX7_41 rfl g_82 (by decide) rfl (Nat.le_of_ble_eq_true rfl) (Nat.le_of_ble_eq_true rfl) (ev_X7_agrees v3_2 v4_6 μ)) ?_
      refine R_fun (fun J => ∀ (j0_12 : Int32), GoR E l Y_X7_codeAt 1 gx_eI 46 [some (.ref (E.2.2.1 + 82)), some (.int p1), some (.int j0_12), some (.int v3_2), some (.int v4_6)] [] μ (J j0_12)) ?_ (fun J9 hJ9 => ?_)
      · intro j0_12
        refine R_s (s_iinc dX7_codeAt_46 rfl (kinc_1 v4_6) (Nat.le_of_ble_eq_true rfl)) ?_
        refine R_s (s_goto dX7_codeAt_49 rfl) ?_
        exact R_wk (ih j0_12 (v4_6 + 1)) (le_s rfl (le_s rfl (le_s rfl (le_s rfl (le_s rfl le_n)))))
      · skip
        refine R_ite (fun h10 => ?_) (fun h10 => ?_)
        · refine R_s (s_if_eq_f dX7_codeAt_27 rfl (gx_bt h10)) ?_
          refine R_s (s_iload_n dX7_codeAt_30 rfl rfl) ?_
          refine R_s (s_iload_n dX7_codeAt_31 rfl rfl) ?_
          refine R_ite (fun h11 => ?_) (fun h11 => ?_)
          · refine R_s (s_icmp_ne_f dX7_codeAt_32 rfl h11) ?_
            refine R_s (s_iload_n dX7_codeAt_35 rfl rfl) ?_
            refine R_s (s_bipush dX7_codeAt_36 kcb_40) ?_
            refine R_s (s_imul dX7_codeAt_38) ?_
            refine R_s (s_iload dX7_codeAt_39 rfl) ?_
            refine R_s (s_iadd dX7_codeAt_41) ?_
            exact R_r (r := ((v3_2 * 40) + v4_6)) (f_int (ty := .int) dX7_codeAt_42 rfl rfl)
          · refine R_s (s_icmp_ne_t dX7_codeAt_32 rfl h11) ?_
            refine R_s (s_iinc dX7_codeAt_43 rfl (kinc_1 v2_5) (Nat.le_of_ble_eq_true rfl)) ?_
            exact R_wk (hJ9 (v2_5 + 1)) (le_s rfl (le_s rfl (le_s rfl (le_s rfl (le_s rfl le_n)))))
        · refine R_s (s_if_eq_t dX7_codeAt_27 rfl (gx_bf h10)) ?_
          exact R_wk (hJ9 v2_5) (le_s rfl (le_s rfl (le_s rfl (le_s rfl (le_s rfl le_n)))))
theorem okL_X7_codeAt_4 {E : gx_E} {l : Launch} {μ : gx_M} {p1 : Int32} {k3 : Option Int32} (hk : GoR E l Y_X7_codeAt 1 gx_eI 58 [] [] μ (k3)) : ∀ (n : Nat) (v2_1 : Int32) (v3_2 : Int32), GoR E l Y_X7_codeAt 1 gx_eI 4 [some (.ref (E.2.2.1 + 82)), some (.int p1), some (.int v2_1), some (.int v3_2)] [] μ (L_X7_codeAt_4 μ p1 k3 n v2_1 v3_2) := by
  intro n
  induction n with
  | zero => intros; exact R_no
  | succ n ih =>
    intro v2_1 v3_2
    rw [L_X7_codeAt_4.eq_2]
    refine R_s (s_iload_n dX7_codeAt_4 rfl rfl) ?_
    refine R_s (s_bipush dX7_codeAt_5 kcb_40) ?_
    refine R_ite (fun h4 => ?_) (fun h4 => ?_)
    · refine R_s (s_icmp_ge_t dX7_codeAt_7 rfl h4) ?_
      exact R_wk (hk) le_n
    · refine R_s (s_icmp_ge_f dX7_codeAt_7 rfl h4) ?_
      refine R_s (s_iload_n dX7_codeAt_10 rfl rfl) ?_
      refine R_s (s_istore dX7_codeAt_11 (Nat.le_of_ble_eq_true rfl)) ?_
      refine R_wk (okL_X7_codeAt_13 ?_ 4000 v2_1 v3_2) (le_s rfl (le_s rfl (le_s rfl (le_s rfl (le_s rfl le_n)))))
      intro x2_14
      refine R_s (s_iinc dX7_codeAt_52 rfl (kinc_1 v3_2) (Nat.le_of_ble_eq_true rfl)) ?_
      refine R_s (s_goto dX7_codeAt_55 rfl) ?_
      exact R_wk (ih x2_14 (v3_2 + 1)) (le_s rfl (le_s rfl (le_s rfl (le_s rfl le_n))))
theorem ev_X7_codeAt {E : gx_E} {l : Launch} (p1 : Int32) (μ : gx_M) {r : Int32} (hr : f_X7_codeAt p1 μ = some r) : gEv E l 1 Y_X7_codeAt [.ref (E.2.2.1 + 82), .int p1] gx_G1 μ (gx_eI r) gx_G1 μ := by
  refine R_ev (by decide) (Nat.le_of_ble_eq_true rfl) (em := gx_eI) (T := f_X7_codeAt p1 μ) ?_ hr
  show GoR E l Y_X7_codeAt 1 gx_eI 0 (gx_el [.ref (E.2.2.1 + 82), .int p1]) [] μ (f_X7_codeAt p1 μ)
  unfold f_X7_codeAt
  refine R_s (s_iconst dX7_codeAt_0 kci_0) ?_
  refine R_s (s_istore_n dX7_codeAt_1 rfl (Nat.le_of_ble_eq_true rfl)) ?_
  refine R_s (s_iconst dX7_codeAt_2 kci_0) ?_
  refine R_s (s_istore_n dX7_codeAt_3 rfl (Nat.le_of_ble_eq_true rfl)) ?_
  refine R_wk (okL_X7_codeAt_4 ?_ 4000 0 0) (le_s rfl (le_s rfl (le_s rfl (le_s rfl le_n))))
  refine R_s (s_bipush dX7_codeAt_58 kcb_m2) ?_
  exact R_r (r := (-2)) (f_int (ty := .int) dX7_codeAt_60 rfl rfl)

def f_X8_start (μ : gx_M) : Option (Unit × gx_M) := gx_ck (gx_cpk 0 0 600 600 600 = true) (gx_ck (gx_fitB μ 7 ((0 : Int32).toNatClampNeg) ((600 : Int32).toNatClampNeg) = true) (gx_lt (gx_cp μ 7 44 ((0 : Int32).toNatClampNeg) ((0 : Int32).toNatClampNeg) ((600 : Int32).toNatClampNeg)) (fun (μ3 : gx_M) => gx_lt (gx_uI μ3 43 1 (μ3.1 1 6)) (fun (μ4 : gx_M) => gx_lt (gx_uI μ4 43 2 0) (fun (μ5 : gx_M) => some ((), μ5))))))
theorem ev_X8_start {E : gx_E} {l : Launch} (μ : gx_M) {r : Unit} {μ' : gx_M} (hr : f_X8_start μ = some (r, μ')) : gEv E l 1 Y_X8_start [.ref (E.2.2.1 + 43), .ref (E.2.2.1 + 1)] gx_G1 μ (gx_eV r) gx_G1 μ' := by
  refine W_ev (by decide) (Nat.le_of_ble_eq_true rfl) (em := gx_eV) (T := f_X8_start μ) ?_ hr
  show GoW E l Y_X8_start 1 gx_eV 0 (gx_el [.ref (E.2.2.1 + 43), .ref (E.2.2.1 + 1)]) [] μ (f_X8_start μ)
  unfold f_X8_start
  refine W_s (s_aload_n dX8_start_0 rfl rfl) ?_
  refine W_s (gf_RX8_15 rfl dX8_start_1) ?_
  refine W_s (s_iconst dX8_start_4 kci_0) ?_
  refine W_s (s_aload_n dX8_start_5 rfl rfl) ?_
  refine W_s (gf_RX8_9 rfl dX8_start_6) ?_
  refine W_s (s_iconst dX8_start_9 kci_0) ?_
  refine W_s (s_sipush dX8_start_10 kcs_600) ?_
  refine W_ck (fun h1 => ?_)
  refine W_ck (fun h2 => ?_)
  refine W_s (s_acopyB dX8_start_13 Lk_RX8_20 (Nat.le_of_ble_eq_true rfl) (Nat.le_of_ble_eq_true rfl) g_7 g_44 h1 h2) ?_
  refine W_letM (fun μ3 => ?_)
  refine W_s (s_aload_n dX8_start_16 rfl rfl) ?_
  refine W_s (s_aload_n dX8_start_17 rfl rfl) ?_
  refine W_s (gf_RX8_26 rfl dX8_start_18) ?_
  refine W_s (pf_RX8_30 rfl dX8_start_21) ?_
  refine W_letM (fun μ4 => ?_)
  refine W_s (s_aload_n dX8_start_24 rfl rfl) ?_
  refine W_s (s_iconst dX8_start_25 kci_0) ?_
  refine W_s (pf_RX8_31 rfl dX8_start_26) ?_
  refine W_letM (fun μ5 => ?_)
  exact W_r (r := ()) (f_void dX8_start_29 rfl)

def L_X8_takeWord_0 (k2 : gx_M → Option (Unit × gx_M)) : Nat → gx_M → Option (Unit × gx_M)
  | 0, _ => none
  | n + 1, μ1 => if (μ1.1 43 1) ≤ (μ1.1 43 2) then k2 μ1 else gx_ck (gx_ix (μ1.1 43 2) 600 = true) (if (f_X8_isLetter (μ1.1 44 (μ1.1 43 2).toNatClampNeg)) = true then gx_lt (gx_uI μ1 43 2 ((μ1.1 43 2) + 1)) (fun (μ6 : gx_M) => L_X8_takeWord_0 k2 n μ6) else k2 μ1)
def f_X8_takeWord (μ : gx_M) : Option (Unit × gx_M) := L_X8_takeWord_0 (fun (μ8 : gx_M) => gx_lt (gx_uI μ8 43 3 1) (fun (μ9 : gx_M) => some ((), μ9))) 4000 μ
theorem okL_X8_takeWord_0 {E : gx_E} {l : Launch} {k2 : gx_M → Option (Unit × gx_M)} (hk : ∀ (μ7 : gx_M), GoW E l Y_X8_takeWord 1 gx_eV 39 [some (.ref (E.2.2.1 + 43))] [] μ7 (k2 μ7)) : ∀ (n : Nat) (μ1 : gx_M), GoW E l Y_X8_takeWord 1 gx_eV 0 [some (.ref (E.2.2.1 + 43))] [] μ1 (L_X8_takeWord_0 k2 n μ1) := by
  intro n
  induction n with
  | zero => intros; exact W_no
  | succ n ih =>
    intro μ1
    rw [L_X8_takeWord_0.eq_2]
    refine W_s (s_aload_n dX8_takeWord_0 rfl rfl) ?_
    refine W_s (gf_RX8_31 rfl dX8_takeWord_1) ?_
    refine W_s (s_aload_n dX8_takeWord_4 rfl rfl) ?_
    refine W_s (gf_RX8_30 rfl dX8_takeWord_5) ?_
    refine W_ite (fun h3 => ?_) (fun h3 => ?_)
    · refine W_s (s_icmp_ge_t dX8_takeWord_8 rfl h3) ?_
      exact W_wk (hk μ1) (le_s rfl le_n)
    · refine W_s (s_icmp_ge_f dX8_takeWord_8 rfl h3) ?_
      refine W_s (s_aload_n dX8_takeWord_11 rfl rfl) ?_
      refine W_s (gf_RX8_9 rfl dX8_takeWord_12) ?_
      refine W_s (s_aload_n dX8_takeWord_15 rfl rfl) ?_
      refine W_s (gf_RX8_31 rfl dX8_takeWord_16) ?_
      refine W_ck (fun h4 => ?_)
      refine W_s (s_bald dX8_takeWord_19 g_44 (gx_ixv h4)) ?_
      refine W_s (s_callS (As := [.int _]) dX8_takeWord_20 Lk_RX8_40 rfl (Nat.le_of_ble_eq_true rfl) (Nat.le_of_ble_eq_true rfl) (ev_X8_isLetter (μ1.1 44 (μ1.1 43 2).toNatClampNeg) μ1)) ?_
      refine W_ite (fun h5 => ?_) (fun h5 => ?_)
      · refine W_s (s_if_eq_f dX8_takeWord_23 rfl (gx_bt h5)) ?_
        refine W_s (s_aload_n dX8_takeWord_26 rfl rfl) ?_
        refine W_s (s_dup dX8_takeWord_27 rfl) ?_
        refine W_s (gf_RX8_31 rfl dX8_takeWord_28) ?_
        refine W_s (s_iconst dX8_takeWord_31 kci_1) ?_
        refine W_s (s_iadd dX8_takeWord_32) ?_
        refine W_s (pf_RX8_31 rfl dX8_takeWord_33) ?_
        refine W_letM (fun μ6 => ?_)
        refine W_s (s_goto dX8_takeWord_36 rfl) ?_
        exact W_wk (ih μ6) (le_s rfl le_n)
      · refine W_s (s_if_eq_t dX8_takeWord_23 rfl (gx_bf h5)) ?_
        exact W_wk (hk μ1) (le_s rfl le_n)
theorem ev_X8_takeWord {E : gx_E} {l : Launch} (μ : gx_M) {r : Unit} {μ' : gx_M} (hr : f_X8_takeWord μ = some (r, μ')) : gEv E l 1 Y_X8_takeWord [.ref (E.2.2.1 + 43)] gx_G1 μ (gx_eV r) gx_G1 μ' := by
  refine W_ev (by decide) (Nat.le_of_ble_eq_true rfl) (em := gx_eV) (T := f_X8_takeWord μ) ?_ hr
  show GoW E l Y_X8_takeWord 1 gx_eV 0 (gx_el [.ref (E.2.2.1 + 43)]) [] μ (f_X8_takeWord μ)
  unfold f_X8_takeWord
  refine W_wk (okL_X8_takeWord_0 ?_ 4000 μ) (le_s rfl le_n)
  intro μ8
  refine W_s (s_aload_n dX8_takeWord_39 rfl rfl) ?_
  refine W_s (s_iconst dX8_takeWord_40 kci_1) ?_
  refine W_s (pf_RX8_37 rfl dX8_takeWord_41) ?_
  refine W_letM (fun μ9 => ?_)
  exact W_r (r := ()) (f_void dX8_takeWord_44 rfl)

def L_X8_takeNumber_5 (k3 : gx_M → Option (Unit × gx_M)) : Nat → gx_M → Option (Unit × gx_M)
  | 0, _ => none
  | n + 1, μ2 => if (μ2.1 43 1) ≤ (μ2.1 43 2) then k3 μ2 else gx_ck (gx_ix (μ2.1 43 2) 600 = true) (if (f_X8_isDigit (μ2.1 44 (μ2.1 43 2).toNatClampNeg)) = true then gx_lt (fun (j0_9 : Int32) (μ10 : gx_M) => gx_lt (gx_uI μ10 43 5 j0_9) (fun (μ11 : gx_M) => gx_lt (gx_uI μ11 43 2 ((μ11.1 43 2) + 1)) (fun (μ12 : gx_M) => L_X8_takeNumber_5 k3 n μ12))) (fun J7 => if 2 ≤ ((μ2.1 43 2) - (μ2.1 43 4)) then J7 (μ2.1 43 5) μ2 else J7 ((((μ2.1 43 5) * 10) + (μ2.1 44 (μ2.1 43 2).toNatClampNeg)) - 48) μ2) else k3 μ2)
def f_X8_takeNumber (μ : gx_M) : Option (Unit × gx_M) := gx_lt (gx_uI μ 43 5 0) (fun (μ1 : gx_M) => L_X8_takeNumber_5 (fun (μ14 : gx_M) => if 2 < ((μ14.1 43 2) - (μ14.1 43 4)) then gx_lt (gx_uI μ14 43 3 4) (fun (μ16 : gx_M) => some ((), μ16)) else gx_lt (gx_uI μ14 43 3 2) (fun (μ17 : gx_M) => some ((), μ17))) 4000 μ1)
theorem okL_X8_takeNumber_5 {E : gx_E} {l : Launch} {k3 : gx_M → Option (Unit × gx_M)} (hk : ∀ (μ13 : gx_M), GoW E l Y_X8_takeNumber 1 gx_eV 88 [some (.ref (E.2.2.1 + 43))] [] μ13 (k3 μ13)) : ∀ (n : Nat) (μ2 : gx_M), GoW E l Y_X8_takeNumber 1 gx_eV 5 [some (.ref (E.2.2.1 + 43))] [] μ2 (L_X8_takeNumber_5 k3 n μ2) := by
  intro n
  induction n with
  | zero => intros; exact W_no
  | succ n ih =>
    intro μ2
    rw [L_X8_takeNumber_5.eq_2]
    refine W_s (s_aload_n dX8_takeNumber_5 rfl rfl) ?_
    refine W_s (gf_RX8_31 rfl dX8_takeNumber_6) ?_
    refine W_s (s_aload_n dX8_takeNumber_9 rfl rfl) ?_
    refine W_s (gf_RX8_30 rfl dX8_takeNumber_10) ?_
    refine W_ite (fun h4 => ?_) (fun h4 => ?_)
    · refine W_s (s_icmp_ge_t dX8_takeNumber_13 rfl h4) ?_
      exact W_wk (hk μ2) (le_s rfl le_n)
    · refine W_s (s_icmp_ge_f dX8_takeNumber_13 rfl h4) ?_
      refine W_s (s_aload_n dX8_takeNumber_16 rfl rfl) ?_
      refine W_s (gf_RX8_9 rfl dX8_takeNumber_17) ?_
      refine W_s (s_aload_n dX8_takeNumber_20 rfl rfl) ?_
      refine W_s (gf_RX8_31 rfl dX8_takeNumber_21) ?_
      refine W_ck (fun h5 => ?_)
      refine W_s (s_bald dX8_takeNumber_24 g_44 (gx_ixv h5)) ?_
      refine W_s (s_callS (As := [.int _]) dX8_takeNumber_25 Lk_RX8_47 rfl (Nat.le_of_ble_eq_true rfl) (Nat.le_of_ble_eq_true rfl) (ev_X8_isDigit (μ2.1 44 (μ2.1 43 2).toNatClampNeg) μ2)) ?_
      refine W_ite (fun h6 => ?_) (fun h6 => ?_)
      · refine W_s (s_if_eq_f dX8_takeNumber_28 rfl (gx_bt h6)) ?_
        refine W_s (s_aload_n dX8_takeNumber_31 rfl rfl) ?_
        refine W_s (s_aload_n dX8_takeNumber_32 rfl rfl) ?_
        refine W_s (gf_RX8_31 rfl dX8_takeNumber_33) ?_
        refine W_s (s_aload_n dX8_takeNumber_36 rfl rfl) ?_
        refine W_s (gf_RX8_34 rfl dX8_takeNumber_37) ?_
        refine W_s (s_isub dX8_takeNumber_40) ?_
        refine W_s (s_iconst dX8_takeNumber_41 kci_2) ?_
        refine W_fun (fun J => ∀ (j0_9 : Int32) (μ10 : gx_M), GoW E l Y_X8_takeNumber 1 gx_eV 72 [some (.ref (E.2.2.1 + 43))] [.int j0_9, .ref (E.2.2.1 + 43)] μ10 (J j0_9 μ10)) ?_ (fun J7 hJ7 => ?_)
        · intro j0_9 μ10
          refine W_s (pf_RX8_53 rfl dX8_takeNumber_72) ?_
          refine W_letM (fun μ11 => ?_)
          refine W_s (s_aload_n dX8_takeNumber_75 rfl rfl) ?_
          refine W_s (s_dup dX8_takeNumber_76 rfl) ?_
          refine W_s (gf_RX8_31 rfl dX8_takeNumber_77) ?_
          refine W_s (s_iconst dX8_takeNumber_80 kci_1) ?_
          refine W_s (s_iadd dX8_takeNumber_81) ?_
          refine W_s (pf_RX8_31 rfl dX8_takeNumber_82) ?_
          refine W_letM (fun μ12 => ?_)
          refine W_s (s_goto dX8_takeNumber_85 rfl) ?_
          exact W_wk (ih μ12) (le_s rfl le_n)
        · skip
          refine W_ite (fun h8 => ?_) (fun h8 => ?_)
          · refine W_s (s_icmp_ge_t dX8_takeNumber_42 rfl h8) ?_
            refine W_s (s_aload_n dX8_takeNumber_68 rfl rfl) ?_
            refine W_s (gf_RX8_53 rfl dX8_takeNumber_69) ?_
            exact W_wk (hJ7 (μ2.1 43 5) μ2) (le_s rfl le_n)
          · refine W_s (s_icmp_ge_f dX8_takeNumber_42 rfl h8) ?_
            refine W_s (s_aload_n dX8_takeNumber_45 rfl rfl) ?_
            refine W_s (gf_RX8_53 rfl dX8_takeNumber_46) ?_
            refine W_s (s_bipush dX8_takeNumber_49 kcb_10) ?_
            refine W_s (s_imul dX8_takeNumber_51) ?_
            refine W_s (s_aload_n dX8_takeNumber_52 rfl rfl) ?_
            refine W_s (gf_RX8_9 rfl dX8_takeNumber_53) ?_
            refine W_s (s_aload_n dX8_takeNumber_56 rfl rfl) ?_
            refine W_s (gf_RX8_31 rfl dX8_takeNumber_57) ?_
            refine W_s (s_bald dX8_takeNumber_60 g_44 (gx_ixv h5)) ?_
            refine W_s (s_iadd dX8_takeNumber_61) ?_
            refine W_s (s_bipush dX8_takeNumber_62 kcb_48) ?_
            refine W_s (s_isub dX8_takeNumber_64) ?_
            refine W_s (s_goto dX8_takeNumber_65 rfl) ?_
            exact W_wk (hJ7 ((((μ2.1 43 5) * 10) + (μ2.1 44 (μ2.1 43 2).toNatClampNeg)) - 48) μ2) (le_s rfl le_n)
      · refine W_s (s_if_eq_t dX8_takeNumber_28 rfl (gx_bf h6)) ?_
        exact W_wk (hk μ2) (le_s rfl le_n)
theorem ev_X8_takeNumber {E : gx_E} {l : Launch} (μ : gx_M) {r : Unit} {μ' : gx_M} (hr : f_X8_takeNumber μ = some (r, μ')) : gEv E l 1 Y_X8_takeNumber [.ref (E.2.2.1 + 43)] gx_G1 μ (gx_eV r) gx_G1 μ' := by
  refine W_ev (by decide) (Nat.le_of_ble_eq_true rfl) (em := gx_eV) (T := f_X8_takeNumber μ) ?_ hr
  show GoW E l Y_X8_takeNumber 1 gx_eV 0 (gx_el [.ref (E.2.2.1 + 43)]) [] μ (f_X8_takeNumber μ)
  unfold f_X8_takeNumber
  refine W_s (s_aload_n dX8_takeNumber_0 rfl rfl) ?_
  refine W_s (s_iconst dX8_takeNumber_1 kci_0) ?_
  refine W_s (pf_RX8_53 rfl dX8_takeNumber_2) ?_
  refine W_letM (fun μ1 => ?_)
  refine W_wk (okL_X8_takeNumber_5 ?_ 4000 μ1) (le_s rfl le_n)
  intro μ14
  refine W_s (s_aload_n dX8_takeNumber_88 rfl rfl) ?_
  refine W_s (s_aload_n dX8_takeNumber_89 rfl rfl) ?_
  refine W_s (gf_RX8_31 rfl dX8_takeNumber_90) ?_
  refine W_s (s_aload_n dX8_takeNumber_93 rfl rfl) ?_
  refine W_s (gf_RX8_34 rfl dX8_takeNumber_94) ?_
  refine W_s (s_isub dX8_takeNumber_97) ?_
  refine W_s (s_iconst dX8_takeNumber_98 kci_2) ?_
  refine W_ite (fun h15 => ?_) (fun h15 => ?_)
  · refine W_s (s_icmp_gt_t dX8_takeNumber_99 rfl h15) ?_
    refine W_s (s_iconst dX8_takeNumber_106 kci_4) ?_
    refine W_s (pf_RX8_37 rfl dX8_takeNumber_107) ?_
    refine W_letM (fun μ16 => ?_)
    exact W_r (r := ()) (f_void dX8_takeNumber_110 rfl)
  · refine W_s (s_icmp_gt_f dX8_takeNumber_99 rfl h15) ?_
    refine W_s (s_iconst dX8_takeNumber_102 kci_2) ?_
    refine W_s (s_goto dX8_takeNumber_103 rfl) ?_
    refine W_s (pf_RX8_37 rfl dX8_takeNumber_107) ?_
    refine W_letM (fun μ17 => ?_)
    exact W_r (r := ()) (f_void dX8_takeNumber_110 rfl)

def L_X10_favourite_8 (μ : gx_M) (a1 : Nat) (p2 : Int32) (k4 : Int32 → Option Int32) : Nat → Int32 → Int32 → Int32 → Option Int32
  | 0, _, _, _ => none
  | n + 1, v3_1, v4_2, v5_3 => if (μ.1 a1 0) ≤ v5_3 then k4 v3_1 else gx_ck (gx_ix v5_3 6 = true) (gx_lt (fun (j0_12 : Int32) (j1_13 : Int32) => L_X10_favourite_8 μ a1 p2 k4 n j0_12 j1_13 (v5_3 + 1)) (fun J7 => if (μ.1 86 v5_3.toNatClampNeg) = (-1) then gx_br (f_X6_worthTo a1 p2 v5_3 μ) (fun (r9 : Int32) => if r9 ≤ v4_2 then J7 v3_1 v4_2 else gx_br (f_X6_worthTo a1 p2 v5_3 μ) (fun (r11 : Int32) => J7 v5_3 r11)) else J7 v3_1 v4_2))
def f_X10_favourite (a1 : Nat) (p2 : Int32) (μ : gx_M) : Option Int32 := L_X10_favourite_8 μ a1 p2 (fun (x3_15 : Int32) => some x3_15) 4000 p2 (-1) 0
theorem okL_X10_favourite_8 {E : gx_E} {l : Launch} {μ : gx_M} {a1 : Nat} {p2 : Int32} (ha1 : gx_Sw a1) {k4 : Int32 → Option Int32} (hk : ∀ (w14 : Int32), GoR E l Y_X10_favourite 1 gx_eI 58 [none, none, none, some (.int w14)] [] μ (k4 w14)) : ∀ (n : Nat) (v3_1 : Int32) (v4_2 : Int32) (v5_3 : Int32), GoR E l Y_X10_favourite 1 gx_eI 8 [some (.ref (E.2.2.1 + 84)), some (.ref (E.2.2.1 + a1)), some (.int p2), some (.int v3_1), some (.int v4_2), some (.int v5_3)] [] μ (L_X10_favourite_8 μ a1 p2 k4 n v3_1 v4_2 v5_3) := by
  intro n
  induction n with
  | zero => intros; exact R_no
  | succ n ih =>
    intro v3_1 v4_2 v5_3
    rw [L_X10_favourite_8.eq_2]
    refine R_s (s_iload dX10_favourite_8 rfl) ?_
    refine R_s (s_aload_n dX10_favourite_10 rfl rfl) ?_
    refine R_s (gfm_RX10_31 ha1 rfl dX10_favourite_11) ?_
    refine R_ite (fun h5 => ?_) (fun h5 => ?_)
    · refine R_s (s_icmp_ge_t dX10_favourite_14 rfl h5) ?_
      exact R_wk (hk v3_1) (le_o (le_o (le_o (le_s rfl le_n))))
    · refine R_s (s_icmp_ge_f dX10_favourite_14 rfl h5) ?_
      refine R_s (s_aload_n dX10_favourite_17 rfl rfl) ?_
      refine R_s (gf_RX10_15 rfl dX10_favourite_18) ?_
      refine R_s (s_iload dX10_favourite_21 rfl) ?_
      refine R_ck (fun h6 => ?_)
      refine R_s (s_iald dX10_favourite_23 g_86 (gx_ixv h6)) ?_
      refine R_s (s_iconst dX10_favourite_24 kci_m1) ?_
      refine R_fun (fun J => ∀ (j0_12 : Int32) (j1_13 : Int32), GoR E l Y_X10_favourite 1 gx_eI 52 [some (.ref (E.2.2.1 + 84)), some (.ref (E.2.2.1 + a1)), some (.int p2), some (.int j0_12), some (.int j1_13), some (.int v5_3)] [] μ (J j0_12 j1_13)) ?_ (fun J7 hJ7 => ?_)
      · intro j0_12 j1_13
        refine R_s (s_iinc dX10_favourite_52 rfl (kinc_1 v5_3) (Nat.le_of_ble_eq_true rfl)) ?_
        refine R_s (s_goto dX10_favourite_55 rfl) ?_
        exact R_wk (ih j0_12 j1_13 (v5_3 + 1)) (le_s rfl (le_s rfl (le_s rfl (le_s rfl (le_s rfl (le_s rfl le_n))))))
      · skip
        refine R_ite (fun h8 => ?_) (fun h8 => ?_)
        · refine R_s (s_icmp_ne_f dX10_favourite_25 rfl h8) ?_
          refine R_s (s_aload_n dX10_favourite_28 rfl rfl) ?_
          refine R_s (s_iload_n dX10_favourite_29 rfl rfl) ?_
          refine R_s (s_iload dX10_favourite_30 rfl) ?_
          refine R_br (ec := gx_eI) (fun r_ hr_ => s_callV (As := [.int _, .int _]) dX10_favourite_32 Lk_RX10_47 rfl (Sw_0 ha1) (by decide) rfl (Nat.le_of_ble_eq_true rfl) (Nat.le_of_ble_eq_true rfl) (ev_X6_worthTo a1 p2 v5_3 ha1 μ hr_)) (fun r9 => ?_)
          refine R_s (s_iload dX10_favourite_35 rfl) ?_
          refine R_ite (fun h10 => ?_) (fun h10 => ?_)
          · refine R_s (s_icmp_le_t dX10_favourite_37 rfl h10) ?_
            exact R_wk (hJ7 v3_1 v4_2) (le_s rfl (le_s rfl (le_s rfl (le_s rfl (le_s rfl (le_s rfl le_n))))))
          · refine R_s (s_icmp_le_f dX10_favourite_37 rfl h10) ?_
            refine R_s (s_aload_n dX10_favourite_40 rfl rfl) ?_
            refine R_s (s_iload_n dX10_favourite_41 rfl rfl) ?_
            refine R_s (s_iload dX10_favourite_42 rfl) ?_
            refine R_br (ec := gx_eI) (fun r_ hr_ => s_callV (As := [.int _, .int _]) dX10_favourite_44 Lk_RX10_47 rfl (Sw_0 ha1) (by decide) rfl (Nat.le_of_ble_eq_true rfl) (Nat.le_of_ble_eq_true rfl) (ev_X6_worthTo a1 p2 v5_3 ha1 μ hr_)) (fun r11 => ?_)
            refine R_s (s_istore dX10_favourite_47 (Nat.le_of_ble_eq_true rfl)) ?_
            refine R_s (s_iload dX10_favourite_49 rfl) ?_
            refine R_s (s_istore_n dX10_favourite_51 rfl (Nat.le_of_ble_eq_true rfl)) ?_
            exact R_wk (hJ7 v5_3 r11) (le_s rfl (le_s rfl (le_s rfl (le_s rfl (le_s rfl (le_s rfl le_n))))))
        · refine R_s (s_icmp_ne_t dX10_favourite_25 rfl h8) ?_
          exact R_wk (hJ7 v3_1 v4_2) (le_s rfl (le_s rfl (le_s rfl (le_s rfl (le_s rfl (le_s rfl le_n))))))
theorem ev_X10_favourite {E : gx_E} {l : Launch} (a1 : Nat) (p2 : Int32) (ha1 : gx_Sw a1) (μ : gx_M) {r : Int32} (hr : f_X10_favourite a1 p2 μ = some r) : gEv E l 1 Y_X10_favourite [.ref (E.2.2.1 + 84), .ref (E.2.2.1 + a1), .int p2] gx_G1 μ (gx_eI r) gx_G1 μ := by
  refine R_ev (by decide) (Nat.le_of_ble_eq_true rfl) (em := gx_eI) (T := f_X10_favourite a1 p2 μ) ?_ hr
  show GoR E l Y_X10_favourite 1 gx_eI 0 (gx_el [.ref (E.2.2.1 + 84), .ref (E.2.2.1 + a1), .int p2]) [] μ (f_X10_favourite a1 p2 μ)
  unfold f_X10_favourite
  refine R_s (s_iload_n dX10_favourite_0 rfl rfl) ?_
  refine R_s (s_istore_n dX10_favourite_1 rfl (Nat.le_of_ble_eq_true rfl)) ?_
  refine R_s (s_iconst dX10_favourite_2 kci_m1) ?_
  refine R_s (s_istore dX10_favourite_3 (Nat.le_of_ble_eq_true rfl)) ?_
  refine R_s (s_iconst dX10_favourite_5 kci_0) ?_
  refine R_s (s_istore dX10_favourite_6 (Nat.le_of_ble_eq_true rfl)) ?_
  refine R_wk (okL_X10_favourite_8 ha1 ?_ 4000 p2 (-1) 0) (le_s rfl (le_s rfl (le_s rfl (le_s rfl (le_s rfl (le_s rfl le_n))))))
  intro x3_15
  refine R_s (s_iload_n dX10_favourite_58 rfl rfl) ?_
  exact R_r (r := x3_15) (f_int (ty := .int) dX10_favourite_59 rfl rfl)

def L_X10_letGo_5 (a1 : Nat) (p2 : Int32) (k4 : Int32 → gx_M → Option (Int32 × gx_M)) : Nat → Int32 → Int32 → gx_M → Option (Int32 × gx_M)
  | 0, _, _, _ => none
  | n + 1, v3_1, v4_2, μ3 => if (μ3.1 a1 0) ≤ v4_2 then k4 v3_1 μ3 else gx_ck (gx_ix v4_2 6 = true) (gx_lt (fun (j0_13 : Int32) (μ14 : gx_M) => L_X10_letGo_5 a1 p2 k4 n j0_13 (v4_2 + 1) μ14) (fun J7 => if (μ3.1 86 v4_2.toNatClampNeg) = (-1) then gx_br (f_X10_isInRing v4_2 μ3) (fun (r9 : Bool) => if r9 = true then gx_lt (gx_uI μ3 86 v4_2.toNatClampNeg p2) (fun (μ11 : gx_M) => gx_lt (gx_uI μ11 85 v4_2.toNatClampNeg (μ11.1 87 v4_2.toNatClampNeg)) (fun (μ12 : gx_M) => J7 (v3_1 + 1) μ12)) else J7 v3_1 μ3) else J7 v3_1 μ3))
def f_X10_letGo (a1 : Nat) (p2 : Int32) (μ : gx_M) : Option (Int32 × gx_M) := L_X10_letGo_5 a1 p2 (fun (x3_17 : Int32) (μ18 : gx_M) => some (x3_17, μ18)) 4000 0 0 μ
theorem okL_X10_letGo_5 {E : gx_E} {l : Launch} {a1 : Nat} {p2 : Int32} (ha1 : gx_Sw a1) {k4 : Int32 → gx_M → Option (Int32 × gx_M)} (hk : ∀ (w15 : Int32) (μ16 : gx_M), GoW E l Y_X10_letGo 1 gx_eI 65 [none, none, none, some (.int w15)] [] μ16 (k4 w15 μ16)) : ∀ (n : Nat) (v3_1 : Int32) (v4_2 : Int32) (μ3 : gx_M), GoW E l Y_X10_letGo 1 gx_eI 5 [some (.ref (E.2.2.1 + 84)), some (.ref (E.2.2.1 + a1)), some (.int p2), some (.int v3_1), some (.int v4_2)] [] μ3 (L_X10_letGo_5 a1 p2 k4 n v3_1 v4_2 μ3) := by
  intro n
  induction n with
  | zero => intros; exact W_no
  | succ n ih =>
    intro v3_1 v4_2 μ3
    rw [L_X10_letGo_5.eq_2]
    refine W_s (s_iload dX10_letGo_5 rfl) ?_
    refine W_s (s_aload_n dX10_letGo_7 rfl rfl) ?_
    refine W_s (gfm_RX10_31 ha1 rfl dX10_letGo_8) ?_
    refine W_ite (fun h5 => ?_) (fun h5 => ?_)
    · refine W_s (s_icmp_ge_t dX10_letGo_11 rfl h5) ?_
      exact W_wk (hk v3_1 μ3) (le_o (le_o (le_o (le_s rfl le_n))))
    · refine W_s (s_icmp_ge_f dX10_letGo_11 rfl h5) ?_
      refine W_s (s_aload_n dX10_letGo_14 rfl rfl) ?_
      refine W_s (gf_RX10_15 rfl dX10_letGo_15) ?_
      refine W_s (s_iload dX10_letGo_18 rfl) ?_
      refine W_ck (fun h6 => ?_)
      refine W_s (s_iald dX10_letGo_20 g_86 (gx_ixv h6)) ?_
      refine W_s (s_iconst dX10_letGo_21 kci_m1) ?_
      refine W_fun (fun J => ∀ (j0_13 : Int32) (μ14 : gx_M), GoW E l Y_X10_letGo 1 gx_eI 59 [some (.ref (E.2.2.1 + 84)), some (.ref (E.2.2.1 + a1)), some (.int p2), some (.int j0_13), some (.int v4_2)] [] μ14 (J j0_13 μ14)) ?_ (fun J7 hJ7 => ?_)
      · intro j0_13 μ14
        refine W_s (s_iinc dX10_letGo_59 rfl (kinc_1 v4_2) (Nat.le_of_ble_eq_true rfl)) ?_
        refine W_s (s_goto dX10_letGo_62 rfl) ?_
        exact W_wk (ih j0_13 (v4_2 + 1) μ14) (le_s rfl (le_s rfl (le_s rfl (le_s rfl (le_s rfl le_n)))))
      · skip
        refine W_ite (fun h8 => ?_) (fun h8 => ?_)
        · refine W_s (s_icmp_ne_f dX10_letGo_22 rfl h8) ?_
          refine W_s (s_aload_n dX10_letGo_25 rfl rfl) ?_
          refine W_s (s_iload dX10_letGo_26 rfl) ?_
          refine W_br (ec := gx_eB) (fun r_ hr_ => s_callV (As := [.int _]) dX10_letGo_28 Lk_RX10_51 rfl g_84 (by decide) rfl (Nat.le_of_ble_eq_true rfl) (Nat.le_of_ble_eq_true rfl) (ev_X10_isInRing v4_2 μ3 hr_)) (fun r9 => ?_)
          refine W_ite (fun h10 => ?_) (fun h10 => ?_)
          · refine W_s (s_if_eq_f dX10_letGo_31 rfl (gx_bt h10)) ?_
            refine W_s (s_aload_n dX10_letGo_34 rfl rfl) ?_
            refine W_s (gf_RX10_15 rfl dX10_letGo_35) ?_
            refine W_s (s_iload dX10_letGo_38 rfl) ?_
            refine W_s (s_iload_n dX10_letGo_40 rfl rfl) ?_
            refine W_s (s_iast dX10_letGo_41 g_86 (gx_ixv h6)) ?_
            refine W_letM (fun μ11 => ?_)
            refine W_s (s_aload_n dX10_letGo_42 rfl rfl) ?_
            refine W_s (gf_RX10_9 rfl dX10_letGo_43) ?_
            refine W_s (s_iload dX10_letGo_46 rfl) ?_
            refine W_s (s_aload_n dX10_letGo_48 rfl rfl) ?_
            refine W_s (gf_RX10_18 rfl dX10_letGo_49) ?_
            refine W_s (s_iload dX10_letGo_52 rfl) ?_
            refine W_s (s_iald dX10_letGo_54 g_87 (gx_ixv h6)) ?_
            refine W_s (s_iast dX10_letGo_55 g_85 (gx_ixv h6)) ?_
            refine W_letM (fun μ12 => ?_)
            refine W_s (s_iinc dX10_letGo_56 rfl (kinc_1 v3_1) (Nat.le_of_ble_eq_true rfl)) ?_
            exact W_wk (hJ7 (v3_1 + 1) μ12) (le_s rfl (le_s rfl (le_s rfl (le_s rfl (le_s rfl le_n)))))
          · refine W_s (s_if_eq_t dX10_letGo_31 rfl (gx_bf h10)) ?_
            exact W_wk (hJ7 v3_1 μ3) (le_s rfl (le_s rfl (le_s rfl (le_s rfl (le_s rfl le_n)))))
        · refine W_s (s_icmp_ne_t dX10_letGo_22 rfl h8) ?_
          exact W_wk (hJ7 v3_1 μ3) (le_s rfl (le_s rfl (le_s rfl (le_s rfl (le_s rfl le_n)))))
theorem ev_X10_letGo {E : gx_E} {l : Launch} (a1 : Nat) (p2 : Int32) (ha1 : gx_Sw a1) (μ : gx_M) {r : Int32} {μ' : gx_M} (hr : f_X10_letGo a1 p2 μ = some (r, μ')) : gEv E l 1 Y_X10_letGo [.ref (E.2.2.1 + 84), .ref (E.2.2.1 + a1), .int p2] gx_G1 μ (gx_eI r) gx_G1 μ' := by
  refine W_ev (by decide) (Nat.le_of_ble_eq_true rfl) (em := gx_eI) (T := f_X10_letGo a1 p2 μ) ?_ hr
  show GoW E l Y_X10_letGo 1 gx_eI 0 (gx_el [.ref (E.2.2.1 + 84), .ref (E.2.2.1 + a1), .int p2]) [] μ (f_X10_letGo a1 p2 μ)
  unfold f_X10_letGo
  refine W_s (s_iconst dX10_letGo_0 kci_0) ?_
  refine W_s (s_istore_n dX10_letGo_1 rfl (Nat.le_of_ble_eq_true rfl)) ?_
  refine W_s (s_iconst dX10_letGo_2 kci_0) ?_
  refine W_s (s_istore dX10_letGo_3 (Nat.le_of_ble_eq_true rfl)) ?_
  refine W_wk (okL_X10_letGo_5 ha1 ?_ 4000 0 0 μ) (le_s rfl (le_s rfl (le_s rfl (le_s rfl (le_s rfl le_n)))))
  intro x3_17 μ18
  refine W_s (s_iload_n dX10_letGo_65 rfl rfl) ?_
  exact W_r (r := x3_17) (f_int (ty := .int) dX10_letGo_66 rfl rfl)

def L_X10_gain_4 (μ : gx_M) (a1 : Nat) (k3 : Int32 → Option Int32) : Nat → Int32 → Int32 → Option Int32
  | 0, _, _ => none
  | n + 1, v2_1, v3_2 => if (μ.1 a1 0) ≤ v3_2 then k3 v2_1 else gx_ck (gx_ix v3_2 6 = true) (gx_br (f_X6_worthTo a1 v3_2 (μ.1 85 v3_2.toNatClampNeg) μ) (fun (r6 : Int32) => gx_br (f_X6_worthTo a1 v3_2 v3_2 μ) (fun (r7 : Int32) => gx_lt (v2_1 + (r6 - r7)) (fun (x8 : Int32) => L_X10_gain_4 μ a1 k3 n x8 (v3_2 + 1)))))
def f_X10_gain (a1 : Nat) (μ : gx_M) : Option Int32 := L_X10_gain_4 μ a1 (fun (x2_10 : Int32) => some x2_10) 4000 0 0
theorem okL_X10_gain_4 {E : gx_E} {l : Launch} {μ : gx_M} {a1 : Nat} (ha1 : gx_Sw a1) {k3 : Int32 → Option Int32} (hk : ∀ (w9 : Int32), GoR E l Y_X10_gain 1 gx_eI 39 [none, none, some (.int w9)] [] μ (k3 w9)) : ∀ (n : Nat) (v2_1 : Int32) (v3_2 : Int32), GoR E l Y_X10_gain 1 gx_eI 4 [some (.ref (E.2.2.1 + 84)), some (.ref (E.2.2.1 + a1)), some (.int v2_1), some (.int v3_2)] [] μ (L_X10_gain_4 μ a1 k3 n v2_1 v3_2) := by
  intro n
  induction n with
  | zero => intros; exact R_no
  | succ n ih =>
    intro v2_1 v3_2
    rw [L_X10_gain_4.eq_2]
    refine R_s (s_iload_n dX10_gain_4 rfl rfl) ?_
    refine R_s (s_aload_n dX10_gain_5 rfl rfl) ?_
    refine R_s (gfm_RX10_31 ha1 rfl dX10_gain_6) ?_
    refine R_ite (fun h4 => ?_) (fun h4 => ?_)
    · refine R_s (s_icmp_ge_t dX10_gain_9 rfl h4) ?_
      exact R_wk (hk v2_1) (le_o (le_o (le_s rfl le_n)))
    · refine R_s (s_icmp_ge_f dX10_gain_9 rfl h4) ?_
      refine R_s (s_iload_n dX10_gain_12 rfl rfl) ?_
      refine R_s (s_aload_n dX10_gain_13 rfl rfl) ?_
      refine R_s (s_iload_n dX10_gain_14 rfl rfl) ?_
      refine R_s (s_aload_n dX10_gain_15 rfl rfl) ?_
      refine R_s (gf_RX10_9 rfl dX10_gain_16) ?_
      refine R_s (s_iload_n dX10_gain_19 rfl rfl) ?_
      refine R_ck (fun h5 => ?_)
      refine R_s (s_iald dX10_gain_20 g_85 (gx_ixv h5)) ?_
      refine R_br (ec := gx_eI) (fun r_ hr_ => s_callV (As := [.int _, .int _]) dX10_gain_21 Lk_RX10_47 rfl (Sw_0 ha1) (by decide) rfl (Nat.le_of_ble_eq_true rfl) (Nat.le_of_ble_eq_true rfl) (ev_X6_worthTo a1 v3_2 (μ.1 85 v3_2.toNatClampNeg) ha1 μ hr_)) (fun r6 => ?_)
      refine R_s (s_aload_n dX10_gain_24 rfl rfl) ?_
      refine R_s (s_iload_n dX10_gain_25 rfl rfl) ?_
      refine R_s (s_iload_n dX10_gain_26 rfl rfl) ?_
      refine R_br (ec := gx_eI) (fun r_ hr_ => s_callV (As := [.int _, .int _]) dX10_gain_27 Lk_RX10_47 rfl (Sw_0 ha1) (by decide) rfl (Nat.le_of_ble_eq_true rfl) (Nat.le_of_ble_eq_true rfl) (ev_X6_worthTo a1 v3_2 v3_2 ha1 μ hr_)) (fun r7 => ?_)
      refine R_s (s_isub dX10_gain_30) ?_
      refine R_s (s_iadd dX10_gain_31) ?_
      refine R_letI (fun x8 => ?_)
      refine R_s (s_istore_n dX10_gain_32 rfl (Nat.le_of_ble_eq_true rfl)) ?_
      refine R_s (s_iinc dX10_gain_33 rfl (kinc_1 v3_2) (Nat.le_of_ble_eq_true rfl)) ?_
      refine R_s (s_goto dX10_gain_36 rfl) ?_
      exact R_wk (ih x8 (v3_2 + 1)) (le_s rfl (le_s rfl (le_s rfl (le_s rfl le_n))))
theorem ev_X10_gain {E : gx_E} {l : Launch} (a1 : Nat) (ha1 : gx_Sw a1) (μ : gx_M) {r : Int32} (hr : f_X10_gain a1 μ = some r) : gEv E l 1 Y_X10_gain [.ref (E.2.2.1 + 84), .ref (E.2.2.1 + a1)] gx_G1 μ (gx_eI r) gx_G1 μ := by
  refine R_ev (by decide) (Nat.le_of_ble_eq_true rfl) (em := gx_eI) (T := f_X10_gain a1 μ) ?_ hr
  show GoR E l Y_X10_gain 1 gx_eI 0 (gx_el [.ref (E.2.2.1 + 84), .ref (E.2.2.1 + a1)]) [] μ (f_X10_gain a1 μ)
  unfold f_X10_gain
  refine R_s (s_iconst dX10_gain_0 kci_0) ?_
  refine R_s (s_istore_n dX10_gain_1 rfl (Nat.le_of_ble_eq_true rfl)) ?_
  refine R_s (s_iconst dX10_gain_2 kci_0) ?_
  refine R_s (s_istore_n dX10_gain_3 rfl (Nat.le_of_ble_eq_true rfl)) ?_
  refine R_wk (okL_X10_gain_4 ha1 ?_ 4000 0 0) (le_s rfl (le_s rfl (le_s rfl (le_s rfl le_n))))
  intro x2_10
  refine R_s (s_iload_n dX10_gain_39 rfl rfl) ?_
  exact R_r (r := x2_10) (f_int (ty := .int) dX10_gain_40 rfl rfl)

def L_X10_hasBest_2 (μ : gx_M) (a1 : Nat) (p2 : Int32) (k2 : Option Bool) : Nat → Int32 → Option Bool
  | 0, _ => none
  | n + 1, v3_1 => if (μ.1 a1 0) ≤ v3_1 then k2 else gx_br (f_X6_worthTo a1 p2 v3_1 μ) (fun (r4 : Int32) => gx_ck (gx_ix p2 6 = true) (gx_br (f_X6_worthTo a1 p2 (μ.1 85 p2.toNatClampNeg) μ) (fun (r6 : Int32) => if r4 ≤ r6 then L_X10_hasBest_2 μ a1 p2 k2 n (v3_1 + 1) else some false)))
def f_X10_hasBest (a1 : Nat) (p2 : Int32) (μ : gx_M) : Option Bool := L_X10_hasBest_2 μ a1 p2 (some true) 4000 0
theorem okL_X10_hasBest_2 {E : gx_E} {l : Launch} {μ : gx_M} {a1 : Nat} {p2 : Int32} (ha1 : gx_Sw a1) {k2 : Option Bool} (hk : GoR E l Y_X10_hasBest 1 gx_eB 38 [] [] μ (k2)) : ∀ (n : Nat) (v3_1 : Int32), GoR E l Y_X10_hasBest 1 gx_eB 2 [some (.ref (E.2.2.1 + 84)), some (.ref (E.2.2.1 + a1)), some (.int p2), some (.int v3_1)] [] μ (L_X10_hasBest_2 μ a1 p2 k2 n v3_1) := by
  intro n
  induction n with
  | zero => intros; exact R_no
  | succ n ih =>
    intro v3_1
    rw [L_X10_hasBest_2.eq_2]
    refine R_s (s_iload_n dX10_hasBest_2 rfl rfl) ?_
    refine R_s (s_aload_n dX10_hasBest_3 rfl rfl) ?_
    refine R_s (gfm_RX10_31 ha1 rfl dX10_hasBest_4) ?_
    refine R_ite (fun h3 => ?_) (fun h3 => ?_)
    · refine R_s (s_icmp_ge_t dX10_hasBest_7 rfl h3) ?_
      exact R_wk (hk) le_n
    · refine R_s (s_icmp_ge_f dX10_hasBest_7 rfl h3) ?_
      refine R_s (s_aload_n dX10_hasBest_10 rfl rfl) ?_
      refine R_s (s_iload_n dX10_hasBest_11 rfl rfl) ?_
      refine R_s (s_iload_n dX10_hasBest_12 rfl rfl) ?_
      refine R_br (ec := gx_eI) (fun r_ hr_ => s_callV (As := [.int _, .int _]) dX10_hasBest_13 Lk_RX10_47 rfl (Sw_0 ha1) (by decide) rfl (Nat.le_of_ble_eq_true rfl) (Nat.le_of_ble_eq_true rfl) (ev_X6_worthTo a1 p2 v3_1 ha1 μ hr_)) (fun r4 => ?_)
      refine R_s (s_aload_n dX10_hasBest_16 rfl rfl) ?_
      refine R_s (s_iload_n dX10_hasBest_17 rfl rfl) ?_
      refine R_s (s_aload_n dX10_hasBest_18 rfl rfl) ?_
      refine R_s (gf_RX10_9 rfl dX10_hasBest_19) ?_
      refine R_s (s_iload_n dX10_hasBest_22 rfl rfl) ?_
      refine R_ck (fun h5 => ?_)
      refine R_s (s_iald dX10_hasBest_23 g_85 (gx_ixv h5)) ?_
      refine R_br (ec := gx_eI) (fun r_ hr_ => s_callV (As := [.int _, .int _]) dX10_hasBest_24 Lk_RX10_47 rfl (Sw_0 ha1) (by decide) rfl (Nat.le_of_ble_eq_true rfl) (Nat.le_of_ble_eq_true rfl) (ev_X6_worthTo a1 p2 (μ.1 85 p2.toNatClampNeg) ha1 μ hr_)) (fun r6 => ?_)
      refine R_ite (fun h7 => ?_) (fun h7 => ?_)
      · refine R_s (s_icmp_le_t dX10_hasBest_27 rfl h7) ?_
        refine R_s (s_iinc dX10_hasBest_32 rfl (kinc_1 v3_1) (Nat.le_of_ble_eq_true rfl)) ?_
        refine R_s (s_goto dX10_hasBest_35 rfl) ?_
        exact R_wk (ih (v3_1 + 1)) (le_s rfl (le_s rfl (le_s rfl (le_s rfl le_n))))
      · refine R_s (s_icmp_le_f dX10_hasBest_27 rfl h7) ?_
        refine R_s (s_iconst dX10_hasBest_30 kci_0) ?_
        exact R_r (r := false) (f_int (ty := .boolean) (x := gx_bi false) dX10_hasBest_31 rfl (gx_bn false))
theorem ev_X10_hasBest {E : gx_E} {l : Launch} (a1 : Nat) (p2 : Int32) (ha1 : gx_Sw a1) (μ : gx_M) {r : Bool} (hr : f_X10_hasBest a1 p2 μ = some r) : gEv E l 1 Y_X10_hasBest [.ref (E.2.2.1 + 84), .ref (E.2.2.1 + a1), .int p2] gx_G1 μ (gx_eB r) gx_G1 μ := by
  refine R_ev (by decide) (Nat.le_of_ble_eq_true rfl) (em := gx_eB) (T := f_X10_hasBest a1 p2 μ) ?_ hr
  show GoR E l Y_X10_hasBest 1 gx_eB 0 (gx_el [.ref (E.2.2.1 + 84), .ref (E.2.2.1 + a1), .int p2]) [] μ (f_X10_hasBest a1 p2 μ)
  unfold f_X10_hasBest
  refine R_s (s_iconst dX10_hasBest_0 kci_0) ?_
  refine R_s (s_istore_n dX10_hasBest_1 rfl (Nat.le_of_ble_eq_true rfl)) ?_
  refine R_wk (okL_X10_hasBest_2 ha1 ?_ 4000 0) (le_s rfl (le_s rfl (le_s rfl (le_s rfl le_n))))
  refine R_s (s_iconst dX10_hasBest_38 kci_1) ?_
  exact R_r (r := true) (f_int (ty := .boolean) (x := gx_bi true) dX10_hasBest_39 rfl (gx_bn true))

def L_X10_envy_15 (μ : gx_M) (a1 : Nat) (v3_2 : Int32) (k7 : Int32 → Option Int32) : Nat → Int32 → Int32 → Option Int32
  | 0, _, _ => none
  | n + 1, v2_5, v4_6 => if (μ.1 a1 0) ≤ v4_6 then k7 v2_5 else gx_ck (gx_ix v4_6 6 = true) (gx_br (f_X6_worthTo a1 v3_2 (μ.1 85 v4_6.toNatClampNeg) μ) (fun (r10 : Int32) => gx_ck (gx_ix v3_2 6 = true) (gx_br (f_X6_worthTo a1 v3_2 (μ.1 85 v3_2.toNatClampNeg) μ) (fun (r12 : Int32) => gx_lt (fun (j0_15 : Int32) => L_X10_envy_15 μ a1 v3_2 k7 n j0_15 (v4_6 + 1)) (fun J13 => if r10 ≤ r12 then J13 v2_5 else J13 (v2_5 + 1))))))
def L_X10_envy_4 (μ : gx_M) (a1 : Nat) (k3 : Int32 → Option Int32) : Nat → Int32 → Int32 → Option Int32
  | 0, _, _ => none
  | n + 1, v2_1, v3_2 => if (μ.1 a1 0) ≤ v3_2 then k3 v2_1 else L_X10_envy_15 μ a1 v3_2 (fun (x2_17 : Int32) => L_X10_envy_4 μ a1 k3 n x2_17 (v3_2 + 1)) 4000 v2_1 0
def f_X10_envy (a1 : Nat) (μ : gx_M) : Option Int32 := L_X10_envy_4 μ a1 (fun (x2_19 : Int32) => some x2_19) 4000 0 0
theorem okL_X10_envy_15 {E : gx_E} {l : Launch} {μ : gx_M} {a1 : Nat} {v3_2 : Int32} (ha1 : gx_Sw a1) {k7 : Int32 → Option Int32} (hk : ∀ (w16 : Int32), GoR E l Y_X10_envy 1 gx_eI 59 [some (.ref (E.2.2.1 + 84)), some (.ref (E.2.2.1 + a1)), some (.int w16), some (.int v3_2)] [] μ (k7 w16)) : ∀ (n : Nat) (v2_5 : Int32) (v4_6 : Int32), GoR E l Y_X10_envy 1 gx_eI 15 [some (.ref (E.2.2.1 + 84)), some (.ref (E.2.2.1 + a1)), some (.int v2_5), some (.int v3_2), some (.int v4_6)] [] μ (L_X10_envy_15 μ a1 v3_2 k7 n v2_5 v4_6) := by
  intro n
  induction n with
  | zero => intros; exact R_no
  | succ n ih =>
    intro v2_5 v4_6
    rw [L_X10_envy_15.eq_2]
    refine R_s (s_iload dX10_envy_15 rfl) ?_
    refine R_s (s_aload_n dX10_envy_17 rfl rfl) ?_
    refine R_s (gfm_RX10_31 ha1 rfl dX10_envy_18) ?_
    refine R_ite (fun h8 => ?_) (fun h8 => ?_)
    · refine R_s (s_icmp_ge_t dX10_envy_21 rfl h8) ?_
      exact R_wk (hk v2_5) (le_s rfl (le_s rfl (le_s rfl (le_s rfl le_n))))
    · refine R_s (s_icmp_ge_f dX10_envy_21 rfl h8) ?_
      refine R_s (s_aload_n dX10_envy_24 rfl rfl) ?_
      refine R_s (s_iload_n dX10_envy_25 rfl rfl) ?_
      refine R_s (s_aload_n dX10_envy_26 rfl rfl) ?_
      refine R_s (gf_RX10_9 rfl dX10_envy_27) ?_
      refine R_s (s_iload dX10_envy_30 rfl) ?_
      refine R_ck (fun h9 => ?_)
      refine R_s (s_iald dX10_envy_32 g_85 (gx_ixv h9)) ?_
      refine R_br (ec := gx_eI) (fun r_ hr_ => s_callV (As := [.int _, .int _]) dX10_envy_33 Lk_RX10_47 rfl (Sw_0 ha1) (by decide) rfl (Nat.le_of_ble_eq_true rfl) (Nat.le_of_ble_eq_true rfl) (ev_X6_worthTo a1 v3_2 (μ.1 85 v4_6.toNatClampNeg) ha1 μ hr_)) (fun r10 => ?_)
      refine R_s (s_aload_n dX10_envy_36 rfl rfl) ?_
      refine R_s (s_iload_n dX10_envy_37 rfl rfl) ?_
      refine R_s (s_aload_n dX10_envy_38 rfl rfl) ?_
      refine R_s (gf_RX10_9 rfl dX10_envy_39) ?_
      refine R_s (s_iload_n dX10_envy_42 rfl rfl) ?_
      refine R_ck (fun h11 => ?_)
      refine R_s (s_iald dX10_envy_43 g_85 (gx_ixv h11)) ?_
      refine R_br (ec := gx_eI) (fun r_ hr_ => s_callV (As := [.int _, .int _]) dX10_envy_44 Lk_RX10_47 rfl (Sw_0 ha1) (by decide) rfl (Nat.le_of_ble_eq_true rfl) (Nat.le_of_ble_eq_true rfl) (ev_X6_worthTo a1 v3_2 (μ.1 85 v3_2.toNatClampNeg) ha1 μ hr_)) (fun r12 => ?_)
      refine R_fun (fun J => ∀ (j0_15 : Int32), GoR E l Y_X10_envy 1 gx_eI 53 [some (.ref (E.2.2.1 + 84)), some (.ref (E.2.2.1 + a1)), some (.int j0_15), some (.int v3_2), some (.int v4_6)] [] μ (J j0_15)) ?_ (fun J13 hJ13 => ?_)
      · intro j0_15
        refine R_s (s_iinc dX10_envy_53 rfl (kinc_1 v4_6) (Nat.le_of_ble_eq_true rfl)) ?_
        refine R_s (s_goto dX10_envy_56 rfl) ?_
        exact R_wk (ih j0_15 (v4_6 + 1)) (le_s rfl (le_s rfl (le_s rfl (le_s rfl (le_s rfl le_n)))))
      · skip
        refine R_ite (fun h14 => ?_) (fun h14 => ?_)
        · refine R_s (s_icmp_le_t dX10_envy_47 rfl h14) ?_
          exact R_wk (hJ13 v2_5) (le_s rfl (le_s rfl (le_s rfl (le_s rfl (le_s rfl le_n)))))
        · refine R_s (s_icmp_le_f dX10_envy_47 rfl h14) ?_
          refine R_s (s_iinc dX10_envy_50 rfl (kinc_1 v2_5) (Nat.le_of_ble_eq_true rfl)) ?_
          exact R_wk (hJ13 (v2_5 + 1)) (le_s rfl (le_s rfl (le_s rfl (le_s rfl (le_s rfl le_n)))))
theorem okL_X10_envy_4 {E : gx_E} {l : Launch} {μ : gx_M} {a1 : Nat} (ha1 : gx_Sw a1) {k3 : Int32 → Option Int32} (hk : ∀ (w18 : Int32), GoR E l Y_X10_envy 1 gx_eI 65 [none, none, some (.int w18)] [] μ (k3 w18)) : ∀ (n : Nat) (v2_1 : Int32) (v3_2 : Int32), GoR E l Y_X10_envy 1 gx_eI 4 [some (.ref (E.2.2.1 + 84)), some (.ref (E.2.2.1 + a1)), some (.int v2_1), some (.int v3_2)] [] μ (L_X10_envy_4 μ a1 k3 n v2_1 v3_2) := by
  intro n
  induction n with
  | zero => intros; exact R_no
  | succ n ih =>
    intro v2_1 v3_2
    rw [L_X10_envy_4.eq_2]
    refine R_s (s_iload_n dX10_envy_4 rfl rfl) ?_
    refine R_s (s_aload_n dX10_envy_5 rfl rfl) ?_
    refine R_s (gfm_RX10_31 ha1 rfl dX10_envy_6) ?_
    refine R_ite (fun h4 => ?_) (fun h4 => ?_)
    · refine R_s (s_icmp_ge_t dX10_envy_9 rfl h4) ?_
      exact R_wk (hk v2_1) (le_o (le_o (le_s rfl le_n)))
    · refine R_s (s_icmp_ge_f dX10_envy_9 rfl h4) ?_
      refine R_s (s_iconst dX10_envy_12 kci_0) ?_
      refine R_s (s_istore dX10_envy_13 (Nat.le_of_ble_eq_true rfl)) ?_
      refine R_wk (okL_X10_envy_15 ha1 ?_ 4000 v2_1 0) (le_s rfl (le_s rfl (le_s rfl (le_s rfl (le_s rfl le_n)))))
      intro x2_17
      refine R_s (s_iinc dX10_envy_59 rfl (kinc_1 v3_2) (Nat.le_of_ble_eq_true rfl)) ?_
      refine R_s (s_goto dX10_envy_62 rfl) ?_
      exact R_wk (ih x2_17 (v3_2 + 1)) (le_s rfl (le_s rfl (le_s rfl (le_s rfl le_n))))
theorem ev_X10_envy {E : gx_E} {l : Launch} (a1 : Nat) (ha1 : gx_Sw a1) (μ : gx_M) {r : Int32} (hr : f_X10_envy a1 μ = some r) : gEv E l 1 Y_X10_envy [.ref (E.2.2.1 + 84), .ref (E.2.2.1 + a1)] gx_G1 μ (gx_eI r) gx_G1 μ := by
  refine R_ev (by decide) (Nat.le_of_ble_eq_true rfl) (em := gx_eI) (T := f_X10_envy a1 μ) ?_ hr
  show GoR E l Y_X10_envy 1 gx_eI 0 (gx_el [.ref (E.2.2.1 + 84), .ref (E.2.2.1 + a1)]) [] μ (f_X10_envy a1 μ)
  unfold f_X10_envy
  refine R_s (s_iconst dX10_envy_0 kci_0) ?_
  refine R_s (s_istore_n dX10_envy_1 rfl (Nat.le_of_ble_eq_true rfl)) ?_
  refine R_s (s_iconst dX10_envy_2 kci_0) ?_
  refine R_s (s_istore_n dX10_envy_3 rfl (Nat.le_of_ble_eq_true rfl)) ?_
  refine R_wk (okL_X10_envy_4 ha1 ?_ 4000 0 0) (le_s rfl (le_s rfl (le_s rfl (le_s rfl le_n))))
  intro x2_19
  refine R_s (s_iload_n dX10_envy_65 rfl rfl) ?_
  exact R_r (r := x2_19) (f_int (ty := .int) dX10_envy_66 rfl rfl)

def f_X11_feed (p1 : Int32) (p2 : Int32) (p3 : Int32) (p4 : Int32) (p5 : Int32) (μ : gx_M) : Option (Int32 × gx_M) := if (μ.1 1 6) ≤ 580 then gx_bd (f_X9_putNumber p1 μ) (fun (r2 : Unit) (μ3 : gx_M) => gx_bd (f_X9_putNumber p2 μ3) (fun (r4 : Unit) (μ5 : gx_M) => gx_bd (f_X9_putNumber p3 μ5) (fun (r6 : Unit) (μ7 : gx_M) => gx_bd (f_X9_putNumber p4 μ7) (fun (r8 : Unit) (μ9 : gx_M) => gx_bd (f_X9_putNumber p5 μ9) (fun (r10 : Unit) (μ11 : gx_M) => some ((μ11.1 1 6), μ11)))))) else some ((-1), μ)
theorem ev_X11_feed {E : gx_E} {l : Launch} (p1 : Int32) (p2 : Int32) (p3 : Int32) (p4 : Int32) (p5 : Int32) (μ : gx_M) {r : Int32} {μ' : gx_M} (hr : f_X11_feed p1 p2 p3 p4 p5 μ = some (r, μ')) : gEv E l 1 Y_X11_feed [.ref (E.2.2.1 + 0), .int p1, .int p2, .int p3, .int p4, .int p5] gx_G1 μ (gx_eI r) gx_G1 μ' := by
  refine W_ev (by decide) (Nat.le_of_ble_eq_true rfl) (em := gx_eI) (T := f_X11_feed p1 p2 p3 p4 p5 μ) ?_ hr
  show GoW E l Y_X11_feed 1 gx_eI 0 (gx_el [.ref (E.2.2.1 + 0), .int p1, .int p2, .int p3, .int p4, .int p5]) [] μ (f_X11_feed p1 p2 p3 p4 p5 μ)
  unfold f_X11_feed
  refine W_s (s_aload_n dX11_feed_0 rfl rfl) ?_
  refine W_s (gf_RX11_12 rfl dX11_feed_1) ?_
  refine W_s (gf_RX11_70 rfl dX11_feed_4) ?_
  refine W_s (s_sipush dX11_feed_7 kcs_580) ?_
  refine W_ite (fun h1 => ?_) (fun h1 => ?_)
  · refine W_s (s_icmp_le_t dX11_feed_10 rfl h1) ?_
    refine W_s (s_aload_n dX11_feed_15 rfl rfl) ?_
    refine W_s (gf_RX11_12 rfl dX11_feed_16) ?_
    refine W_s (s_iload_n dX11_feed_19 rfl rfl) ?_
    refine W_bd (ec := gx_eV) (fun r_ μ_ hr_ => s_callV (As := [.int _]) dX11_feed_20 Lk_RX11_74 rfl g_1 (by decide) rfl (Nat.le_of_ble_eq_true rfl) (Nat.le_of_ble_eq_true rfl) (ev_X9_putNumber p1 μ hr_)) (fun r2 μ3 => ?_)
    refine W_s (s_aload_n dX11_feed_23 rfl rfl) ?_
    refine W_s (gf_RX11_12 rfl dX11_feed_24) ?_
    refine W_s (s_iload_n dX11_feed_27 rfl rfl) ?_
    refine W_bd (ec := gx_eV) (fun r_ μ_ hr_ => s_callV (As := [.int _]) dX11_feed_28 Lk_RX11_74 rfl g_1 (by decide) rfl (Nat.le_of_ble_eq_true rfl) (Nat.le_of_ble_eq_true rfl) (ev_X9_putNumber p2 μ3 hr_)) (fun r4 μ5 => ?_)
    refine W_s (s_aload_n dX11_feed_31 rfl rfl) ?_
    refine W_s (gf_RX11_12 rfl dX11_feed_32) ?_
    refine W_s (s_iload_n dX11_feed_35 rfl rfl) ?_
    refine W_bd (ec := gx_eV) (fun r_ μ_ hr_ => s_callV (As := [.int _]) dX11_feed_36 Lk_RX11_74 rfl g_1 (by decide) rfl (Nat.le_of_ble_eq_true rfl) (Nat.le_of_ble_eq_true rfl) (ev_X9_putNumber p3 μ5 hr_)) (fun r6 μ7 => ?_)
    refine W_s (s_aload_n dX11_feed_39 rfl rfl) ?_
    refine W_s (gf_RX11_12 rfl dX11_feed_40) ?_
    refine W_s (s_iload dX11_feed_43 rfl) ?_
    refine W_bd (ec := gx_eV) (fun r_ μ_ hr_ => s_callV (As := [.int _]) dX11_feed_45 Lk_RX11_74 rfl g_1 (by decide) rfl (Nat.le_of_ble_eq_true rfl) (Nat.le_of_ble_eq_true rfl) (ev_X9_putNumber p4 μ7 hr_)) (fun r8 μ9 => ?_)
    refine W_s (s_aload_n dX11_feed_48 rfl rfl) ?_
    refine W_s (gf_RX11_12 rfl dX11_feed_49) ?_
    refine W_s (s_iload dX11_feed_52 rfl) ?_
    refine W_bd (ec := gx_eV) (fun r_ μ_ hr_ => s_callV (As := [.int _]) dX11_feed_54 Lk_RX11_74 rfl g_1 (by decide) rfl (Nat.le_of_ble_eq_true rfl) (Nat.le_of_ble_eq_true rfl) (ev_X9_putNumber p5 μ9 hr_)) (fun r10 μ11 => ?_)
    refine W_s (s_aload_n dX11_feed_57 rfl rfl) ?_
    refine W_s (gf_RX11_12 rfl dX11_feed_58) ?_
    refine W_s (gf_RX11_70 rfl dX11_feed_61) ?_
    exact W_r (r := (μ11.1 1 6)) (f_int (ty := .int) dX11_feed_64 rfl rfl)
  · refine W_s (s_icmp_le_f dX11_feed_10 rfl h1) ?_
    refine W_s (s_iconst dX11_feed_13 kci_m1) ?_
    exact W_r (r := (-1)) (f_int (ty := .int) dX11_feed_14 rfl rfl)

def f_X11_hasPerson (p1 : Int32) (p2 : Int32) (μ : gx_M) : Option Bool := gx_br (f_X11_hasStreet p1 μ) (fun (r1 : Bool) => if r1 = true then gx_ck (gx_ix p1 2 = true) (gx_lt (8 + 16 * p1.toNatClampNeg) (fun (o4 : Nat) => if (f_X5_hasPerson o4 p2 μ) = true then some true else some false)) else some false)
theorem ev_X11_hasPerson {E : gx_E} {l : Launch} (p1 : Int32) (p2 : Int32) (μ : gx_M) {r : Bool} (hr : f_X11_hasPerson p1 p2 μ = some r) : gEv E l 1 Y_X11_hasPerson [.ref (E.2.2.1 + 0), .int p1, .int p2] gx_G1 μ (gx_eB r) gx_G1 μ := by
  refine R_ev (by decide) (Nat.le_of_ble_eq_true rfl) (em := gx_eB) (T := f_X11_hasPerson p1 p2 μ) ?_ hr
  show GoR E l Y_X11_hasPerson 1 gx_eB 0 (gx_el [.ref (E.2.2.1 + 0), .int p1, .int p2]) [] μ (f_X11_hasPerson p1 p2 μ)
  unfold f_X11_hasPerson
  refine R_s (s_aload_n dX11_hasPerson_0 rfl rfl) ?_
  refine R_s (s_iload_n dX11_hasPerson_1 rfl rfl) ?_
  refine R_br (ec := gx_eB) (fun r_ hr_ => s_callV (As := [.int _]) dX11_hasPerson_2 Lk_RX11_105 rfl g_0 (by decide) rfl (Nat.le_of_ble_eq_true rfl) (Nat.le_of_ble_eq_true rfl) (ev_X11_hasStreet p1 μ hr_)) (fun r1 => ?_)
  refine R_ite (fun h2 => ?_) (fun h2 => ?_)
  · refine R_s (s_if_eq_f dX11_hasPerson_5 rfl (gx_bt h2)) ?_
    refine R_s (s_aload_n dX11_hasPerson_8 rfl rfl) ?_
    refine R_s (gf_RX11_12 rfl dX11_hasPerson_9) ?_
    refine R_s (gf_RX11_109 rfl dX11_hasPerson_12) ?_
    refine R_s (s_iload_n dX11_hasPerson_15 rfl rfl) ?_
    refine R_ck (fun h3 => ?_)
    refine R_s (aq_3 dX11_hasPerson_16 (gx_ixv h3)) ?_
    refine R_letA (C := fun x => gx_St x) (aqh_3 (gx_ixv h3)) (fun o4 ho4 => ?_)
    refine R_s (s_iload_n dX11_hasPerson_17 rfl rfl) ?_
    refine R_s (s_callV (As := [.int _]) dX11_hasPerson_18 Lk_RX11_113 rfl (St_0 ho4) (by decide) rfl (Nat.le_of_ble_eq_true rfl) (Nat.le_of_ble_eq_true rfl) (ev_X5_hasPerson o4 p2 ho4 μ)) ?_
    refine R_ite (fun h5 => ?_) (fun h5 => ?_)
    · refine R_s (s_if_eq_f dX11_hasPerson_21 rfl (gx_bt h5)) ?_
      refine R_s (s_iconst dX11_hasPerson_24 kci_1) ?_
      refine R_s (s_goto dX11_hasPerson_25 rfl) ?_
      exact R_r (r := true) (f_int (ty := .boolean) (x := gx_bi true) dX11_hasPerson_29 rfl (gx_bn true))
    · refine R_s (s_if_eq_t dX11_hasPerson_21 rfl (gx_bf h5)) ?_
      refine R_s (s_iconst dX11_hasPerson_28 kci_0) ?_
      exact R_r (r := false) (f_int (ty := .boolean) (x := gx_bi false) dX11_hasPerson_29 rfl (gx_bn false))
  · refine R_s (s_if_eq_t dX11_hasPerson_5 rfl (gx_bf h2)) ?_
    refine R_s (s_iconst dX11_hasPerson_28 kci_0) ?_
    exact R_r (r := false) (f_int (ty := .boolean) (x := gx_bi false) dX11_hasPerson_29 rfl (gx_bn false))

def f_X11_partOfStreet (a0 : Nat) (p1 : Int32) (μ : gx_M) : Option Int32 := if (f_X11_isAmong p1 10 (μ.1 a0 1)) = true then gx_ck (gx_ix (p1 - 10) 4 = true) (some (μ.1 (a0 + 1) (p1 - 10).toNatClampNeg)) else if (f_X11_isAmong p1 20 (μ.1 a0 2)) = true then gx_ck (gx_ix (p1 - 20) 6 = true) (some (μ.1 (a0 + 4) (p1 - 20).toNatClampNeg)) else if (f_X11_isAmong p1 30 (μ.1 a0 2)) = true then gx_ck (gx_ix (p1 - 30) 6 = true) (some (μ.1 (a0 + 5) (p1 - 30).toNatClampNeg)) else if (f_X11_isAmong p1 40 (μ.1 a0 2)) = true then gx_ck (gx_ix (p1 - 40) 6 = true) (some (μ.1 (a0 + 6) (p1 - 40).toNatClampNeg)) else if (f_X11_isAmong p1 50 (μ.1 a0 2)) = true then gx_ck (gx_ix (p1 - 50) 6 = true) (some (μ.1 (a0 + 7) (p1 - 50).toNatClampNeg)) else if (f_X11_isAmong p1 100 (μ.1 a0 0)) = true then gx_ck (gx_ix (p1 - 100) 40 = true) (some (μ.1 (a0 + 2) (p1 - 100).toNatClampNeg)) else if (f_X11_isAmong p1 200 (μ.1 a0 0)) = true then gx_ck (gx_ix (p1 - 200) 40 = true) (some (μ.1 (a0 + 3) (p1 - 200).toNatClampNeg)) else some (-2)
theorem ev_X11_partOfStreet {E : gx_E} {l : Launch} (a0 : Nat) (p1 : Int32) (ha0 : gx_St a0) (μ : gx_M) {r : Int32} (hr : f_X11_partOfStreet a0 p1 μ = some r) : gEv E l 1 Y_X11_partOfStreet [.ref (E.2.2.1 + a0), .int p1] gx_G1 μ (gx_eI r) gx_G1 μ := by
  refine R_ev (by decide) (Nat.le_of_ble_eq_true rfl) (em := gx_eI) (T := f_X11_partOfStreet a0 p1 μ) ?_ hr
  show GoR E l Y_X11_partOfStreet 1 gx_eI 0 (gx_el [.ref (E.2.2.1 + a0), .int p1]) [] μ (f_X11_partOfStreet a0 p1 μ)
  unfold f_X11_partOfStreet
  refine R_s (s_iload_n dX11_partOfStreet_0 rfl rfl) ?_
  refine R_s (s_bipush dX11_partOfStreet_1 kcb_10) ?_
  refine R_s (s_aload_n dX11_partOfStreet_3 rfl rfl) ?_
  refine R_s (gfm_RX11_127 ha0 rfl dX11_partOfStreet_4) ?_
  refine R_s (s_callS (As := [.int _, .int _, .int _]) dX11_partOfStreet_7 Lk_RX11_137 rfl (Nat.le_of_ble_eq_true rfl) (Nat.le_of_ble_eq_true rfl) (ev_X11_isAmong p1 10 (μ.1 a0 1) μ)) ?_
  refine R_ite (fun h1 => ?_) (fun h1 => ?_)
  · refine R_s (s_if_eq_f dX11_partOfStreet_10 rfl (gx_bt h1)) ?_
    refine R_s (s_aload_n dX11_partOfStreet_13 rfl rfl) ?_
    refine R_s (gfm_RX11_141 ha0 rfl dX11_partOfStreet_14) ?_
    refine R_s (s_iload_n dX11_partOfStreet_17 rfl rfl) ?_
    refine R_s (s_bipush dX11_partOfStreet_18 kcb_10) ?_
    refine R_s (s_isub dX11_partOfStreet_20) ?_
    refine R_ck (fun h2 => ?_)
    refine R_s (s_iald dX11_partOfStreet_21 (St_1 ha0) (gx_ixv h2)) ?_
    exact R_r (r := (μ.1 (a0 + 1) (p1 - 10).toNatClampNeg)) (f_int (ty := .int) dX11_partOfStreet_22 rfl rfl)
  · refine R_s (s_if_eq_t dX11_partOfStreet_10 rfl (gx_bf h1)) ?_
    refine R_s (s_iload_n dX11_partOfStreet_23 rfl rfl) ?_
    refine R_s (s_bipush dX11_partOfStreet_24 kcb_20) ?_
    refine R_s (s_aload_n dX11_partOfStreet_26 rfl rfl) ?_
    refine R_s (gfm_RX11_130 ha0 rfl dX11_partOfStreet_27) ?_
    refine R_s (s_callS (As := [.int _, .int _, .int _]) dX11_partOfStreet_30 Lk_RX11_137 rfl (Nat.le_of_ble_eq_true rfl) (Nat.le_of_ble_eq_true rfl) (ev_X11_isAmong p1 20 (μ.1 a0 2) μ)) ?_
    refine R_ite (fun h3 => ?_) (fun h3 => ?_)
    · refine R_s (s_if_eq_f dX11_partOfStreet_33 rfl (gx_bt h3)) ?_
      refine R_s (s_aload_n dX11_partOfStreet_36 rfl rfl) ?_
      refine R_s (gfm_RX11_144 ha0 rfl dX11_partOfStreet_37) ?_
      refine R_s (s_iload_n dX11_partOfStreet_40 rfl rfl) ?_
      refine R_s (s_bipush dX11_partOfStreet_41 kcb_20) ?_
      refine R_s (s_isub dX11_partOfStreet_43) ?_
      refine R_ck (fun h4 => ?_)
      refine R_s (s_iald dX11_partOfStreet_44 (St_4 ha0) (gx_ixv h4)) ?_
      exact R_r (r := (μ.1 (a0 + 4) (p1 - 20).toNatClampNeg)) (f_int (ty := .int) dX11_partOfStreet_45 rfl rfl)
    · refine R_s (s_if_eq_t dX11_partOfStreet_33 rfl (gx_bf h3)) ?_
      refine R_s (s_iload_n dX11_partOfStreet_46 rfl rfl) ?_
      refine R_s (s_bipush dX11_partOfStreet_47 kcb_30) ?_
      refine R_s (s_aload_n dX11_partOfStreet_49 rfl rfl) ?_
      refine R_s (gfm_RX11_130 ha0 rfl dX11_partOfStreet_50) ?_
      refine R_s (s_callS (As := [.int _, .int _, .int _]) dX11_partOfStreet_53 Lk_RX11_137 rfl (Nat.le_of_ble_eq_true rfl) (Nat.le_of_ble_eq_true rfl) (ev_X11_isAmong p1 30 (μ.1 a0 2) μ)) ?_
      refine R_ite (fun h5 => ?_) (fun h5 => ?_)
      · refine R_s (s_if_eq_f dX11_partOfStreet_56 rfl (gx_bt h5)) ?_
        refine R_s (s_aload_n dX11_partOfStreet_59 rfl rfl) ?_
        refine R_s (gfm_RX11_146 ha0 rfl dX11_partOfStreet_60) ?_
        refine R_s (s_iload_n dX11_partOfStreet_63 rfl rfl) ?_
        refine R_s (s_bipush dX11_partOfStreet_64 kcb_30) ?_
        refine R_s (s_isub dX11_partOfStreet_66) ?_
        refine R_ck (fun h6 => ?_)
        refine R_s (s_iald dX11_partOfStreet_67 (St_5 ha0) (gx_ixv h6)) ?_
        exact R_r (r := (μ.1 (a0 + 5) (p1 - 30).toNatClampNeg)) (f_int (ty := .int) dX11_partOfStreet_68 rfl rfl)
      · refine R_s (s_if_eq_t dX11_partOfStreet_56 rfl (gx_bf h5)) ?_
        refine R_s (s_iload_n dX11_partOfStreet_69 rfl rfl) ?_
        refine R_s (s_bipush dX11_partOfStreet_70 kcb_40) ?_
        refine R_s (s_aload_n dX11_partOfStreet_72 rfl rfl) ?_
        refine R_s (gfm_RX11_130 ha0 rfl dX11_partOfStreet_73) ?_
        refine R_s (s_callS (As := [.int _, .int _, .int _]) dX11_partOfStreet_76 Lk_RX11_137 rfl (Nat.le_of_ble_eq_true rfl) (Nat.le_of_ble_eq_true rfl) (ev_X11_isAmong p1 40 (μ.1 a0 2) μ)) ?_
        refine R_ite (fun h7 => ?_) (fun h7 => ?_)
        · refine R_s (s_if_eq_f dX11_partOfStreet_79 rfl (gx_bt h7)) ?_
          refine R_s (s_aload_n dX11_partOfStreet_82 rfl rfl) ?_
          refine R_s (gfm_RX11_149 ha0 rfl dX11_partOfStreet_83) ?_
          refine R_s (s_iload_n dX11_partOfStreet_86 rfl rfl) ?_
          refine R_s (s_bipush dX11_partOfStreet_87 kcb_40) ?_
          refine R_s (s_isub dX11_partOfStreet_89) ?_
          refine R_ck (fun h8 => ?_)
          refine R_s (s_iald dX11_partOfStreet_90 (St_6 ha0) (gx_ixv h8)) ?_
          exact R_r (r := (μ.1 (a0 + 6) (p1 - 40).toNatClampNeg)) (f_int (ty := .int) dX11_partOfStreet_91 rfl rfl)
        · refine R_s (s_if_eq_t dX11_partOfStreet_79 rfl (gx_bf h7)) ?_
          refine R_s (s_iload_n dX11_partOfStreet_92 rfl rfl) ?_
          refine R_s (s_bipush dX11_partOfStreet_93 kcb_50) ?_
          refine R_s (s_aload_n dX11_partOfStreet_95 rfl rfl) ?_
          refine R_s (gfm_RX11_130 ha0 rfl dX11_partOfStreet_96) ?_
          refine R_s (s_callS (As := [.int _, .int _, .int _]) dX11_partOfStreet_99 Lk_RX11_137 rfl (Nat.le_of_ble_eq_true rfl) (Nat.le_of_ble_eq_true rfl) (ev_X11_isAmong p1 50 (μ.1 a0 2) μ)) ?_
          refine R_ite (fun h9 => ?_) (fun h9 => ?_)
          · refine R_s (s_if_eq_f dX11_partOfStreet_102 rfl (gx_bt h9)) ?_
            refine R_s (s_aload_n dX11_partOfStreet_105 rfl rfl) ?_
            refine R_s (gfm_RX11_152 ha0 rfl dX11_partOfStreet_106) ?_
            refine R_s (s_iload_n dX11_partOfStreet_109 rfl rfl) ?_
            refine R_s (s_bipush dX11_partOfStreet_110 kcb_50) ?_
            refine R_s (s_isub dX11_partOfStreet_112) ?_
            refine R_ck (fun h10 => ?_)
            refine R_s (s_iald dX11_partOfStreet_113 (St_7 ha0) (gx_ixv h10)) ?_
            exact R_r (r := (μ.1 (a0 + 7) (p1 - 50).toNatClampNeg)) (f_int (ty := .int) dX11_partOfStreet_114 rfl rfl)
          · refine R_s (s_if_eq_t dX11_partOfStreet_102 rfl (gx_bf h9)) ?_
            refine R_s (s_iload_n dX11_partOfStreet_115 rfl rfl) ?_
            refine R_s (s_bipush dX11_partOfStreet_116 kcb_100) ?_
            refine R_s (s_aload_n dX11_partOfStreet_118 rfl rfl) ?_
            refine R_s (gfm_RX11_124 ha0 rfl dX11_partOfStreet_119) ?_
            refine R_s (s_callS (As := [.int _, .int _, .int _]) dX11_partOfStreet_122 Lk_RX11_137 rfl (Nat.le_of_ble_eq_true rfl) (Nat.le_of_ble_eq_true rfl) (ev_X11_isAmong p1 100 (μ.1 a0 0) μ)) ?_
            refine R_ite (fun h11 => ?_) (fun h11 => ?_)
            · refine R_s (s_if_eq_f dX11_partOfStreet_125 rfl (gx_bt h11)) ?_
              refine R_s (s_aload_n dX11_partOfStreet_128 rfl rfl) ?_
              refine R_s (gfm_RX11_155 ha0 rfl dX11_partOfStreet_129) ?_
              refine R_s (s_iload_n dX11_partOfStreet_132 rfl rfl) ?_
              refine R_s (s_bipush dX11_partOfStreet_133 kcb_100) ?_
              refine R_s (s_isub dX11_partOfStreet_135) ?_
              refine R_ck (fun h12 => ?_)
              refine R_s (s_iald dX11_partOfStreet_136 (St_2 ha0) (gx_ixv h12)) ?_
              exact R_r (r := (μ.1 (a0 + 2) (p1 - 100).toNatClampNeg)) (f_int (ty := .int) dX11_partOfStreet_137 rfl rfl)
            · refine R_s (s_if_eq_t dX11_partOfStreet_125 rfl (gx_bf h11)) ?_
              refine R_s (s_iload_n dX11_partOfStreet_138 rfl rfl) ?_
              refine R_s (s_sipush dX11_partOfStreet_139 kcs_200) ?_
              refine R_s (s_aload_n dX11_partOfStreet_142 rfl rfl) ?_
              refine R_s (gfm_RX11_124 ha0 rfl dX11_partOfStreet_143) ?_
              refine R_s (s_callS (As := [.int _, .int _, .int _]) dX11_partOfStreet_146 Lk_RX11_137 rfl (Nat.le_of_ble_eq_true rfl) (Nat.le_of_ble_eq_true rfl) (ev_X11_isAmong p1 200 (μ.1 a0 0) μ)) ?_
              refine R_ite (fun h13 => ?_) (fun h13 => ?_)
              · refine R_s (s_if_eq_f dX11_partOfStreet_149 rfl (gx_bt h13)) ?_
                refine R_s (s_aload_n dX11_partOfStreet_152 rfl rfl) ?_
                refine R_s (gfm_RX11_158 ha0 rfl dX11_partOfStreet_153) ?_
                refine R_s (s_iload_n dX11_partOfStreet_156 rfl rfl) ?_
                refine R_s (s_sipush dX11_partOfStreet_157 kcs_200) ?_
                refine R_s (s_isub dX11_partOfStreet_160) ?_
                refine R_ck (fun h14 => ?_)
                refine R_s (s_iald dX11_partOfStreet_161 (St_3 ha0) (gx_ixv h14)) ?_
                exact R_r (r := (μ.1 (a0 + 3) (p1 - 200).toNatClampNeg)) (f_int (ty := .int) dX11_partOfStreet_162 rfl rfl)
              · refine R_s (s_if_eq_t dX11_partOfStreet_149 rfl (gx_bf h13)) ?_
                refine R_s (s_bipush dX11_partOfStreet_163 kcb_m2) ?_
                exact R_r (r := (-2)) (f_int (ty := .int) dX11_partOfStreet_165 rfl rfl)

def f_X11_deed (p1 : Int32) (p2 : Int32) (p3 : Int32) (μ : gx_M) : Option Int32 := gx_br (f_X11_hasYear p1 μ) (fun (r1 : Bool) => if r1 = true then gx_ck (gx_ix p1 2 = true) (gx_lt (16 + 16 * p1.toNatClampNeg) (fun (o4 : Nat) => if p2 = (-1) then if p3 = 0 then some (μ.1 o4 3) else some (-2) else if p2 < 0 then some (-2) else if (μ.1 o4 3) ≤ p2 then some (-2) else if p3 < 0 then some (-2) else if p3 ≤ 3 then if p3 = 0 then gx_ck (gx_ix p2 40 = true) (some ((μ.1 (o4 + 1) p2.toNatClampNeg) - 6)) else gx_br (f_X2_number o4 40 p2 (p3 - 1) μ) (fun (r11 : Int32) => some r11) else some (-2))) else some (-2))
theorem ev_X11_deed {E : gx_E} {l : Launch} (p1 : Int32) (p2 : Int32) (p3 : Int32) (μ : gx_M) {r : Int32} (hr : f_X11_deed p1 p2 p3 μ = some r) : gEv E l 1 Y_X11_deed [.ref (E.2.2.1 + 0), .int p1, .int p2, .int p3] gx_G1 μ (gx_eI r) gx_G1 μ := by
  refine R_ev (by decide) (Nat.le_of_ble_eq_true rfl) (em := gx_eI) (T := f_X11_deed p1 p2 p3 μ) ?_ hr
  show GoR E l Y_X11_deed 1 gx_eI 0 (gx_el [.ref (E.2.2.1 + 0), .int p1, .int p2, .int p3]) [] μ (f_X11_deed p1 p2 p3 μ)
  unfold f_X11_deed
  refine R_s (s_aload_n dX11_deed_0 rfl rfl) ?_
  refine R_s (s_iload_n dX11_deed_1 rfl rfl) ?_
  refine R_br (ec := gx_eB) (fun r_ hr_ => s_callV (As := [.int _]) dX11_deed_2 Lk_RX11_161 rfl g_0 (by decide) rfl (Nat.le_of_ble_eq_true rfl) (Nat.le_of_ble_eq_true rfl) (ev_X11_hasYear p1 μ hr_)) (fun r1 => ?_)
  refine R_ite (fun h2 => ?_) (fun h2 => ?_)
  · refine R_s (s_if_ne_t dX11_deed_5 rfl (gx_bt h2)) ?_
    refine R_s (s_aload_n dX11_deed_11 rfl rfl) ?_
    refine R_s (gf_RX11_12 rfl dX11_deed_12) ?_
    refine R_s (gf_RX11_164 rfl dX11_deed_15) ?_
    refine R_s (s_iload_n dX11_deed_18 rfl rfl) ?_
    refine R_ck (fun h3 => ?_)
    refine R_s (aq_4 dX11_deed_19 (gx_ixv h3)) ?_
    refine R_letA (C := fun x => gx_Ln x 40) (aqh_4 (gx_ixv h3)) (fun o4 ho4 => ?_)
    refine R_s (s_astore dX11_deed_20 (Nat.le_of_ble_eq_true rfl)) ?_
    refine R_s (s_iload_n dX11_deed_22 rfl rfl) ?_
    refine R_s (s_iconst dX11_deed_23 kci_m1) ?_
    refine R_ite (fun h5 => ?_) (fun h5 => ?_)
    · refine R_s (s_icmp_ne_f dX11_deed_24 rfl h5) ?_
      refine R_s (s_iload_n dX11_deed_27 rfl rfl) ?_
      refine R_ite (fun h13 => ?_) (fun h13 => ?_)
      · refine R_s (s_if_ne_f dX11_deed_28 rfl h13) ?_
        refine R_s (s_aload dX11_deed_31 rfl) ?_
        refine R_s (gfm_RX11_168 ho4 rfl dX11_deed_33) ?_
        refine R_s (s_goto dX11_deed_36 rfl) ?_
        exact R_r (r := (μ.1 o4 3)) (f_int (ty := .int) dX11_deed_41 rfl rfl)
      · refine R_s (s_if_ne_t dX11_deed_28 rfl h13) ?_
        refine R_s (s_bipush dX11_deed_39 kcb_m2) ?_
        exact R_r (r := (-2)) (f_int (ty := .int) dX11_deed_41 rfl rfl)
    · refine R_s (s_icmp_ne_t dX11_deed_24 rfl h5) ?_
      refine R_s (s_iload_n dX11_deed_42 rfl rfl) ?_
      refine R_ite (fun h6 => ?_) (fun h6 => ?_)
      · refine R_s (s_if_lt_t dX11_deed_43 rfl h6) ?_
        refine R_s (s_bipush dX11_deed_64 kcb_m2) ?_
        exact R_r (r := (-2)) (f_int (ty := .int) dX11_deed_66 rfl rfl)
      · refine R_s (s_if_lt_f dX11_deed_43 rfl h6) ?_
        refine R_s (s_iload_n dX11_deed_46 rfl rfl) ?_
        refine R_s (s_aload dX11_deed_47 rfl) ?_
        refine R_s (gfm_RX11_168 ho4 rfl dX11_deed_49) ?_
        refine R_ite (fun h7 => ?_) (fun h7 => ?_)
        · refine R_s (s_icmp_ge_t dX11_deed_52 rfl h7) ?_
          refine R_s (s_bipush dX11_deed_64 kcb_m2) ?_
          exact R_r (r := (-2)) (f_int (ty := .int) dX11_deed_66 rfl rfl)
        · refine R_s (s_icmp_ge_f dX11_deed_52 rfl h7) ?_
          refine R_s (s_iload_n dX11_deed_55 rfl rfl) ?_
          refine R_ite (fun h8 => ?_) (fun h8 => ?_)
          · refine R_s (s_if_lt_t dX11_deed_56 rfl h8) ?_
            refine R_s (s_bipush dX11_deed_64 kcb_m2) ?_
            exact R_r (r := (-2)) (f_int (ty := .int) dX11_deed_66 rfl rfl)
          · refine R_s (s_if_lt_f dX11_deed_56 rfl h8) ?_
            refine R_s (s_iload_n dX11_deed_59 rfl rfl) ?_
            refine R_s (s_iconst dX11_deed_60 kci_3) ?_
            refine R_ite (fun h9 => ?_) (fun h9 => ?_)
            · refine R_s (s_icmp_le_t dX11_deed_61 rfl h9) ?_
              refine R_s (s_iload_n dX11_deed_67 rfl rfl) ?_
              refine R_ite (fun h10 => ?_) (fun h10 => ?_)
              · refine R_s (s_if_ne_f dX11_deed_68 rfl h10) ?_
                refine R_s (s_aload dX11_deed_71 rfl) ?_
                refine R_s (gfm_RX11_172 ho4 rfl dX11_deed_73) ?_
                refine R_s (s_iload_n dX11_deed_76 rfl rfl) ?_
                refine R_ck (fun h12 => ?_)
                refine R_s (s_iald dX11_deed_77 (Ln_1 ho4) (gx_ixv h12)) ?_
                refine R_s (s_bipush dX11_deed_78 kcb_6) ?_
                refine R_s (s_isub dX11_deed_80) ?_
                refine R_s (s_goto dX11_deed_81 rfl) ?_
                exact R_r (r := ((μ.1 (o4 + 1) p2.toNatClampNeg) - 6)) (f_int (ty := .int) dX11_deed_93 rfl rfl)
              · refine R_s (s_if_ne_t dX11_deed_68 rfl h10) ?_
                refine R_s (s_aload dX11_deed_84 rfl) ?_
                refine R_s (s_iload_n dX11_deed_86 rfl rfl) ?_
                refine R_s (s_iload_n dX11_deed_87 rfl rfl) ?_
                refine R_s (s_iconst dX11_deed_88 kci_1) ?_
                refine R_s (s_isub dX11_deed_89) ?_
                refine R_br (ec := gx_eI) (fun r_ hr_ => s_callV (As := [.int _, .int _]) dX11_deed_90 Lk_RX11_175 rfl (Ln_0 ho4) (by decide) rfl (Nat.le_of_ble_eq_true rfl) (Nat.le_of_ble_eq_true rfl) (ev_X2_number o4 40 p2 (p3 - 1) ho4 μ hr_)) (fun r11 => ?_)
                exact R_r (r := r11) (f_int (ty := .int) dX11_deed_93 rfl rfl)
            · refine R_s (s_icmp_le_f dX11_deed_61 rfl h9) ?_
              refine R_s (s_bipush dX11_deed_64 kcb_m2) ?_
              exact R_r (r := (-2)) (f_int (ty := .int) dX11_deed_66 rfl rfl)
  · refine R_s (s_if_ne_f dX11_deed_5 rfl (gx_bf h2)) ?_
    refine R_s (s_bipush dX11_deed_8 kcb_m2) ?_
    exact R_r (r := (-2)) (f_int (ty := .int) dX11_deed_10 rfl rfl)

def L_X11_bestTaking_5 (μ : gx_M) (a1 : Nat) (p2 : Int32) (k3 : Int32 → Option Int32) : Nat → Int32 → Int32 → Option Int32
  | 0, _, _ => none
  | n + 1, v3_1, v4_2 => if 3 < v4_2 then k3 v3_1 else if (μ.1 a1 0) < (p2 + v4_2) then k3 v3_1 else gx_br (f_X11_marginOf a1 p2 v4_2 μ) (fun (r6 : Int32) => gx_br (f_X11_marginOf a1 p2 v3_1 μ) (fun (r7 : Int32) => gx_lt (fun (j0_10 : Int32) => L_X11_bestTaking_5 μ a1 p2 k3 n j0_10 (v4_2 + 1)) (fun J8 => if r6 ≤ r7 then J8 v3_1 else J8 v4_2)))
def f_X11_bestTaking (a1 : Nat) (p2 : Int32) (μ : gx_M) : Option Int32 := L_X11_bestTaking_5 μ a1 p2 (fun (x3_12 : Int32) => some x3_12) 4000 1 2
theorem okL_X11_bestTaking_5 {E : gx_E} {l : Launch} {μ : gx_M} {a1 : Nat} {p2 : Int32} (ha1 : gx_St a1) {k3 : Int32 → Option Int32} (hk : ∀ (w11 : Int32), GoR E l Y_X11_bestTaking 1 gx_eI 49 [none, none, none, some (.int w11)] [] μ (k3 w11)) : ∀ (n : Nat) (v3_1 : Int32) (v4_2 : Int32), GoR E l Y_X11_bestTaking 1 gx_eI 5 [some (.ref (E.2.2.1 + 0)), some (.ref (E.2.2.1 + a1)), some (.int p2), some (.int v3_1), some (.int v4_2)] [] μ (L_X11_bestTaking_5 μ a1 p2 k3 n v3_1 v4_2) := by
  intro n
  induction n with
  | zero => intros; exact R_no
  | succ n ih =>
    intro v3_1 v4_2
    rw [L_X11_bestTaking_5.eq_2]
    refine R_s (s_iload dX11_bestTaking_5 rfl) ?_
    refine R_s (s_iconst dX11_bestTaking_7 kci_3) ?_
    refine R_ite (fun h4 => ?_) (fun h4 => ?_)
    · refine R_s (s_icmp_gt_t dX11_bestTaking_8 rfl h4) ?_
      exact R_wk (hk v3_1) (le_o (le_o (le_o (le_s rfl le_n))))
    · refine R_s (s_icmp_gt_f dX11_bestTaking_8 rfl h4) ?_
      refine R_s (s_iload_n dX11_bestTaking_11 rfl rfl) ?_
      refine R_s (s_iload dX11_bestTaking_12 rfl) ?_
      refine R_s (s_iadd dX11_bestTaking_14) ?_
      refine R_s (s_aload_n dX11_bestTaking_15 rfl rfl) ?_
      refine R_s (gfm_RX11_124 ha1 rfl dX11_bestTaking_16) ?_
      refine R_ite (fun h5 => ?_) (fun h5 => ?_)
      · refine R_s (s_icmp_gt_t dX11_bestTaking_19 rfl h5) ?_
        exact R_wk (hk v3_1) (le_o (le_o (le_o (le_s rfl le_n))))
      · refine R_s (s_icmp_gt_f dX11_bestTaking_19 rfl h5) ?_
        refine R_s (s_aload_n dX11_bestTaking_22 rfl rfl) ?_
        refine R_s (s_aload_n dX11_bestTaking_23 rfl rfl) ?_
        refine R_s (s_iload_n dX11_bestTaking_24 rfl rfl) ?_
        refine R_s (s_iload dX11_bestTaking_25 rfl) ?_
        refine R_br (ec := gx_eI) (fun r_ hr_ => s_callV (As := [.ref _, .int _, .int _]) dX11_bestTaking_27 Lk_RX11_281 rfl g_0 (by decide) rfl (Nat.le_of_ble_eq_true rfl) (Nat.le_of_ble_eq_true rfl) (ev_X11_marginOf a1 p2 v4_2 ha1 μ hr_)) (fun r6 => ?_)
        refine R_s (s_aload_n dX11_bestTaking_30 rfl rfl) ?_
        refine R_s (s_aload_n dX11_bestTaking_31 rfl rfl) ?_
        refine R_s (s_iload_n dX11_bestTaking_32 rfl rfl) ?_
        refine R_s (s_iload_n dX11_bestTaking_33 rfl rfl) ?_
        refine R_br (ec := gx_eI) (fun r_ hr_ => s_callV (As := [.ref _, .int _, .int _]) dX11_bestTaking_34 Lk_RX11_281 rfl g_0 (by decide) rfl (Nat.le_of_ble_eq_true rfl) (Nat.le_of_ble_eq_true rfl) (ev_X11_marginOf a1 p2 v3_1 ha1 μ hr_)) (fun r7 => ?_)
        refine R_fun (fun J => ∀ (j0_10 : Int32), GoR E l Y_X11_bestTaking 1 gx_eI 43 [some (.ref (E.2.2.1 + 0)), some (.ref (E.2.2.1 + a1)), some (.int p2), some (.int j0_10), some (.int v4_2)] [] μ (J j0_10)) ?_ (fun J8 hJ8 => ?_)
        · intro j0_10
          refine R_s (s_iinc dX11_bestTaking_43 rfl (kinc_1 v4_2) (Nat.le_of_ble_eq_true rfl)) ?_
          refine R_s (s_goto dX11_bestTaking_46 rfl) ?_
          exact R_wk (ih j0_10 (v4_2 + 1)) (le_s rfl (le_s rfl (le_s rfl (le_s rfl (le_s rfl le_n)))))
        · skip
          refine R_ite (fun h9 => ?_) (fun h9 => ?_)
          · refine R_s (s_icmp_le_t dX11_bestTaking_37 rfl h9) ?_
            exact R_wk (hJ8 v3_1) (le_s rfl (le_s rfl (le_s rfl (le_s rfl (le_s rfl le_n)))))
          · refine R_s (s_icmp_le_f dX11_bestTaking_37 rfl h9) ?_
            refine R_s (s_iload dX11_bestTaking_40 rfl) ?_
            refine R_s (s_istore_n dX11_bestTaking_42 rfl (Nat.le_of_ble_eq_true rfl)) ?_
            exact R_wk (hJ8 v4_2) (le_s rfl (le_s rfl (le_s rfl (le_s rfl (le_s rfl le_n)))))
theorem ev_X11_bestTaking {E : gx_E} {l : Launch} (a1 : Nat) (p2 : Int32) (ha1 : gx_St a1) (μ : gx_M) {r : Int32} (hr : f_X11_bestTaking a1 p2 μ = some r) : gEv E l 1 Y_X11_bestTaking [.ref (E.2.2.1 + 0), .ref (E.2.2.1 + a1), .int p2] gx_G1 μ (gx_eI r) gx_G1 μ := by
  refine R_ev (by decide) (Nat.le_of_ble_eq_true rfl) (em := gx_eI) (T := f_X11_bestTaking a1 p2 μ) ?_ hr
  show GoR E l Y_X11_bestTaking 1 gx_eI 0 (gx_el [.ref (E.2.2.1 + 0), .ref (E.2.2.1 + a1), .int p2]) [] μ (f_X11_bestTaking a1 p2 μ)
  unfold f_X11_bestTaking
  refine R_s (s_iconst dX11_bestTaking_0 kci_1) ?_
  refine R_s (s_istore_n dX11_bestTaking_1 rfl (Nat.le_of_ble_eq_true rfl)) ?_
  refine R_s (s_iconst dX11_bestTaking_2 kci_2) ?_
  refine R_s (s_istore dX11_bestTaking_3 (Nat.le_of_ble_eq_true rfl)) ?_
  refine R_wk (okL_X11_bestTaking_5 ha1 ?_ 4000 1 2) (le_s rfl (le_s rfl (le_s rfl (le_s rfl (le_s rfl le_n)))))
  intro x3_12
  refine R_s (s_iload_n dX11_bestTaking_49 rfl rfl) ?_
  exact R_r (r := x3_12) (f_int (ty := .int) dX11_bestTaking_50 rfl rfl)

def L_X11_waysLeft_5 (p0 : Int32) (μ : gx_M) (p2 : Int32) (k3 : Int64 → Option Int64) : Nat → Int64 → Int32 → Option Int64
  | 0, _, _ => none
  | n + 1, v3_1, v5_2 => if p0 < v5_2 then k3 v3_1 else gx_br (f_X11_picks p0 v5_2 μ) (fun (r5 : Int64) => gx_br (f_X11_power ((((10 : Int32) - p2) : Int32).toInt64) v5_2 μ) (fun (r6 : Int64) => gx_br (f_X11_power ((p2 : Int32).toInt64) (p0 - v5_2) μ) (fun (r7 : Int64) => gx_lt (v3_1 + ((r5 * r6) * r7)) (fun (x8 : Int64) => L_X11_waysLeft_5 p0 μ p2 k3 n x8 (v5_2 + 1)))))
def f_X11_waysLeft (p0 : Int32) (p1 : Int32) (p2 : Int32) (μ : gx_M) : Option Int64 := L_X11_waysLeft_5 p0 μ p2 (fun (x3_10 : Int64) => some x3_10) 4000 0 p1
theorem okL_X11_waysLeft_5 {E : gx_E} {l : Launch} {p0 : Int32} {μ : gx_M} {p2 : Int32} {k3 : Int64 → Option Int64} (hk : ∀ (w9 : Int64), GoR E l Y_X11_waysLeft 1 gx_eL 47 [none, none, none, some (.long w9)] [] μ (k3 w9)) : ∀ (n : Nat) (v3_1 : Int64) (v5_2 : Int32), GoR E l Y_X11_waysLeft 1 gx_eL 5 [some (.int p0), none, some (.int p2), some (.long v3_1), none, some (.int v5_2)] [] μ (L_X11_waysLeft_5 p0 μ p2 k3 n v3_1 v5_2) := by
  intro n
  induction n with
  | zero => intros; exact R_no
  | succ n ih =>
    intro v3_1 v5_2
    rw [L_X11_waysLeft_5.eq_2]
    refine R_s (s_iload dX11_waysLeft_5 rfl) ?_
    refine R_s (s_iload_n dX11_waysLeft_7 rfl rfl) ?_
    refine R_ite (fun h4 => ?_) (fun h4 => ?_)
    · refine R_s (s_icmp_gt_t dX11_waysLeft_8 rfl h4) ?_
      exact R_wk (hk v3_1) (le_o (le_o (le_o (le_s rfl le_n))))
    · refine R_s (s_icmp_gt_f dX11_waysLeft_8 rfl h4) ?_
      refine R_s (s_lload_n dX11_waysLeft_11 rfl rfl) ?_
      refine R_s (s_iload_n dX11_waysLeft_12 rfl rfl) ?_
      refine R_s (s_iload dX11_waysLeft_13 rfl) ?_
      refine R_br (ec := gx_eL) (fun r_ hr_ => s_callS (As := [.int _, .int _]) dX11_waysLeft_15 Lk_RX11_309 rfl (Nat.le_of_ble_eq_true rfl) (Nat.le_of_ble_eq_true rfl) (ev_X11_picks p0 v5_2 μ hr_)) (fun r5 => ?_)
      refine R_s (s_bipush dX11_waysLeft_18 kcb_10) ?_
      refine R_s (s_iload_n dX11_waysLeft_20 rfl rfl) ?_
      refine R_s (s_isub dX11_waysLeft_21) ?_
      refine R_s (s_i2l dX11_waysLeft_22) ?_
      refine R_s (s_iload dX11_waysLeft_23 rfl) ?_
      refine R_br (ec := gx_eL) (fun r_ hr_ => s_callS (As := [.long _, .int _]) dX11_waysLeft_25 Lk_RX11_299 rfl (Nat.le_of_ble_eq_true rfl) (Nat.le_of_ble_eq_true rfl) (ev_X11_power ((((10 : Int32) - p2) : Int32).toInt64) v5_2 μ hr_)) (fun r6 => ?_)
      refine R_s (s_lmul dX11_waysLeft_28) ?_
      refine R_s (s_iload_n dX11_waysLeft_29 rfl rfl) ?_
      refine R_s (s_i2l dX11_waysLeft_30) ?_
      refine R_s (s_iload_n dX11_waysLeft_31 rfl rfl) ?_
      refine R_s (s_iload dX11_waysLeft_32 rfl) ?_
      refine R_s (s_isub dX11_waysLeft_34) ?_
      refine R_br (ec := gx_eL) (fun r_ hr_ => s_callS (As := [.long _, .int _]) dX11_waysLeft_35 Lk_RX11_299 rfl (Nat.le_of_ble_eq_true rfl) (Nat.le_of_ble_eq_true rfl) (ev_X11_power ((p2 : Int32).toInt64) (p0 - v5_2) μ hr_)) (fun r7 => ?_)
      refine R_s (s_lmul dX11_waysLeft_38) ?_
      refine R_s (s_ladd dX11_waysLeft_39) ?_
      refine R_letL (fun x8 => ?_)
      refine R_s (s_lstore_n dX11_waysLeft_40 rfl (Nat.le_of_ble_eq_true rfl)) ?_
      refine R_s (s_iinc dX11_waysLeft_41 rfl (kinc_1 v5_2) (Nat.le_of_ble_eq_true rfl)) ?_
      refine R_s (s_goto dX11_waysLeft_44 rfl) ?_
      exact R_wk (ih x8 (v5_2 + 1)) (le_s rfl (le_o (le_s rfl (le_s rfl (le_o (le_s rfl le_n))))))
theorem ev_X11_waysLeft {E : gx_E} {l : Launch} (p0 : Int32) (p1 : Int32) (p2 : Int32) (μ : gx_M) {r : Int64} (hr : f_X11_waysLeft p0 p1 p2 μ = some r) : gEv E l 1 Y_X11_waysLeft [.int p0, .int p1, .int p2] gx_G1 μ (gx_eL r) gx_G1 μ := by
  refine R_ev (by decide) (Nat.le_of_ble_eq_true rfl) (em := gx_eL) (T := f_X11_waysLeft p0 p1 p2 μ) ?_ hr
  show GoR E l Y_X11_waysLeft 1 gx_eL 0 (gx_el [.int p0, .int p1, .int p2]) [] μ (f_X11_waysLeft p0 p1 p2 μ)
  unfold f_X11_waysLeft
  refine R_s (s_lconst dX11_waysLeft_0 kcl_0) ?_
  refine R_s (s_lstore_n dX11_waysLeft_1 rfl (Nat.le_of_ble_eq_true rfl)) ?_
  refine R_s (s_iload_n dX11_waysLeft_2 rfl rfl) ?_
  refine R_s (s_istore dX11_waysLeft_3 (Nat.le_of_ble_eq_true rfl)) ?_
  refine R_wk (okL_X11_waysLeft_5 ?_ 4000 0 p1) (le_s rfl (le_o (le_s rfl (le_s rfl (le_o (le_s rfl le_n))))))
  intro x3_10
  refine R_s (s_lload_n dX11_waysLeft_47 rfl rfl) ?_
  exact R_r (r := x3_10) (f_long dX11_waysLeft_48 rfl)

def f_X11_lowest (p0 : Int64) (p2 : Int64) (p4 : Bool) (μ : gx_M) : Option Int64 := gx_br (f_X11_commonDivisor p0 p2 μ) (fun (r1 : Int64) => if 1 ≤ r1 then if p4 = true then gx_ck (¬ r1 = 0) (some (p2 / r1)) else gx_ck (¬ r1 = 0) (some (p0 / r1)) else some (-1))
theorem ev_X11_lowest {E : gx_E} {l : Launch} (p0 : Int64) (p2 : Int64) (p4 : Bool) (μ : gx_M) {r : Int64} (hr : f_X11_lowest p0 p2 p4 μ = some r) : gEv E l 1 Y_X11_lowest [.long p0, .long p2, .int (gx_bi p4)] gx_G1 μ (gx_eL r) gx_G1 μ := by
  refine R_ev (by decide) (Nat.le_of_ble_eq_true rfl) (em := gx_eL) (T := f_X11_lowest p0 p2 p4 μ) ?_ hr
  show GoR E l Y_X11_lowest 1 gx_eL 0 (gx_el [.long p0, .long p2, .int (gx_bi p4)]) [] μ (f_X11_lowest p0 p2 p4 μ)
  unfold f_X11_lowest
  refine R_s (s_lload_n dX11_lowest_0 rfl rfl) ?_
  refine R_s (s_lload_n dX11_lowest_1 rfl rfl) ?_
  refine R_br (ec := gx_eL) (fun r_ hr_ => s_callS (As := [.long _, .long _]) dX11_lowest_2 Lk_RX11_313 rfl (Nat.le_of_ble_eq_true rfl) (Nat.le_of_ble_eq_true rfl) (ev_X11_commonDivisor p0 p2 μ hr_)) (fun r1 => ?_)
  refine R_s (s_lstore dX11_lowest_5 (Nat.le_of_ble_eq_true rfl)) ?_
  refine R_s (s_lload dX11_lowest_7 rfl) ?_
  refine R_s (s_lconst dX11_lowest_9 kcl_1) ?_
  refine R_s (s_lcmp dX11_lowest_10) ?_
  refine R_ite (fun h2 => ?_) (fun h2 => ?_)
  · refine R_s (s_if_ge_t dX11_lowest_11 rfl ((lgc_ge r1 1).mpr h2)) ?_
    refine R_s (s_iload dX11_lowest_18 rfl) ?_
    refine R_ite (fun h3 => ?_) (fun h3 => ?_)
    · refine R_s (s_if_eq_f dX11_lowest_20 rfl (gx_bt h3)) ?_
      refine R_s (s_lload_n dX11_lowest_23 rfl rfl) ?_
      refine R_s (s_goto dX11_lowest_24 rfl) ?_
      refine R_s (s_lload dX11_lowest_28 rfl) ?_
      refine R_ck (fun h4 => ?_)
      refine R_s (s_ldiv dX11_lowest_30 h4) ?_
      exact R_r (r := (p2 / r1)) (f_long dX11_lowest_31 rfl)
    · refine R_s (s_if_eq_t dX11_lowest_20 rfl (gx_bf h3)) ?_
      refine R_s (s_lload_n dX11_lowest_27 rfl rfl) ?_
      refine R_s (s_lload dX11_lowest_28 rfl) ?_
      refine R_ck (fun h5 => ?_)
      refine R_s (s_ldiv dX11_lowest_30 h5) ?_
      exact R_r (r := (p0 / r1)) (f_long dX11_lowest_31 rfl)
  · refine R_s (s_if_ge_f dX11_lowest_11 rfl (fun hc => h2 ((lgc_ge r1 1).mp hc))) ?_
    refine R_s (s_ldc2 dX11_lowest_14 kw_RX11_250) ?_
    exact R_r (r := (-1)) (f_long dX11_lowest_17 rfl)

def L_X11_dayBefore_6 (p0 : Int64) (p2 : Int64) (k3 : Int64 → Option Int64) : Nat → Int64 → Int32 → Option Int64
  | 0, _, _ => none
  | n + 1, v4_1, v6_2 => if 9 < v6_2 then k3 v4_1 else gx_lt (if p0 < (((v6_2 : Int32).toInt64) * p2) then (((v6_2 : Int32).toInt64) * p2) else p0) (fun (x5 : Int64) => gx_lt (v4_1 + x5) (fun (x6 : Int64) => L_X11_dayBefore_6 p0 p2 k3 n x6 (v6_2 + 1)))
def f_X11_dayBefore (p0 : Int64) (p2 : Int64) (μ : gx_M) : Option Int64 := L_X11_dayBefore_6 p0 p2 (fun (x4_8 : Int64) => some x4_8) 4000 0 0
theorem okL_X11_dayBefore_6 {E : gx_E} {l : Launch} {p0 : Int64} {p2 : Int64} {μ : gx_M} {k3 : Int64 → Option Int64} (hk : ∀ (w7 : Int64), GoR E l Y_X11_dayBefore 1 gx_eL 33 [none, none, none, none, some (.long w7)] [] μ (k3 w7)) : ∀ (n : Nat) (v4_1 : Int64) (v6_2 : Int32), GoR E l Y_X11_dayBefore 1 gx_eL 6 [some (.long p0), none, some (.long p2), none, some (.long v4_1), none, some (.int v6_2)] [] μ (L_X11_dayBefore_6 p0 p2 k3 n v4_1 v6_2) := by
  intro n
  induction n with
  | zero => intros; exact R_no
  | succ n ih =>
    intro v4_1 v6_2
    rw [L_X11_dayBefore_6.eq_2]
    refine R_s (s_iload dX11_dayBefore_6 rfl) ?_
    refine R_s (s_bipush dX11_dayBefore_8 kcb_9) ?_
    refine R_ite (fun h4 => ?_) (fun h4 => ?_)
    · refine R_s (s_icmp_gt_t dX11_dayBefore_10 rfl h4) ?_
      exact R_wk (hk v4_1) (le_o (le_o (le_o (le_o (le_s rfl le_n)))))
    · refine R_s (s_icmp_gt_f dX11_dayBefore_10 rfl h4) ?_
      refine R_s (s_lload dX11_dayBefore_13 rfl) ?_
      refine R_s (s_iload dX11_dayBefore_15 rfl) ?_
      refine R_s (s_i2l dX11_dayBefore_17) ?_
      refine R_s (s_lload_n dX11_dayBefore_18 rfl rfl) ?_
      refine R_s (s_lmul dX11_dayBefore_19) ?_
      refine R_s (s_lload_n dX11_dayBefore_20 rfl rfl) ?_
      refine R_s (s_mmaxl dX11_dayBefore_21 Lk_RX11_324 (Nat.le_of_ble_eq_true rfl) (Nat.le_of_ble_eq_true rfl)) ?_
      refine R_letL (fun x5 => ?_)
      refine R_s (s_ladd dX11_dayBefore_24) ?_
      refine R_letL (fun x6 => ?_)
      refine R_s (s_lstore dX11_dayBefore_25 (Nat.le_of_ble_eq_true rfl)) ?_
      refine R_s (s_iinc dX11_dayBefore_27 rfl (kinc_1 v6_2) (Nat.le_of_ble_eq_true rfl)) ?_
      refine R_s (s_goto dX11_dayBefore_30 rfl) ?_
      exact R_wk (ih x6 (v6_2 + 1)) (le_s rfl (le_o (le_s rfl (le_o (le_s rfl (le_o (le_s rfl le_n)))))))
theorem ev_X11_dayBefore {E : gx_E} {l : Launch} (p0 : Int64) (p2 : Int64) (μ : gx_M) {r : Int64} (hr : f_X11_dayBefore p0 p2 μ = some r) : gEv E l 1 Y_X11_dayBefore [.long p0, .long p2] gx_G1 μ (gx_eL r) gx_G1 μ := by
  refine R_ev (by decide) (Nat.le_of_ble_eq_true rfl) (em := gx_eL) (T := f_X11_dayBefore p0 p2 μ) ?_ hr
  show GoR E l Y_X11_dayBefore 1 gx_eL 0 (gx_el [.long p0, .long p2]) [] μ (f_X11_dayBefore p0 p2 μ)
  unfold f_X11_dayBefore
  refine R_s (s_lconst dX11_dayBefore_0 kcl_0) ?_
  refine R_s (s_lstore dX11_dayBefore_1 (Nat.le_of_ble_eq_true rfl)) ?_
  refine R_s (s_iconst dX11_dayBefore_3 kci_0) ?_
  refine R_s (s_istore dX11_dayBefore_4 (Nat.le_of_ble_eq_true rfl)) ?_
  refine R_wk (okL_X11_dayBefore_6 ?_ 4000 0 0) (le_s rfl (le_o (le_s rfl (le_o (le_s rfl (le_o (le_s rfl le_n)))))))
  intro x4_8
  refine R_s (s_lload dX11_dayBefore_33 rfl) ?_
  exact R_r (r := x4_8) (f_long dX11_dayBefore_35 rfl)

def f_X11_fact (p1 : Int32) (p2 : Int32) (p3 : Int32) (μ : gx_M) : Option Int32 := gx_br (f_X11_hasLog p1 μ) (fun (r1 : Bool) => if r1 = true then gx_ck (gx_ix p1 2 = true) (gx_lt (19 + 16 * p1.toNatClampNeg) (fun (o4 : Nat) => if p2 = (-1) then if p3 = 0 then some (μ.1 o4 3) else some (-2) else if p2 < 0 then some (-2) else if (μ.1 o4 3) ≤ p2 then some (-2) else if p3 < 0 then some (-2) else if p3 ≤ 1 then if p3 = 1 then gx_br (f_X2_number o4 8 p2 0 μ) (fun (r13 : Int32) => some r13) else gx_ck (gx_ix p2 8 = true) (if (μ.1 (o4 + 1) p2.toNatClampNeg) = 13 then some 1 else some 0) else some (-2))) else some (-2))
theorem ev_X11_fact {E : gx_E} {l : Launch} (p1 : Int32) (p2 : Int32) (p3 : Int32) (μ : gx_M) {r : Int32} (hr : f_X11_fact p1 p2 p3 μ = some r) : gEv E l 1 Y_X11_fact [.ref (E.2.2.1 + 0), .int p1, .int p2, .int p3] gx_G1 μ (gx_eI r) gx_G1 μ := by
  refine R_ev (by decide) (Nat.le_of_ble_eq_true rfl) (em := gx_eI) (T := f_X11_fact p1 p2 p3 μ) ?_ hr
  show GoR E l Y_X11_fact 1 gx_eI 0 (gx_el [.ref (E.2.2.1 + 0), .int p1, .int p2, .int p3]) [] μ (f_X11_fact p1 p2 p3 μ)
  unfold f_X11_fact
  refine R_s (s_aload_n dX11_fact_0 rfl rfl) ?_
  refine R_s (s_iload_n dX11_fact_1 rfl rfl) ?_
  refine R_br (ec := gx_eB) (fun r_ hr_ => s_callV (As := [.int _]) dX11_fact_2 Lk_RX11_329 rfl g_0 (by decide) rfl (Nat.le_of_ble_eq_true rfl) (Nat.le_of_ble_eq_true rfl) (ev_X11_hasLog p1 μ hr_)) (fun r1 => ?_)
  refine R_ite (fun h2 => ?_) (fun h2 => ?_)
  · refine R_s (s_if_ne_t dX11_fact_5 rfl (gx_bt h2)) ?_
    refine R_s (s_aload_n dX11_fact_11 rfl rfl) ?_
    refine R_s (gf_RX11_12 rfl dX11_fact_12) ?_
    refine R_s (gf_RX11_332 rfl dX11_fact_15) ?_
    refine R_s (s_iload_n dX11_fact_18 rfl rfl) ?_
    refine R_ck (fun h3 => ?_)
    refine R_s (aq_5 dX11_fact_19 (gx_ixv h3)) ?_
    refine R_letA (C := fun x => gx_Ln x 8) (aqh_5 (gx_ixv h3)) (fun o4 ho4 => ?_)
    refine R_s (s_astore dX11_fact_20 (Nat.le_of_ble_eq_true rfl)) ?_
    refine R_s (s_iload_n dX11_fact_22 rfl rfl) ?_
    refine R_s (s_iconst dX11_fact_23 kci_m1) ?_
    refine R_ite (fun h5 => ?_) (fun h5 => ?_)
    · refine R_s (s_icmp_ne_f dX11_fact_24 rfl h5) ?_
      refine R_s (s_iload_n dX11_fact_27 rfl rfl) ?_
      refine R_ite (fun h14 => ?_) (fun h14 => ?_)
      · refine R_s (s_if_ne_f dX11_fact_28 rfl h14) ?_
        refine R_s (s_aload dX11_fact_31 rfl) ?_
        refine R_s (gfm_RX11_168 ho4 rfl dX11_fact_33) ?_
        refine R_s (s_goto dX11_fact_36 rfl) ?_
        exact R_r (r := (μ.1 o4 3)) (f_int (ty := .int) dX11_fact_41 rfl rfl)
      · refine R_s (s_if_ne_t dX11_fact_28 rfl h14) ?_
        refine R_s (s_bipush dX11_fact_39 kcb_m2) ?_
        exact R_r (r := (-2)) (f_int (ty := .int) dX11_fact_41 rfl rfl)
    · refine R_s (s_icmp_ne_t dX11_fact_24 rfl h5) ?_
      refine R_s (s_iload_n dX11_fact_42 rfl rfl) ?_
      refine R_ite (fun h6 => ?_) (fun h6 => ?_)
      · refine R_s (s_if_lt_t dX11_fact_43 rfl h6) ?_
        refine R_s (s_bipush dX11_fact_64 kcb_m2) ?_
        exact R_r (r := (-2)) (f_int (ty := .int) dX11_fact_66 rfl rfl)
      · refine R_s (s_if_lt_f dX11_fact_43 rfl h6) ?_
        refine R_s (s_iload_n dX11_fact_46 rfl rfl) ?_
        refine R_s (s_aload dX11_fact_47 rfl) ?_
        refine R_s (gfm_RX11_168 ho4 rfl dX11_fact_49) ?_
        refine R_ite (fun h7 => ?_) (fun h7 => ?_)
        · refine R_s (s_icmp_ge_t dX11_fact_52 rfl h7) ?_
          refine R_s (s_bipush dX11_fact_64 kcb_m2) ?_
          exact R_r (r := (-2)) (f_int (ty := .int) dX11_fact_66 rfl rfl)
        · refine R_s (s_icmp_ge_f dX11_fact_52 rfl h7) ?_
          refine R_s (s_iload_n dX11_fact_55 rfl rfl) ?_
          refine R_ite (fun h8 => ?_) (fun h8 => ?_)
          · refine R_s (s_if_lt_t dX11_fact_56 rfl h8) ?_
            refine R_s (s_bipush dX11_fact_64 kcb_m2) ?_
            exact R_r (r := (-2)) (f_int (ty := .int) dX11_fact_66 rfl rfl)
          · refine R_s (s_if_lt_f dX11_fact_56 rfl h8) ?_
            refine R_s (s_iload_n dX11_fact_59 rfl rfl) ?_
            refine R_s (s_iconst dX11_fact_60 kci_1) ?_
            refine R_ite (fun h9 => ?_) (fun h9 => ?_)
            · refine R_s (s_icmp_le_t dX11_fact_61 rfl h9) ?_
              refine R_s (s_iload_n dX11_fact_67 rfl rfl) ?_
              refine R_s (s_iconst dX11_fact_68 kci_1) ?_
              refine R_ite (fun h10 => ?_) (fun h10 => ?_)
              · refine R_s (s_icmp_ne_f dX11_fact_69 rfl h10) ?_
                refine R_s (s_aload dX11_fact_72 rfl) ?_
                refine R_s (s_iload_n dX11_fact_74 rfl rfl) ?_
                refine R_s (s_iconst dX11_fact_75 kci_0) ?_
                refine R_br (ec := gx_eI) (fun r_ hr_ => s_callV (As := [.int _, .int _]) dX11_fact_76 Lk_RX11_175 rfl (Ln_0 ho4) (by decide) rfl (Nat.le_of_ble_eq_true rfl) (Nat.le_of_ble_eq_true rfl) (ev_X2_number o4 8 p2 0 ho4 μ hr_)) (fun r13 => ?_)
                exact R_r (r := r13) (f_int (ty := .int) dX11_fact_79 rfl rfl)
              · refine R_s (s_icmp_ne_t dX11_fact_69 rfl h10) ?_
                refine R_s (s_aload dX11_fact_80 rfl) ?_
                refine R_s (gfm_RX11_172 ho4 rfl dX11_fact_82) ?_
                refine R_s (s_iload_n dX11_fact_85 rfl rfl) ?_
                refine R_ck (fun h11 => ?_)
                refine R_s (s_iald dX11_fact_86 (Ln_1 ho4) (gx_ixv h11)) ?_
                refine R_s (s_bipush dX11_fact_87 kcb_13) ?_
                refine R_ite (fun h12 => ?_) (fun h12 => ?_)
                · refine R_s (s_icmp_ne_f dX11_fact_89 rfl h12) ?_
                  refine R_s (s_iconst dX11_fact_92 kci_1) ?_
                  refine R_s (s_goto dX11_fact_93 rfl) ?_
                  exact R_r (r := 1) (f_int (ty := .int) dX11_fact_97 rfl rfl)
                · refine R_s (s_icmp_ne_t dX11_fact_89 rfl h12) ?_
                  refine R_s (s_iconst dX11_fact_96 kci_0) ?_
                  exact R_r (r := 0) (f_int (ty := .int) dX11_fact_97 rfl rfl)
            · refine R_s (s_icmp_le_f dX11_fact_61 rfl h9) ?_
              refine R_s (s_bipush dX11_fact_64 kcb_m2) ?_
              exact R_r (r := (-2)) (f_int (ty := .int) dX11_fact_66 rfl rfl)
  · refine R_s (s_if_ne_f dX11_fact_5 rfl (gx_bf h2)) ?_
    refine R_s (s_bipush dX11_fact_8 kcb_m2) ?_
    exact R_r (r := (-2)) (f_int (ty := .int) dX11_fact_10 rfl rfl)

def f_J0_length_8abf5 (i0 : Nat) : Int32 := ((gx_sl i0) >>> ((f_J0_coder_7d493 i0) &&& 31))
theorem ev_J0_length_8abf5 {E : gx_E} {l : Launch} {fk : Nat} {uq : Option Nat} {adK adV : Nat → Nat} (hE : gx_EX E fk uq adK adV) (i0 : Nat) (hi0 : i0 < 28) (μ : gx_M) : gEv E l 1 Y_J0_length_8abf5 [.ref (adK i0)] gx_G1 μ (gx_eI (f_J0_length_8abf5 i0)) gx_G1 μ := by
  refine P_ev (by decide) (Nat.le_of_ble_eq_true rfl) (em := gx_eI) (T := f_J0_length_8abf5 i0) ?_
  show GoP E l Y_J0_length_8abf5 1 gx_eI 0 (gx_el [.ref (adK i0)]) [] μ (f_J0_length_8abf5 i0)
  unfold f_J0_length_8abf5
  refine P_s (s_aload_n dJ0_length_8abf5_0 rfl rfl) ?_
  refine P_s (ss_RJ0_9 hE hi0 rfl dJ0_length_8abf5_1) ?_
  refine P_s (s_svlen hE hi0 dJ0_length_8abf5_4) ?_
  refine P_s (s_aload_n dJ0_length_8abf5_5 rfl rfl) ?_
  refine P_s (s_callStr hE hi0 (As := []) dJ0_length_8abf5_6 Lk_RJ0_335 rfl rfl (Nat.le_of_ble_eq_true rfl) (Nat.le_of_ble_eq_true rfl) (ev_J0_coder_7d493 hE i0 hi0 μ)) ?_
  refine P_s (s_ishr dJ0_length_8abf5_9) ?_
  exact P_r (r := ((gx_sl i0) >>> ((f_J0_coder_7d493 i0) &&& 31))) (f_int (ty := .int) dJ0_length_8abf5_10 rfl rfl)

def f_J0_checkIndex_df160 (p0 : Int32) (p1 : Int32) (μ : gx_M) : Option Unit := gx_br (f_J3_checkIndex_8e157 p0 p1 μ) (fun (r1 : Int32) => some ())
theorem ev_J0_checkIndex_df160 {E : gx_E} {l : Launch} {fk : Nat} {uq : Option Nat} {adK adV : Nat → Nat} (hE : gx_EX E fk uq adK adV) (p0 : Int32) (p1 : Int32) (μ : gx_M) {r : Unit} (hr : f_J0_checkIndex_df160 p0 p1 μ = some r) : gEv E l 1 Y_J0_checkIndex_df160 [.int p0, .int p1] gx_G1 μ (gx_eV r) gx_G1 μ := by
  refine R_ev (by decide) (Nat.le_of_ble_eq_true rfl) (em := gx_eV) (T := f_J0_checkIndex_df160 p0 p1 μ) ?_ hr
  show GoR E l Y_J0_checkIndex_df160 1 gx_eV 0 (gx_el [.int p0, .int p1]) [] μ (f_J0_checkIndex_df160 p0 p1 μ)
  unfold f_J0_checkIndex_df160
  refine R_s (s_iload_n dJ0_checkIndex_df160_0 rfl rfl) ?_
  refine R_s (s_iload_n dJ0_checkIndex_df160_1 rfl rfl) ?_
  refine R_s (gs_RJ0_1053 hE rfl dJ0_checkIndex_df160_2) ?_
  refine R_br (ec := gx_eI) (fun r_ hr_ => s_callS (As := [.int _, .int _, va_rf _]) dJ0_checkIndex_df160_5 Lk_RJ0_1059 rfl (Nat.le_of_ble_eq_true rfl) (Nat.le_of_ble_eq_true rfl) (ev_J3_checkIndex_8e157 p0 p1 uq μ hr_)) (fun r1 => ?_)
  refine R_s (s_pop dJ0_checkIndex_df160_8 rfl) ?_
  exact R_r (r := ()) (f_void dJ0_checkIndex_df160_9 rfl)

def L_J7_fill_fda19_10 (p2 : Int32) (n0 : Nat) (a0 : Nat) (p3 : Int32) (k4 : gx_M → Option (Unit × gx_M)) : Nat → Int32 → gx_M → Option (Unit × gx_M)
  | 0, _, _ => none
  | n + 1, v4_2, μ3 => if p2 ≤ v4_2 then k4 μ3 else gx_ck (gx_ix v4_2 n0 = true) (gx_lt (gx_uI μ3 a0 v4_2.toNatClampNeg p3) (fun (μ7 : gx_M) => L_J7_fill_fda19_10 p2 n0 a0 p3 k4 n (v4_2 + 1) μ7))
def f_J7_fill_fda19 (a0 : Nat) (n0 : Nat) (p1 : Int32) (p2 : Int32) (p3 : Int32) (μ : gx_M) : Option (Unit × gx_M) := gx_br (f_J7_rangeCheck_23922 (Int32.ofNat n0) p1 p2 μ) (fun (r1 : Unit) => L_J7_fill_fda19_10 p2 n0 a0 p3 (fun (μ9 : gx_M) => some ((), μ9)) 4000 p1 μ)
theorem okL_J7_fill_fda19_10 {E : gx_E} {l : Launch} {p2 : Int32} {n0 : Nat} {a0 : Nat} {p3 : Int32} (ha0 : gx_G1[a0]? = some (50, n0, [])) {k4 : gx_M → Option (Unit × gx_M)} (hk : ∀ (μ8 : gx_M), GoW E l Y_J7_fill_fda19 1 gx_eV 27 [] [] μ8 (k4 μ8)) : ∀ (n : Nat) (v4_2 : Int32) (μ3 : gx_M), GoW E l Y_J7_fill_fda19 1 gx_eV 10 [some (.ref (E.2.2.1 + a0)), none, some (.int p2), some (.int p3), some (.int v4_2)] [] μ3 (L_J7_fill_fda19_10 p2 n0 a0 p3 k4 n v4_2 μ3) := by
  intro n
  induction n with
  | zero => intros; exact W_no
  | succ n ih =>
    intro v4_2 μ3
    rw [L_J7_fill_fda19_10.eq_2]
    refine W_s (s_iload dJ7_fill_fda19_10 rfl) ?_
    refine W_s (s_iload_n dJ7_fill_fda19_12 rfl rfl) ?_
    refine W_ite (fun h5 => ?_) (fun h5 => ?_)
    · refine W_s (s_icmp_ge_t dJ7_fill_fda19_13 rfl h5) ?_
      exact W_wk (hk μ3) le_n
    · refine W_s (s_icmp_ge_f dJ7_fill_fda19_13 rfl h5) ?_
      refine W_s (s_aload_n dJ7_fill_fda19_16 rfl rfl) ?_
      refine W_s (s_iload dJ7_fill_fda19_17 rfl) ?_
      refine W_s (s_iload_n dJ7_fill_fda19_19 rfl rfl) ?_
      refine W_ck (fun h6 => ?_)
      refine W_s (s_iast dJ7_fill_fda19_20 ha0 (gx_ixv h6)) ?_
      refine W_letM (fun μ7 => ?_)
      refine W_s (s_iinc dJ7_fill_fda19_21 rfl (kinc_1 v4_2) (Nat.le_of_ble_eq_true rfl)) ?_
      refine W_s (s_goto dJ7_fill_fda19_24 rfl) ?_
      exact W_wk (ih (v4_2 + 1) μ7) (le_s rfl (le_o (le_s rfl (le_s rfl (le_s rfl le_n)))))
theorem ev_J7_fill_fda19 {E : gx_E} {l : Launch} (a0 : Nat) (n0 : Nat) (p1 : Int32) (p2 : Int32) (p3 : Int32) (ha0 : gx_G1[a0]? = some (50, n0, [])) (μ : gx_M) {r : Unit} {μ' : gx_M} (hr : f_J7_fill_fda19 a0 n0 p1 p2 p3 μ = some (r, μ')) : gEv E l 1 Y_J7_fill_fda19 [.ref (E.2.2.1 + a0), .int p1, .int p2, .int p3] gx_G1 μ (gx_eV r) gx_G1 μ' := by
  refine W_ev (by decide) (Nat.le_of_ble_eq_true rfl) (em := gx_eV) (T := f_J7_fill_fda19 a0 n0 p1 p2 p3 μ) ?_ hr
  show GoW E l Y_J7_fill_fda19 1 gx_eV 0 (gx_el [.ref (E.2.2.1 + a0), .int p1, .int p2, .int p3]) [] μ (f_J7_fill_fda19 a0 n0 p1 p2 p3 μ)
  unfold f_J7_fill_fda19
  refine W_s (s_aload_n dJ7_fill_fda19_0 rfl rfl) ?_
  refine W_s (s_alenA (ty := .int) dJ7_fill_fda19_1 ha0 (by decide) rfl) ?_
  refine W_s (s_iload_n dJ7_fill_fda19_2 rfl rfl) ?_
  refine W_s (s_iload_n dJ7_fill_fda19_3 rfl rfl) ?_
  refine W_br (ec := gx_eV) (fun r_ hr_ => s_callS (As := [.int _, .int _, .int _]) dJ7_fill_fda19_4 Lk_RJ7_13 rfl (Nat.le_of_ble_eq_true rfl) (Nat.le_of_ble_eq_true rfl) (ev_J7_rangeCheck_23922 (Int32.ofNat n0) p1 p2 μ hr_)) (fun r1 => ?_)
  refine W_s (s_iload_n dJ7_fill_fda19_7 rfl rfl) ?_
  refine W_s (s_istore dJ7_fill_fda19_8 (Nat.le_of_ble_eq_true rfl)) ?_
  refine W_wk (okL_J7_fill_fda19_10 ha0 ?_ 4000 p1 μ) (le_s rfl (le_o (le_s rfl (le_s rfl (le_s rfl le_n)))))
  intro μ9
  exact W_r (r := ()) (f_void dJ7_fill_fda19_27 rfl)

def f_X0_bestCost (a1 : Nat) (p2 : Int32) (μ : gx_M) : Option Int32 := gx_br (f_X0_bestWeight a1 p2 μ) (fun (r1 : Int64) => some (f_X0_costIn r1))
theorem ev_X0_bestCost {E : gx_E} {l : Launch} (a1 : Nat) (p2 : Int32) (ha1 : gx_St a1) (μ : gx_M) {r : Int32} (hr : f_X0_bestCost a1 p2 μ = some r) : gEv E l 2 Y_X0_bestCost [.ref (E.2.2.1 + 75), .ref (E.2.2.1 + a1), .int p2] gx_G1 μ (gx_eI r) gx_G1 μ := by
  refine R_ev (by decide) (Nat.le_of_ble_eq_true rfl) (em := gx_eI) (T := f_X0_bestCost a1 p2 μ) ?_ hr
  show GoR E l Y_X0_bestCost 2 gx_eI 0 (gx_el [.ref (E.2.2.1 + 75), .ref (E.2.2.1 + a1), .int p2]) [] μ (f_X0_bestCost a1 p2 μ)
  unfold f_X0_bestCost
  refine R_s (s_aload_n dX0_bestCost_0 rfl rfl) ?_
  refine R_s (s_aload_n dX0_bestCost_1 rfl rfl) ?_
  refine R_s (s_iload_n dX0_bestCost_2 rfl rfl) ?_
  refine R_br (ec := gx_eL) (fun r_ hr_ => s_callV (As := [.ref _, .int _]) dX0_bestCost_3 Lk_RX0_50 rfl g_75 (by decide) rfl (Nat.le_of_ble_eq_true rfl) (Nat.le_of_ble_eq_true rfl) (ev_X0_bestWeight a1 p2 ha1 μ hr_)) (fun r1 => ?_)
  refine R_s (s_callS (As := [.long _]) dX0_bestCost_6 Lk_RX0_54 rfl (Nat.le_of_ble_eq_true rfl) (Nat.le_of_ble_eq_true rfl) (ev_X0_costIn r1 μ)) ?_
  exact R_r (r := (f_X0_costIn r1)) (f_int (ty := .int) dX0_bestCost_9 rfl rfl)

def f_X0_bestFirst (a1 : Nat) (p2 : Int32) (μ : gx_M) : Option Int32 := gx_br (f_X0_bestWeight a1 p2 μ) (fun (r1 : Int64) => some (f_X0_firstIn r1 p2))
theorem ev_X0_bestFirst {E : gx_E} {l : Launch} (a1 : Nat) (p2 : Int32) (ha1 : gx_St a1) (μ : gx_M) {r : Int32} (hr : f_X0_bestFirst a1 p2 μ = some r) : gEv E l 2 Y_X0_bestFirst [.ref (E.2.2.1 + 75), .ref (E.2.2.1 + a1), .int p2] gx_G1 μ (gx_eI r) gx_G1 μ := by
  refine R_ev (by decide) (Nat.le_of_ble_eq_true rfl) (em := gx_eI) (T := f_X0_bestFirst a1 p2 μ) ?_ hr
  show GoR E l Y_X0_bestFirst 2 gx_eI 0 (gx_el [.ref (E.2.2.1 + 75), .ref (E.2.2.1 + a1), .int p2]) [] μ (f_X0_bestFirst a1 p2 μ)
  unfold f_X0_bestFirst
  refine R_s (s_aload_n dX0_bestFirst_0 rfl rfl) ?_
  refine R_s (s_aload_n dX0_bestFirst_1 rfl rfl) ?_
  refine R_s (s_iload_n dX0_bestFirst_2 rfl rfl) ?_
  refine R_br (ec := gx_eL) (fun r_ hr_ => s_callV (As := [.ref _, .int _]) dX0_bestFirst_3 Lk_RX0_50 rfl g_75 (by decide) rfl (Nat.le_of_ble_eq_true rfl) (Nat.le_of_ble_eq_true rfl) (ev_X0_bestWeight a1 p2 ha1 μ hr_)) (fun r1 => ?_)
  refine R_s (s_iload_n dX0_bestFirst_6 rfl rfl) ?_
  refine R_s (s_callS (As := [.long _, .int _]) dX0_bestFirst_7 Lk_RX0_58 rfl (Nat.le_of_ble_eq_true rfl) (Nat.le_of_ble_eq_true rfl) (ev_X0_firstIn r1 p2 μ)) ?_
  exact R_r (r := (f_X0_firstIn r1 p2)) (f_int (ty := .int) dX0_bestFirst_10 rfl rfl)

def L_X0_arrange_30 (a1 : Nat) (v3_4 : Int32) (p2 : Int32) (k10 : gx_M → Option (Unit × gx_M)) : Nat → Int32 → gx_M → Option (Unit × gx_M)
  | 0, _, _ => none
  | n + 1, v4_8, μ9 => if (f_X5_subsets a1 μ9) ≤ v4_8 then k10 μ9 else gx_ck (gx_ix ((v3_4 * 64) + v4_8) 2624 = true) (gx_lt (μ9.2 77 ((v3_4 * 64) + v4_8).toNatClampNeg) (fun (x13 : Int64) => gx_lt (fun (μ18 : gx_M) => L_X0_arrange_30 a1 v3_4 p2 k10 n (v4_8 + 1) μ18) (fun J14 => if 1152921504606846976 ≤ x13 then J14 μ9 else gx_bd (f_X0_goOn a1 v3_4 v4_8 p2 x13 μ9) (fun (r16 : Unit) (μ17 : gx_M) => J14 μ17))))
def L_X0_arrange_19 (a1 : Nat) (p2 : Int32) (k6 : gx_M → Option (Unit × gx_M)) : Nat → Int32 → gx_M → Option (Unit × gx_M)
  | 0, _, _ => none
  | n + 1, v3_4, μ5 => if (μ5.1 a1 0) ≤ v3_4 then k6 μ5 else L_X0_arrange_30 a1 v3_4 p2 (fun (μ20 : gx_M) => L_X0_arrange_19 a1 p2 k6 n (v3_4 + 1) μ20) 4000 0 μ5
def f_X0_arrange (a1 : Nat) (p2 : Int32) (μ : gx_M) : Option (Unit × gx_M) := gx_bd (f_J7_fill_d0a16 77 2624 1152921504606846976 μ) (fun (r1 : Unit) (μ2 : gx_M) => gx_lt (gx_uL μ2 77 0 0) (fun (μ3 : gx_M) => L_X0_arrange_19 a1 p2 (fun (μ22 : gx_M) => some ((), μ22)) 4000 0 μ3))
theorem okL_X0_arrange_30 {E : gx_E} {l : Launch} {a1 : Nat} {v3_4 : Int32} {p2 : Int32} (ha1 : gx_St a1) {k10 : gx_M → Option (Unit × gx_M)} (hk : ∀ (μ19 : gx_M), GoW E l Y_X0_arrange 2 gx_eV 79 [some (.ref (E.2.2.1 + 75)), some (.ref (E.2.2.1 + a1)), some (.int p2), some (.int v3_4)] [] μ19 (k10 μ19)) : ∀ (n : Nat) (v4_8 : Int32) (μ9 : gx_M), GoW E l Y_X0_arrange 2 gx_eV 30 [some (.ref (E.2.2.1 + 75)), some (.ref (E.2.2.1 + a1)), some (.int p2), some (.int v3_4), some (.int v4_8)] [] μ9 (L_X0_arrange_30 a1 v3_4 p2 k10 n v4_8 μ9) := by
  intro n
  induction n with
  | zero => intros; exact W_no
  | succ n ih =>
    intro v4_8 μ9
    rw [L_X0_arrange_30.eq_2]
    refine W_s (s_iload dX0_arrange_30 rfl) ?_
    refine W_s (s_aload_n dX0_arrange_32 rfl rfl) ?_
    refine W_s (s_callV (As := []) dX0_arrange_33 Lk_RX0_75 rfl (St_0 ha1) (by decide) rfl (Nat.le_of_ble_eq_true rfl) (Nat.le_of_ble_eq_true rfl) (ev_X5_subsets a1 ha1 μ9)) ?_
    refine W_ite (fun h11 => ?_) (fun h11 => ?_)
    · refine W_s (s_icmp_ge_t dX0_arrange_36 rfl h11) ?_
      exact W_wk (hk μ9) (le_s rfl (le_s rfl (le_s rfl (le_s rfl le_n))))
    · refine W_s (s_icmp_ge_f dX0_arrange_36 rfl h11) ?_
      refine W_s (s_aload_n dX0_arrange_39 rfl rfl) ?_
      refine W_s (gf_RX0_15 rfl dX0_arrange_40) ?_
      refine W_s (s_iload_n dX0_arrange_43 rfl rfl) ?_
      refine W_s (s_bipush dX0_arrange_44 kcb_64) ?_
      refine W_s (s_imul dX0_arrange_46) ?_
      refine W_s (s_iload dX0_arrange_47 rfl) ?_
      refine W_s (s_iadd dX0_arrange_49) ?_
      refine W_ck (fun h12 => ?_)
      refine W_s (s_lald dX0_arrange_50 g_77 (gx_ixv h12)) ?_
      refine W_letL (fun x13 => ?_)
      refine W_s (s_lstore dX0_arrange_51 (Nat.le_of_ble_eq_true rfl)) ?_
      refine W_s (s_lload dX0_arrange_53 rfl) ?_
      refine W_s (s_ldc2 dX0_arrange_55 kw_RX0_30) ?_
      refine W_s (s_lcmp dX0_arrange_58) ?_
      refine W_fun (fun J => ∀ (μ18 : gx_M), GoW E l Y_X0_arrange 2 gx_eV 73 [some (.ref (E.2.2.1 + 75)), some (.ref (E.2.2.1 + a1)), some (.int p2), some (.int v3_4), some (.int v4_8)] [] μ18 (J μ18)) ?_ (fun J14 hJ14 => ?_)
      · intro μ18
        refine W_s (s_iinc dX0_arrange_73 rfl (kinc_1 v4_8) (Nat.le_of_ble_eq_true rfl)) ?_
        refine W_s (s_goto dX0_arrange_76 rfl) ?_
        exact W_wk (ih (v4_8 + 1) μ18) (le_s rfl (le_s rfl (le_s rfl (le_s rfl (le_s rfl le_n)))))
      · skip
        refine W_ite (fun h15 => ?_) (fun h15 => ?_)
        · refine W_s (s_if_ge_t dX0_arrange_59 rfl ((lgc_ge x13 1152921504606846976).mpr h15)) ?_
          exact W_wk (hJ14 μ9) (le_s rfl (le_s rfl (le_s rfl (le_s rfl (le_s rfl le_n)))))
        · refine W_s (s_if_ge_f dX0_arrange_59 rfl (fun hc => h15 ((lgc_ge x13 1152921504606846976).mp hc))) ?_
          refine W_s (s_aload_n dX0_arrange_62 rfl rfl) ?_
          refine W_s (s_aload_n dX0_arrange_63 rfl rfl) ?_
          refine W_s (s_iload_n dX0_arrange_64 rfl rfl) ?_
          refine W_s (s_iload dX0_arrange_65 rfl) ?_
          refine W_s (s_iload_n dX0_arrange_67 rfl rfl) ?_
          refine W_s (s_lload dX0_arrange_68 rfl) ?_
          refine W_bd (ec := gx_eV) (fun r_ μ_ hr_ => s_callV (As := [.ref _, .int _, .int _, .int _, .long _]) dX0_arrange_70 Lk_RX0_79 rfl g_75 (by decide) rfl (Nat.le_of_ble_eq_true rfl) (Nat.le_of_ble_eq_true rfl) (ev_X0_goOn a1 v3_4 v4_8 p2 x13 ha1 μ9 hr_)) (fun r16 μ17 => ?_)
          exact W_wk (hJ14 μ17) (le_s rfl (le_s rfl (le_s rfl (le_s rfl (le_s rfl le_n)))))
theorem okL_X0_arrange_19 {E : gx_E} {l : Launch} {a1 : Nat} {p2 : Int32} (ha1 : gx_St a1) {k6 : gx_M → Option (Unit × gx_M)} (hk : ∀ (μ21 : gx_M), GoW E l Y_X0_arrange 2 gx_eV 85 [] [] μ21 (k6 μ21)) : ∀ (n : Nat) (v3_4 : Int32) (μ5 : gx_M), GoW E l Y_X0_arrange 2 gx_eV 19 [some (.ref (E.2.2.1 + 75)), some (.ref (E.2.2.1 + a1)), some (.int p2), some (.int v3_4)] [] μ5 (L_X0_arrange_19 a1 p2 k6 n v3_4 μ5) := by
  intro n
  induction n with
  | zero => intros; exact W_no
  | succ n ih =>
    intro v3_4 μ5
    rw [L_X0_arrange_19.eq_2]
    refine W_s (s_iload_n dX0_arrange_19 rfl rfl) ?_
    refine W_s (s_aload_n dX0_arrange_20 rfl rfl) ?_
    refine W_s (gfm_RX0_27 ha1 rfl dX0_arrange_21) ?_
    refine W_ite (fun h7 => ?_) (fun h7 => ?_)
    · refine W_s (s_icmp_ge_t dX0_arrange_24 rfl h7) ?_
      exact W_wk (hk μ5) le_n
    · refine W_s (s_icmp_ge_f dX0_arrange_24 rfl h7) ?_
      refine W_s (s_iconst dX0_arrange_27 kci_0) ?_
      refine W_s (s_istore dX0_arrange_28 (Nat.le_of_ble_eq_true rfl)) ?_
      refine W_wk (okL_X0_arrange_30 ha1 ?_ 4000 0 μ5) (le_s rfl (le_s rfl (le_s rfl (le_s rfl (le_s rfl le_n)))))
      intro μ20
      refine W_s (s_iinc dX0_arrange_79 rfl (kinc_1 v3_4) (Nat.le_of_ble_eq_true rfl)) ?_
      refine W_s (s_goto dX0_arrange_82 rfl) ?_
      exact W_wk (ih (v3_4 + 1) μ20) (le_s rfl (le_s rfl (le_s rfl (le_s rfl le_n))))
theorem ev_X0_arrange {E : gx_E} {l : Launch} (a1 : Nat) (p2 : Int32) (ha1 : gx_St a1) (μ : gx_M) {r : Unit} {μ' : gx_M} (hr : f_X0_arrange a1 p2 μ = some (r, μ')) : gEv E l 2 Y_X0_arrange [.ref (E.2.2.1 + 75), .ref (E.2.2.1 + a1), .int p2] gx_G1 μ (gx_eV r) gx_G1 μ' := by
  refine W_ev (by decide) (Nat.le_of_ble_eq_true rfl) (em := gx_eV) (T := f_X0_arrange a1 p2 μ) ?_ hr
  show GoW E l Y_X0_arrange 2 gx_eV 0 (gx_el [.ref (E.2.2.1 + 75), .ref (E.2.2.1 + a1), .int p2]) [] μ (f_X0_arrange a1 p2 μ)
  unfold f_X0_arrange
  refine W_s (s_aload_n dX0_arrange_0 rfl rfl) ?_
  refine W_s (gf_RX0_15 rfl dX0_arrange_1) ?_
  refine W_s (s_ldc2 dX0_arrange_4 kw_RX0_30) ?_
  refine W_bd (ec := gx_eV) (fun r_ μ_ hr_ => s_callS (As := [.ref _, .long _]) dX0_arrange_7 Lk_RX0_69 rfl (Nat.le_of_ble_eq_true rfl) (Nat.le_of_ble_eq_true rfl) (ev_J7_fill_d0a16 77 2624 1152921504606846976 g_77 μ hr_)) (fun r1 μ2 => ?_)
  refine W_s (s_aload_n dX0_arrange_10 rfl rfl) ?_
  refine W_s (gf_RX0_15 rfl dX0_arrange_11) ?_
  refine W_s (s_iconst dX0_arrange_14 kci_0) ?_
  refine W_s (s_lconst dX0_arrange_15 kcl_0) ?_
  refine W_s (s_lastL (k := 0) dX0_arrange_16 g_77 (gx_inl (by decide)) (by decide)) ?_
  refine W_letM (fun μ3 => ?_)
  refine W_s (s_iconst dX0_arrange_17 kci_0) ?_
  refine W_s (s_istore_n dX0_arrange_18 rfl (Nat.le_of_ble_eq_true rfl)) ?_
  refine W_wk (okL_X0_arrange_19 ha1 ?_ 4000 0 μ3) (le_s rfl (le_s rfl (le_s rfl (le_s rfl le_n))))
  intro μ22
  exact W_r (r := ()) (f_void dX0_arrange_85 rfl)

def f_X0_firstMinuteIn (a1 : Nat) (p2 : Int32) (p3 : Int32) (μ : gx_M) : Option Int32 := if (f_X5_hasBusiness a1 p3 μ) = true then if ((p2 >>> (p3 &&& 31)) &&& 1) = 0 then some (-1) else gx_ck (gx_ix (((μ.1 a1 0) * 64) + p2) 2624 = true) (some (f_X0_firstIn (μ.2 77 (((μ.1 a1 0) * 64) + p2).toNatClampNeg) p3)) else some (-1)
theorem ev_X0_firstMinuteIn {E : gx_E} {l : Launch} (a1 : Nat) (p2 : Int32) (p3 : Int32) (ha1 : gx_St a1) (μ : gx_M) {r : Int32} (hr : f_X0_firstMinuteIn a1 p2 p3 μ = some r) : gEv E l 2 Y_X0_firstMinuteIn [.ref (E.2.2.1 + 75), .ref (E.2.2.1 + a1), .int p2, .int p3] gx_G1 μ (gx_eI r) gx_G1 μ := by
  refine R_ev (by decide) (Nat.le_of_ble_eq_true rfl) (em := gx_eI) (T := f_X0_firstMinuteIn a1 p2 p3 μ) ?_ hr
  show GoR E l Y_X0_firstMinuteIn 2 gx_eI 0 (gx_el [.ref (E.2.2.1 + 75), .ref (E.2.2.1 + a1), .int p2, .int p3]) [] μ (f_X0_firstMinuteIn a1 p2 p3 μ)
  unfold f_X0_firstMinuteIn
  refine R_s (s_aload_n dX0_firstMinuteIn_0 rfl rfl) ?_
  refine R_s (s_iload_n dX0_firstMinuteIn_1 rfl rfl) ?_
  refine R_s (s_callV (As := [.int _]) dX0_firstMinuteIn_2 Lk_RX0_95 rfl (St_0 ha1) (by decide) rfl (Nat.le_of_ble_eq_true rfl) (Nat.le_of_ble_eq_true rfl) (ev_X5_hasBusiness a1 p3 ha1 μ)) ?_
  refine R_ite (fun h1 => ?_) (fun h1 => ?_)
  · refine R_s (s_if_eq_f dX0_firstMinuteIn_5 rfl (gx_bt h1)) ?_
    refine R_s (s_iload_n dX0_firstMinuteIn_8 rfl rfl) ?_
    refine R_s (s_iload_n dX0_firstMinuteIn_9 rfl rfl) ?_
    refine R_s (s_ishr dX0_firstMinuteIn_10) ?_
    refine R_s (s_iconst dX0_firstMinuteIn_11 kci_1) ?_
    refine R_s (s_iand dX0_firstMinuteIn_12) ?_
    refine R_ite (fun h2 => ?_) (fun h2 => ?_)
    · refine R_s (s_if_ne_f dX0_firstMinuteIn_13 rfl h2) ?_
      refine R_s (s_iconst dX0_firstMinuteIn_16 kci_m1) ?_
      exact R_r (r := (-1)) (f_int (ty := .int) dX0_firstMinuteIn_17 rfl rfl)
    · refine R_s (s_if_ne_t dX0_firstMinuteIn_13 rfl h2) ?_
      refine R_s (s_aload_n dX0_firstMinuteIn_18 rfl rfl) ?_
      refine R_s (gf_RX0_15 rfl dX0_firstMinuteIn_19) ?_
      refine R_s (s_aload_n dX0_firstMinuteIn_22 rfl rfl) ?_
      refine R_s (gfm_RX0_27 ha1 rfl dX0_firstMinuteIn_23) ?_
      refine R_s (s_bipush dX0_firstMinuteIn_26 kcb_64) ?_
      refine R_s (s_imul dX0_firstMinuteIn_28) ?_
      refine R_s (s_iload_n dX0_firstMinuteIn_29 rfl rfl) ?_
      refine R_s (s_iadd dX0_firstMinuteIn_30) ?_
      refine R_ck (fun h3 => ?_)
      refine R_s (s_lald dX0_firstMinuteIn_31 g_77 (gx_ixv h3)) ?_
      refine R_s (s_iload_n dX0_firstMinuteIn_32 rfl rfl) ?_
      refine R_s (s_callS (As := [.long _, .int _]) dX0_firstMinuteIn_33 Lk_RX0_58 rfl (Nat.le_of_ble_eq_true rfl) (Nat.le_of_ble_eq_true rfl) (ev_X0_firstIn (μ.2 77 (((μ.1 a1 0) * 64) + p2).toNatClampNeg) p3 μ)) ?_
      exact R_r (r := (f_X0_firstIn (μ.2 77 (((μ.1 a1 0) * 64) + p2).toNatClampNeg) p3)) (f_int (ty := .int) dX0_firstMinuteIn_36 rfl rfl)
  · refine R_s (s_if_eq_t dX0_firstMinuteIn_5 rfl (gx_bf h1)) ?_
    refine R_s (s_iconst dX0_firstMinuteIn_16 kci_m1) ?_
    exact R_r (r := (-1)) (f_int (ty := .int) dX0_firstMinuteIn_17 rfl rfl)

def L_X0_arrangeGiven_67 (a1 : Nat) (p3 : Int32) (v5_7 : Int32) (v4_3 : Int32) (p2 : Int32) (k16 : gx_M → Option (Unit × gx_M)) : Nat → Int32 → gx_M → Option (Unit × gx_M)
  | 0, _, _ => none
  | n + 1, v6_14, μ15 => if (μ15.1 a1 2) ≤ v6_14 then k16 μ15 else gx_lt (fun (μ24 : gx_M) => L_X0_arrangeGiven_67 a1 p3 v5_7 v4_3 p2 k16 n (v6_14 + 1) μ24) (fun J18 => if (((p3 &&& (v5_7 ^^^ (-1))) >>> (v6_14 &&& 31)) &&& 1) = 1 then gx_ck (gx_ix ((v6_14 * 40) + v4_3) 240 = true) (if 1152921504606846976 ≤ (μ15.2 76 ((v6_14 * 40) + v4_3).toNatClampNeg) then J18 μ15 else gx_bd (f_X0_giveIn a1 p2 v4_3 v5_7 v6_14 μ15) (fun (r22 : Unit) (μ23 : gx_M) => J18 μ23)) else J18 μ15)
def L_X0_arrangeGiven_25 (a1 : Nat) (v4_3 : Int32) (p3 : Int32) (p2 : Int32) (k9 : gx_M → Option (Unit × gx_M)) : Nat → Int32 → gx_M → Option (Unit × gx_M)
  | 0, _, _ => none
  | n + 1, v5_7, μ8 => if (f_X5_subsets a1 μ8) ≤ v5_7 then k9 μ8 else gx_ck (gx_ix ((v4_3 * 64) + v5_7) 2624 = true) (gx_bd (f_X0_lower 78 2624 (((v4_3 + 1) * 64) + v5_7) (μ8.2 78 ((v4_3 * 64) + v5_7).toNatClampNeg) μ8) (fun (r12 : Unit) (μ13 : gx_M) => L_X0_arrangeGiven_67 a1 p3 v5_7 v4_3 p2 (fun (μ26 : gx_M) => L_X0_arrangeGiven_25 a1 v4_3 p3 p2 k9 n (v5_7 + 1) μ26) 4000 0 μ13))
def L_X0_arrangeGiven_13 (a1 : Nat) (p3 : Int32) (p2 : Int32) (k5 : gx_M → Option (Unit × gx_M)) : Nat → Int32 → gx_M → Option (Unit × gx_M)
  | 0, _, _ => none
  | n + 1, v4_3, μ4 => if (μ4.1 a1 0) ≤ v4_3 then k5 μ4 else L_X0_arrangeGiven_25 a1 v4_3 p3 p2 (fun (μ28 : gx_M) => L_X0_arrangeGiven_13 a1 p3 p2 k5 n (v4_3 + 1) μ28) 4000 0 μ4
def f_X0_arrangeGiven (a1 : Nat) (p2 : Int32) (p3 : Int32) (μ : gx_M) : Option (Unit × gx_M) := gx_bd (f_J7_fill_d0a16 78 2624 1152921504606846976 μ) (fun (r1 : Unit) (μ2 : gx_M) => L_X0_arrangeGiven_13 a1 p3 p2 (fun (μ30 : gx_M) => some ((), μ30)) 4000 0 μ2)
theorem okL_X0_arrangeGiven_67 {E : gx_E} {l : Launch} {a1 : Nat} {p3 : Int32} {v5_7 : Int32} {v4_3 : Int32} {p2 : Int32} (ha1 : gx_St a1) {k16 : gx_M → Option (Unit × gx_M)} (hk : ∀ (μ25 : gx_M), GoW E l Y_X0_arrangeGiven 2 gx_eV 129 [some (.ref (E.2.2.1 + 75)), some (.ref (E.2.2.1 + a1)), some (.int p2), some (.int p3), some (.int v4_3), some (.int v5_7)] [] μ25 (k16 μ25)) : ∀ (n : Nat) (v6_14 : Int32) (μ15 : gx_M), GoW E l Y_X0_arrangeGiven 2 gx_eV 67 [some (.ref (E.2.2.1 + 75)), some (.ref (E.2.2.1 + a1)), some (.int p2), some (.int p3), some (.int v4_3), some (.int v5_7), some (.int v6_14)] [] μ15 (L_X0_arrangeGiven_67 a1 p3 v5_7 v4_3 p2 k16 n v6_14 μ15) := by
  intro n
  induction n with
  | zero => intros; exact W_no
  | succ n ih =>
    intro v6_14 μ15
    rw [L_X0_arrangeGiven_67.eq_2]
    refine W_s (s_iload dX0_arrangeGiven_67 rfl) ?_
    refine W_s (s_aload_n dX0_arrangeGiven_69 rfl rfl) ?_
    refine W_s (gfm_RX0_21 ha1 rfl dX0_arrangeGiven_70) ?_
    refine W_ite (fun h17 => ?_) (fun h17 => ?_)
    · refine W_s (s_icmp_ge_t dX0_arrangeGiven_73 rfl h17) ?_
      exact W_wk (hk μ15) (le_s rfl (le_s rfl (le_s rfl (le_s rfl (le_s rfl (le_s rfl le_n))))))
    · refine W_s (s_icmp_ge_f dX0_arrangeGiven_73 rfl h17) ?_
      refine W_s (s_iload_n dX0_arrangeGiven_76 rfl rfl) ?_
      refine W_s (s_iload dX0_arrangeGiven_77 rfl) ?_
      refine W_s (s_iconst dX0_arrangeGiven_79 kci_m1) ?_
      refine W_s (s_ixor dX0_arrangeGiven_80) ?_
      refine W_s (s_iand dX0_arrangeGiven_81) ?_
      refine W_s (s_iload dX0_arrangeGiven_82 rfl) ?_
      refine W_s (s_ishr dX0_arrangeGiven_84) ?_
      refine W_s (s_iconst dX0_arrangeGiven_85 kci_1) ?_
      refine W_s (s_iand dX0_arrangeGiven_86) ?_
      refine W_s (s_iconst dX0_arrangeGiven_87 kci_1) ?_
      refine W_fun (fun J => ∀ (μ24 : gx_M), GoW E l Y_X0_arrangeGiven 2 gx_eV 123 [some (.ref (E.2.2.1 + 75)), some (.ref (E.2.2.1 + a1)), some (.int p2), some (.int p3), some (.int v4_3), some (.int v5_7), some (.int v6_14)] [] μ24 (J μ24)) ?_ (fun J18 hJ18 => ?_)
      · intro μ24
        refine W_s (s_iinc dX0_arrangeGiven_123 rfl (kinc_1 v6_14) (Nat.le_of_ble_eq_true rfl)) ?_
        refine W_s (s_goto dX0_arrangeGiven_126 rfl) ?_
        exact W_wk (ih (v6_14 + 1) μ24) (le_s rfl (le_s rfl (le_s rfl (le_s rfl (le_s rfl (le_s rfl (le_s rfl le_n)))))))
      · skip
        refine W_ite (fun h19 => ?_) (fun h19 => ?_)
        · refine W_s (s_icmp_ne_f dX0_arrangeGiven_88 rfl h19) ?_
          refine W_s (s_aload_n dX0_arrangeGiven_91 rfl rfl) ?_
          refine W_s (gf_RX0_9 rfl dX0_arrangeGiven_92) ?_
          refine W_s (s_iload dX0_arrangeGiven_95 rfl) ?_
          refine W_s (s_bipush dX0_arrangeGiven_97 kcb_40) ?_
          refine W_s (s_imul dX0_arrangeGiven_99) ?_
          refine W_s (s_iload dX0_arrangeGiven_100 rfl) ?_
          refine W_s (s_iadd dX0_arrangeGiven_102) ?_
          refine W_ck (fun h20 => ?_)
          refine W_s (s_lald dX0_arrangeGiven_103 g_76 (gx_ixv h20)) ?_
          refine W_s (s_ldc2 dX0_arrangeGiven_104 kw_RX0_30) ?_
          refine W_s (s_lcmp dX0_arrangeGiven_107) ?_
          refine W_ite (fun h21 => ?_) (fun h21 => ?_)
          · refine W_s (s_if_ge_t dX0_arrangeGiven_108 rfl ((lgc_ge (μ15.2 76 ((v6_14 * 40) + v4_3).toNatClampNeg) 1152921504606846976).mpr h21)) ?_
            exact W_wk (hJ18 μ15) (le_s rfl (le_s rfl (le_s rfl (le_s rfl (le_s rfl (le_s rfl (le_s rfl le_n)))))))
          · refine W_s (s_if_ge_f dX0_arrangeGiven_108 rfl (fun hc => h21 ((lgc_ge (μ15.2 76 ((v6_14 * 40) + v4_3).toNatClampNeg) 1152921504606846976).mp hc))) ?_
            refine W_s (s_aload_n dX0_arrangeGiven_111 rfl rfl) ?_
            refine W_s (s_aload_n dX0_arrangeGiven_112 rfl rfl) ?_
            refine W_s (s_iload_n dX0_arrangeGiven_113 rfl rfl) ?_
            refine W_s (s_iload dX0_arrangeGiven_114 rfl) ?_
            refine W_s (s_iload dX0_arrangeGiven_116 rfl) ?_
            refine W_s (s_iload dX0_arrangeGiven_118 rfl) ?_
            refine W_bd (ec := gx_eV) (fun r_ μ_ hr_ => s_callV (As := [.ref _, .int _, .int _, .int _, .int _]) dX0_arrangeGiven_120 Lk_RX0_147 rfl g_75 (by decide) rfl (Nat.le_of_ble_eq_true rfl) (Nat.le_of_ble_eq_true rfl) (ev_X0_giveIn a1 p2 v4_3 v5_7 v6_14 ha1 μ15 hr_)) (fun r22 μ23 => ?_)
            exact W_wk (hJ18 μ23) (le_s rfl (le_s rfl (le_s rfl (le_s rfl (le_s rfl (le_s rfl (le_s rfl le_n)))))))
        · refine W_s (s_icmp_ne_t dX0_arrangeGiven_88 rfl h19) ?_
          exact W_wk (hJ18 μ15) (le_s rfl (le_s rfl (le_s rfl (le_s rfl (le_s rfl (le_s rfl (le_s rfl le_n)))))))
theorem okL_X0_arrangeGiven_25 {E : gx_E} {l : Launch} {a1 : Nat} {v4_3 : Int32} {p3 : Int32} {p2 : Int32} (ha1 : gx_St a1) {k9 : gx_M → Option (Unit × gx_M)} (hk : ∀ (μ27 : gx_M), GoW E l Y_X0_arrangeGiven 2 gx_eV 135 [some (.ref (E.2.2.1 + 75)), some (.ref (E.2.2.1 + a1)), some (.int p2), some (.int p3), some (.int v4_3)] [] μ27 (k9 μ27)) : ∀ (n : Nat) (v5_7 : Int32) (μ8 : gx_M), GoW E l Y_X0_arrangeGiven 2 gx_eV 25 [some (.ref (E.2.2.1 + 75)), some (.ref (E.2.2.1 + a1)), some (.int p2), some (.int p3), some (.int v4_3), some (.int v5_7)] [] μ8 (L_X0_arrangeGiven_25 a1 v4_3 p3 p2 k9 n v5_7 μ8) := by
  intro n
  induction n with
  | zero => intros; exact W_no
  | succ n ih =>
    intro v5_7 μ8
    rw [L_X0_arrangeGiven_25.eq_2]
    refine W_s (s_iload dX0_arrangeGiven_25 rfl) ?_
    refine W_s (s_aload_n dX0_arrangeGiven_27 rfl rfl) ?_
    refine W_s (s_callV (As := []) dX0_arrangeGiven_28 Lk_RX0_75 rfl (St_0 ha1) (by decide) rfl (Nat.le_of_ble_eq_true rfl) (Nat.le_of_ble_eq_true rfl) (ev_X5_subsets a1 ha1 μ8)) ?_
    refine W_ite (fun h10 => ?_) (fun h10 => ?_)
    · refine W_s (s_icmp_ge_t dX0_arrangeGiven_31 rfl h10) ?_
      exact W_wk (hk μ8) (le_s rfl (le_s rfl (le_s rfl (le_s rfl (le_s rfl le_n)))))
    · refine W_s (s_icmp_ge_f dX0_arrangeGiven_31 rfl h10) ?_
      refine W_s (s_aload_n dX0_arrangeGiven_34 rfl rfl) ?_
      refine W_s (gf_RX0_18 rfl dX0_arrangeGiven_35) ?_
      refine W_s (s_iload dX0_arrangeGiven_38 rfl) ?_
      refine W_s (s_iconst dX0_arrangeGiven_40 kci_1) ?_
      refine W_s (s_iadd dX0_arrangeGiven_41) ?_
      refine W_s (s_bipush dX0_arrangeGiven_42 kcb_64) ?_
      refine W_s (s_imul dX0_arrangeGiven_44) ?_
      refine W_s (s_iload dX0_arrangeGiven_45 rfl) ?_
      refine W_s (s_iadd dX0_arrangeGiven_47) ?_
      refine W_s (s_aload_n dX0_arrangeGiven_48 rfl rfl) ?_
      refine W_s (gf_RX0_18 rfl dX0_arrangeGiven_49) ?_
      refine W_s (s_iload dX0_arrangeGiven_52 rfl) ?_
      refine W_s (s_bipush dX0_arrangeGiven_54 kcb_64) ?_
      refine W_s (s_imul dX0_arrangeGiven_56) ?_
      refine W_s (s_iload dX0_arrangeGiven_57 rfl) ?_
      refine W_s (s_iadd dX0_arrangeGiven_59) ?_
      refine W_ck (fun h11 => ?_)
      refine W_s (s_lald dX0_arrangeGiven_60 g_78 (gx_ixv h11)) ?_
      refine W_bd (ec := gx_eV) (fun r_ μ_ hr_ => s_callS (As := [.ref _, .int _, .long _]) dX0_arrangeGiven_61 Lk_RX0_83 rfl (Nat.le_of_ble_eq_true rfl) (Nat.le_of_ble_eq_true rfl) (ev_X0_lower 78 2624 (((v4_3 + 1) * 64) + v5_7) (μ8.2 78 ((v4_3 * 64) + v5_7).toNatClampNeg) g_78 μ8 hr_)) (fun r12 μ13 => ?_)
      refine W_s (s_iconst dX0_arrangeGiven_64 kci_0) ?_
      refine W_s (s_istore dX0_arrangeGiven_65 (Nat.le_of_ble_eq_true rfl)) ?_
      refine W_wk (okL_X0_arrangeGiven_67 ha1 ?_ 4000 0 μ13) (le_s rfl (le_s rfl (le_s rfl (le_s rfl (le_s rfl (le_s rfl (le_s rfl le_n)))))))
      intro μ26
      refine W_s (s_iinc dX0_arrangeGiven_129 rfl (kinc_1 v5_7) (Nat.le_of_ble_eq_true rfl)) ?_
      refine W_s (s_goto dX0_arrangeGiven_132 rfl) ?_
      exact W_wk (ih (v5_7 + 1) μ26) (le_s rfl (le_s rfl (le_s rfl (le_s rfl (le_s rfl (le_s rfl le_n))))))
theorem okL_X0_arrangeGiven_13 {E : gx_E} {l : Launch} {a1 : Nat} {p3 : Int32} {p2 : Int32} (ha1 : gx_St a1) {k5 : gx_M → Option (Unit × gx_M)} (hk : ∀ (μ29 : gx_M), GoW E l Y_X0_arrangeGiven 2 gx_eV 141 [] [] μ29 (k5 μ29)) : ∀ (n : Nat) (v4_3 : Int32) (μ4 : gx_M), GoW E l Y_X0_arrangeGiven 2 gx_eV 13 [some (.ref (E.2.2.1 + 75)), some (.ref (E.2.2.1 + a1)), some (.int p2), some (.int p3), some (.int v4_3)] [] μ4 (L_X0_arrangeGiven_13 a1 p3 p2 k5 n v4_3 μ4) := by
  intro n
  induction n with
  | zero => intros; exact W_no
  | succ n ih =>
    intro v4_3 μ4
    rw [L_X0_arrangeGiven_13.eq_2]
    refine W_s (s_iload dX0_arrangeGiven_13 rfl) ?_
    refine W_s (s_aload_n dX0_arrangeGiven_15 rfl rfl) ?_
    refine W_s (gfm_RX0_27 ha1 rfl dX0_arrangeGiven_16) ?_
    refine W_ite (fun h6 => ?_) (fun h6 => ?_)
    · refine W_s (s_icmp_ge_t dX0_arrangeGiven_19 rfl h6) ?_
      exact W_wk (hk μ4) le_n
    · refine W_s (s_icmp_ge_f dX0_arrangeGiven_19 rfl h6) ?_
      refine W_s (s_iconst dX0_arrangeGiven_22 kci_0) ?_
      refine W_s (s_istore dX0_arrangeGiven_23 (Nat.le_of_ble_eq_true rfl)) ?_
      refine W_wk (okL_X0_arrangeGiven_25 ha1 ?_ 4000 0 μ4) (le_s rfl (le_s rfl (le_s rfl (le_s rfl (le_s rfl (le_s rfl le_n))))))
      intro μ28
      refine W_s (s_iinc dX0_arrangeGiven_135 rfl (kinc_1 v4_3) (Nat.le_of_ble_eq_true rfl)) ?_
      refine W_s (s_goto dX0_arrangeGiven_138 rfl) ?_
      exact W_wk (ih (v4_3 + 1) μ28) (le_s rfl (le_s rfl (le_s rfl (le_s rfl (le_s rfl le_n)))))
theorem ev_X0_arrangeGiven {E : gx_E} {l : Launch} (a1 : Nat) (p2 : Int32) (p3 : Int32) (ha1 : gx_St a1) (μ : gx_M) {r : Unit} {μ' : gx_M} (hr : f_X0_arrangeGiven a1 p2 p3 μ = some (r, μ')) : gEv E l 2 Y_X0_arrangeGiven [.ref (E.2.2.1 + 75), .ref (E.2.2.1 + a1), .int p2, .int p3] gx_G1 μ (gx_eV r) gx_G1 μ' := by
  refine W_ev (by decide) (Nat.le_of_ble_eq_true rfl) (em := gx_eV) (T := f_X0_arrangeGiven a1 p2 p3 μ) ?_ hr
  show GoW E l Y_X0_arrangeGiven 2 gx_eV 0 (gx_el [.ref (E.2.2.1 + 75), .ref (E.2.2.1 + a1), .int p2, .int p3]) [] μ (f_X0_arrangeGiven a1 p2 p3 μ)
  unfold f_X0_arrangeGiven
  refine W_s (s_aload_n dX0_arrangeGiven_0 rfl rfl) ?_
  refine W_s (gf_RX0_18 rfl dX0_arrangeGiven_1) ?_
  refine W_s (s_ldc2 dX0_arrangeGiven_4 kw_RX0_30) ?_
  refine W_bd (ec := gx_eV) (fun r_ μ_ hr_ => s_callS (As := [.ref _, .long _]) dX0_arrangeGiven_7 Lk_RX0_69 rfl (Nat.le_of_ble_eq_true rfl) (Nat.le_of_ble_eq_true rfl) (ev_J7_fill_d0a16 78 2624 1152921504606846976 g_78 μ hr_)) (fun r1 μ2 => ?_)
  refine W_s (s_iconst dX0_arrangeGiven_10 kci_0) ?_
  refine W_s (s_istore dX0_arrangeGiven_11 (Nat.le_of_ble_eq_true rfl)) ?_
  refine W_wk (okL_X0_arrangeGiven_13 ha1 ?_ 4000 0 μ2) (le_s rfl (le_s rfl (le_s rfl (le_s rfl (le_s rfl le_n)))))
  intro μ30
  exact W_r (r := ()) (f_void dX0_arrangeGiven_141 rfl)

def L_X3_begin_34 (k11 : gx_M → Option (Unit × gx_M)) : Nat → Int32 → gx_M → Option (Unit × gx_M)
  | 0, _, _ => none
  | n + 1, v2_9, μ10 => if 40 ≤ v2_9 then k11 μ10 else gx_ck (gx_ix v2_9 40 = true) (gx_lt (gx_uI μ10 71 v2_9.toNatClampNeg (gx_bi false)) (fun (μ14 : gx_M) => L_X3_begin_34 k11 n (v2_9 + 1) μ14))
def f_X3_begin (a1 : Nat) (μ : gx_M) : Option (Unit × gx_M) := gx_bd (f_X5_copyFrom 63 a1 μ) (fun (r1 : Unit) (μ2 : gx_M) => gx_bd (f_J7_fill_53178 72 6 (-1) μ2) (fun (r3 : Unit) (μ4 : gx_M) => gx_bd (f_J7_fill_53178 73 4 0 μ4) (fun (r5 : Unit) (μ6 : gx_M) => gx_bd (f_J7_fill_53178 74 40 0 μ6) (fun (r7 : Unit) (μ8 : gx_M) => L_X3_begin_34 (fun (μ16 : gx_M) => gx_lt (gx_uI μ16 62 5 (-1)) (fun (μ17 : gx_M) => some ((), μ17))) 4000 0 μ8))))
theorem okL_X3_begin_34 {E : gx_E} {l : Launch} {a1 : Nat} (ha1 : gx_St a1) {k11 : gx_M → Option (Unit × gx_M)} (hk : ∀ (μ15 : gx_M), GoW E l Y_X3_begin 2 gx_eV 53 [some (.ref (E.2.2.1 + 62))] [] μ15 (k11 μ15)) : ∀ (n : Nat) (v2_9 : Int32) (μ10 : gx_M), GoW E l Y_X3_begin 2 gx_eV 34 [some (.ref (E.2.2.1 + 62)), none, some (.int v2_9)] [] μ10 (L_X3_begin_34 k11 n v2_9 μ10) := by
  intro n
  induction n with
  | zero => intros; exact W_no
  | succ n ih =>
    intro v2_9 μ10
    rw [L_X3_begin_34.eq_2]
    refine W_s (s_iload_n dX3_begin_34 rfl rfl) ?_
    refine W_s (s_bipush dX3_begin_35 kcb_40) ?_
    refine W_ite (fun h12 => ?_) (fun h12 => ?_)
    · refine W_s (s_icmp_ge_t dX3_begin_37 rfl h12) ?_
      exact W_wk (hk μ10) (le_s rfl le_n)
    · refine W_s (s_icmp_ge_f dX3_begin_37 rfl h12) ?_
      refine W_s (s_aload_n dX3_begin_40 rfl rfl) ?_
      refine W_s (gf_RX3_18 rfl dX3_begin_41) ?_
      refine W_s (s_iload_n dX3_begin_44 rfl rfl) ?_
      refine W_s (s_iconst dX3_begin_45 kci_0) ?_
      refine W_ck (fun h13 => ?_)
      refine W_s (s_zastB (b := false) dX3_begin_46 g_71 (gx_ixv h13)) ?_
      refine W_letM (fun μ14 => ?_)
      refine W_s (s_iinc dX3_begin_47 rfl (kinc_1 v2_9) (Nat.le_of_ble_eq_true rfl)) ?_
      refine W_s (s_goto dX3_begin_50 rfl) ?_
      exact W_wk (ih (v2_9 + 1) μ14) (le_s rfl (le_o (le_s rfl le_n)))
theorem ev_X3_begin {E : gx_E} {l : Launch} (a1 : Nat) (ha1 : gx_St a1) (μ : gx_M) {r : Unit} {μ' : gx_M} (hr : f_X3_begin a1 μ = some (r, μ')) : gEv E l 2 Y_X3_begin [.ref (E.2.2.1 + 62), .ref (E.2.2.1 + a1)] gx_G1 μ (gx_eV r) gx_G1 μ' := by
  refine W_ev (by decide) (Nat.le_of_ble_eq_true rfl) (em := gx_eV) (T := f_X3_begin a1 μ) ?_ hr
  show GoW E l Y_X3_begin 2 gx_eV 0 (gx_el [.ref (E.2.2.1 + 62), .ref (E.2.2.1 + a1)]) [] μ (f_X3_begin a1 μ)
  unfold f_X3_begin
  refine W_s (s_aload_n dX3_begin_0 rfl rfl) ?_
  refine W_s (gf_RX3_12 rfl dX3_begin_1) ?_
  refine W_s (s_aload_n dX3_begin_4 rfl rfl) ?_
  refine W_bd (ec := gx_eV) (fun r_ μ_ hr_ => s_callV (As := [.ref _]) dX3_begin_5 Lk_RX3_36 rfl (St_0 St_c_63) (by decide) rfl (Nat.le_of_ble_eq_true rfl) (Nat.le_of_ble_eq_true rfl) (ev_X5_copyFrom 63 a1 St_c_63 ha1 μ hr_)) (fun r1 μ2 => ?_)
  refine W_s (s_aload_n dX3_begin_8 rfl rfl) ?_
  refine W_s (gf_RX3_22 rfl dX3_begin_9) ?_
  refine W_s (s_iconst dX3_begin_12 kci_m1) ?_
  refine W_bd (ec := gx_eV) (fun r_ μ_ hr_ => s_callS (As := [.ref _, .int _]) dX3_begin_13 Lk_RX3_40 rfl (Nat.le_of_ble_eq_true rfl) (Nat.le_of_ble_eq_true rfl) (ev_J7_fill_53178 72 6 (-1) g_72 μ2 hr_)) (fun r3 μ4 => ?_)
  refine W_s (s_aload_n dX3_begin_16 rfl rfl) ?_
  refine W_s (gf_RX3_26 rfl dX3_begin_17) ?_
  refine W_s (s_iconst dX3_begin_20 kci_0) ?_
  refine W_bd (ec := gx_eV) (fun r_ μ_ hr_ => s_callS (As := [.ref _, .int _]) dX3_begin_21 Lk_RX3_40 rfl (Nat.le_of_ble_eq_true rfl) (Nat.le_of_ble_eq_true rfl) (ev_J7_fill_53178 73 4 0 g_73 μ4 hr_)) (fun r5 μ6 => ?_)
  refine W_s (s_aload_n dX3_begin_24 rfl rfl) ?_
  refine W_s (gf_RX3_29 rfl dX3_begin_25) ?_
  refine W_s (s_iconst dX3_begin_28 kci_0) ?_
  refine W_bd (ec := gx_eV) (fun r_ μ_ hr_ => s_callS (As := [.ref _, .int _]) dX3_begin_29 Lk_RX3_40 rfl (Nat.le_of_ble_eq_true rfl) (Nat.le_of_ble_eq_true rfl) (ev_J7_fill_53178 74 40 0 g_74 μ6 hr_)) (fun r7 μ8 => ?_)
  refine W_s (s_iconst dX3_begin_32 kci_0) ?_
  refine W_s (s_istore_n dX3_begin_33 rfl (Nat.le_of_ble_eq_true rfl)) ?_
  refine W_wk (okL_X3_begin_34 ha1 ?_ 4000 0 μ8) (le_s rfl (le_o (le_s rfl le_n)))
  intro μ16
  refine W_s (s_aload_n dX3_begin_53 rfl rfl) ?_
  refine W_s (s_iconst dX3_begin_54 kci_m1) ?_
  refine W_s (pf_RX3_32 rfl dX3_begin_55) ?_
  refine W_letM (fun μ17 => ?_)
  exact W_r (r := ()) (f_void dX3_begin_58 rfl)

def f_X3_buys (p1 : Int32) (p2 : Int32) (μ : gx_M) : Option (Bool × gx_M) := if (f_X3_areThere p1 p2 μ) = true then gx_ck (gx_ix p2 40 = true) (if (μ.1 71 p2.toNatClampNeg) = 0 then gx_lt (μ.1 65 p2.toNatClampNeg) (fun (x4 : Int32) => gx_lt (μ.1 66 p2.toNatClampNeg) (fun (x5 : Int32) => if x5 = p1 then some (false, μ) else gx_ck (gx_ix p1 4 = true) (if x4 ≤ (μ.1 64 p1.toNatClampNeg) then gx_lt (gx_uI μ 64 p1.toNatClampNeg ((μ.1 64 p1.toNatClampNeg) - x4)) (fun (μ9 : gx_M) => gx_lt (fun (μ14 : gx_M) => gx_bd (f_X3_moveTo p2 p1 μ14) (fun (r15 : Unit) (μ16 : gx_M) => some (true, μ16))) (fun J10 => if x5 < 0 then J10 μ9 else gx_ck (gx_ix x5 4 = true) (gx_lt (gx_uI μ9 64 x5.toNatClampNeg ((μ9.1 64 x5.toNatClampNeg) + x4)) (fun (μ13 : gx_M) => J10 μ13)))) else some (false, μ)))) else some (false, μ)) else some (false, μ)
theorem ev_X3_buys {E : gx_E} {l : Launch} (p1 : Int32) (p2 : Int32) (μ : gx_M) {r : Bool} {μ' : gx_M} (hr : f_X3_buys p1 p2 μ = some (r, μ')) : gEv E l 2 Y_X3_buys [.ref (E.2.2.1 + 62), .int p1, .int p2] gx_G1 μ (gx_eB r) gx_G1 μ' := by
  refine W_ev (by decide) (Nat.le_of_ble_eq_true rfl) (em := gx_eB) (T := f_X3_buys p1 p2 μ) ?_ hr
  show GoW E l Y_X3_buys 2 gx_eB 0 (gx_el [.ref (E.2.2.1 + 62), .int p1, .int p2]) [] μ (f_X3_buys p1 p2 μ)
  unfold f_X3_buys
  refine W_s (s_aload_n dX3_buys_0 rfl rfl) ?_
  refine W_s (s_iload_n dX3_buys_1 rfl rfl) ?_
  refine W_s (s_iload_n dX3_buys_2 rfl rfl) ?_
  refine W_s (s_callV (As := [.int _, .int _]) dX3_buys_3 Lk_RX3_95 rfl g_62 (by decide) rfl (Nat.le_of_ble_eq_true rfl) (Nat.le_of_ble_eq_true rfl) (ev_X3_areThere p1 p2 μ)) ?_
  refine W_ite (fun h1 => ?_) (fun h1 => ?_)
  · refine W_s (s_if_eq_f dX3_buys_6 rfl (gx_bt h1)) ?_
    refine W_s (s_aload_n dX3_buys_9 rfl rfl) ?_
    refine W_s (gf_RX3_18 rfl dX3_buys_10) ?_
    refine W_s (s_iload_n dX3_buys_13 rfl rfl) ?_
    refine W_ck (fun h2 => ?_)
    refine W_s (s_zald dX3_buys_14 g_71 (gx_ixv h2)) ?_
    refine W_ite (fun h3 => ?_) (fun h3 => ?_)
    · refine W_s (s_if_eq_t dX3_buys_15 rfl h3) ?_
      refine W_s (s_aload_n dX3_buys_20 rfl rfl) ?_
      refine W_s (gf_RX3_12 rfl dX3_buys_21) ?_
      refine W_s (gfm_RX3_98 St_c_63 rfl dX3_buys_24) ?_
      refine W_s (s_iload_n dX3_buys_27 rfl rfl) ?_
      refine W_s (s_iald dX3_buys_28 (St_2 St_c_63) (gx_ixv h2)) ?_
      refine W_letI (fun x4 => ?_)
      refine W_s (s_istore_n dX3_buys_29 rfl (Nat.le_of_ble_eq_true rfl)) ?_
      refine W_s (s_aload_n dX3_buys_30 rfl rfl) ?_
      refine W_s (gf_RX3_12 rfl dX3_buys_31) ?_
      refine W_s (gfm_RX3_92 St_c_63 rfl dX3_buys_34) ?_
      refine W_s (s_iload_n dX3_buys_37 rfl rfl) ?_
      refine W_s (s_iald dX3_buys_38 (St_3 St_c_63) (gx_ixv h2)) ?_
      refine W_letI (fun x5 => ?_)
      refine W_s (s_istore dX3_buys_39 (Nat.le_of_ble_eq_true rfl)) ?_
      refine W_s (s_iload dX3_buys_41 rfl) ?_
      refine W_s (s_iload_n dX3_buys_43 rfl rfl) ?_
      refine W_ite (fun h6 => ?_) (fun h6 => ?_)
      · refine W_s (s_icmp_eq_t dX3_buys_44 rfl h6) ?_
        refine W_s (s_iconst dX3_buys_60 kci_0) ?_
        exact W_r (r := false) (f_int (ty := .boolean) (x := gx_bi false) dX3_buys_61 rfl (gx_bn false))
      · refine W_s (s_icmp_eq_f dX3_buys_44 rfl h6) ?_
        refine W_s (s_aload_n dX3_buys_47 rfl rfl) ?_
        refine W_s (gf_RX3_12 rfl dX3_buys_48) ?_
        refine W_s (gfm_RX3_101 St_c_63 rfl dX3_buys_51) ?_
        refine W_s (s_iload_n dX3_buys_54 rfl rfl) ?_
        refine W_ck (fun h7 => ?_)
        refine W_s (s_iald dX3_buys_55 (St_1 St_c_63) (gx_ixv h7)) ?_
        refine W_s (s_iload_n dX3_buys_56 rfl rfl) ?_
        refine W_ite (fun h8 => ?_) (fun h8 => ?_)
        · refine W_s (s_icmp_ge_t dX3_buys_57 rfl h8) ?_
          refine W_s (s_aload_n dX3_buys_62 rfl rfl) ?_
          refine W_s (gf_RX3_12 rfl dX3_buys_63) ?_
          refine W_s (gfm_RX3_101 St_c_63 rfl dX3_buys_66) ?_
          refine W_s (s_iload_n dX3_buys_69 rfl rfl) ?_
          refine W_s (s_dup2 dX3_buys_70 rfl rfl) ?_
          refine W_s (s_iald dX3_buys_71 (St_1 St_c_63) (gx_ixv h7)) ?_
          refine W_s (s_iload_n dX3_buys_72 rfl rfl) ?_
          refine W_s (s_isub dX3_buys_73) ?_
          refine W_s (s_iast dX3_buys_74 (St_1 St_c_63) (gx_ixv h7)) ?_
          refine W_letM (fun μ9 => ?_)
          refine W_s (s_iload dX3_buys_75 rfl) ?_
          refine W_fun (fun J => ∀ (μ14 : gx_M), GoW E l Y_X3_buys 2 gx_eB 94 [some (.ref (E.2.2.1 + 62)), some (.int p1), some (.int p2)] [] μ14 (J μ14)) ?_ (fun J10 hJ10 => ?_)
          · intro μ14
            refine W_s (s_aload_n dX3_buys_94 rfl rfl) ?_
            refine W_s (s_iload_n dX3_buys_95 rfl rfl) ?_
            refine W_s (s_iload_n dX3_buys_96 rfl rfl) ?_
            refine W_bd (ec := gx_eV) (fun r_ μ_ hr_ => s_callV (As := [.int _, .int _]) dX3_buys_97 Lk_RX3_104 rfl g_62 (by decide) rfl (Nat.le_of_ble_eq_true rfl) (Nat.le_of_ble_eq_true rfl) (ev_X3_moveTo p2 p1 μ14 hr_)) (fun r15 μ16 => ?_)
            refine W_s (s_iconst dX3_buys_100 kci_1) ?_
            exact W_r (r := true) (f_int (ty := .boolean) (x := gx_bi true) dX3_buys_101 rfl (gx_bn true))
          · skip
            refine W_ite (fun h11 => ?_) (fun h11 => ?_)
            · refine W_s (s_if_lt_t dX3_buys_77 rfl h11) ?_
              exact W_wk (hJ10 μ9) (le_s rfl (le_s rfl (le_s rfl le_n)))
            · refine W_s (s_if_lt_f dX3_buys_77 rfl h11) ?_
              refine W_s (s_aload_n dX3_buys_80 rfl rfl) ?_
              refine W_s (gf_RX3_12 rfl dX3_buys_81) ?_
              refine W_s (gfm_RX3_101 St_c_63 rfl dX3_buys_84) ?_
              refine W_s (s_iload dX3_buys_87 rfl) ?_
              refine W_s (s_dup2 dX3_buys_89 rfl rfl) ?_
              refine W_ck (fun h12 => ?_)
              refine W_s (s_iald dX3_buys_90 (St_1 St_c_63) (gx_ixv h12)) ?_
              refine W_s (s_iload_n dX3_buys_91 rfl rfl) ?_
              refine W_s (s_iadd dX3_buys_92) ?_
              refine W_s (s_iast dX3_buys_93 (St_1 St_c_63) (gx_ixv h12)) ?_
              refine W_letM (fun μ13 => ?_)
              exact W_wk (hJ10 μ13) (le_s rfl (le_s rfl (le_s rfl le_n)))
        · refine W_s (s_icmp_ge_f dX3_buys_57 rfl h8) ?_
          refine W_s (s_iconst dX3_buys_60 kci_0) ?_
          exact W_r (r := false) (f_int (ty := .boolean) (x := gx_bi false) dX3_buys_61 rfl (gx_bn false))
    · refine W_s (s_if_eq_f dX3_buys_15 rfl h3) ?_
      refine W_s (s_iconst dX3_buys_18 kci_0) ?_
      exact W_r (r := false) (f_int (ty := .boolean) (x := gx_bi false) dX3_buys_19 rfl (gx_bn false))
  · refine W_s (s_if_eq_t dX3_buys_6 rfl (gx_bf h1)) ?_
    refine W_s (s_iconst dX3_buys_18 kci_0) ?_
    exact W_r (r := false) (f_int (ty := .boolean) (x := gx_bi false) dX3_buys_19 rfl (gx_bn false))

def f_X3_sells (p1 : Int32) (p2 : Int32) (μ : gx_M) : Option (Bool × gx_M) := if (f_X3_areThere p1 p2 μ) = true then gx_br (f_X3_isFreeOf p1 p2 μ) (fun (r2 : Bool) => if r2 = true then gx_ck (gx_ix p1 4 = true) (gx_ck (gx_ix p2 40 = true) (gx_lt (gx_uI μ 64 p1.toNatClampNeg ((μ.1 64 p1.toNatClampNeg) + (μ.1 65 p2.toNatClampNeg))) (fun (μ6 : gx_M) => gx_bd (f_X3_moveTo p2 (-1) μ6) (fun (r7 : Unit) (μ8 : gx_M) => some (true, μ8))))) else some (false, μ)) else some (false, μ)
theorem ev_X3_sells {E : gx_E} {l : Launch} (p1 : Int32) (p2 : Int32) (μ : gx_M) {r : Bool} {μ' : gx_M} (hr : f_X3_sells p1 p2 μ = some (r, μ')) : gEv E l 2 Y_X3_sells [.ref (E.2.2.1 + 62), .int p1, .int p2] gx_G1 μ (gx_eB r) gx_G1 μ' := by
  refine W_ev (by decide) (Nat.le_of_ble_eq_true rfl) (em := gx_eB) (T := f_X3_sells p1 p2 μ) ?_ hr
  show GoW E l Y_X3_sells 2 gx_eB 0 (gx_el [.ref (E.2.2.1 + 62), .int p1, .int p2]) [] μ (f_X3_sells p1 p2 μ)
  unfold f_X3_sells
  refine W_s (s_aload_n dX3_sells_0 rfl rfl) ?_
  refine W_s (s_iload_n dX3_sells_1 rfl rfl) ?_
  refine W_s (s_iload_n dX3_sells_2 rfl rfl) ?_
  refine W_s (s_callV (As := [.int _, .int _]) dX3_sells_3 Lk_RX3_95 rfl g_62 (by decide) rfl (Nat.le_of_ble_eq_true rfl) (Nat.le_of_ble_eq_true rfl) (ev_X3_areThere p1 p2 μ)) ?_
  refine W_ite (fun h1 => ?_) (fun h1 => ?_)
  · refine W_s (s_if_eq_f dX3_sells_6 rfl (gx_bt h1)) ?_
    refine W_s (s_aload_n dX3_sells_9 rfl rfl) ?_
    refine W_s (s_iload_n dX3_sells_10 rfl rfl) ?_
    refine W_s (s_iload_n dX3_sells_11 rfl rfl) ?_
    refine W_br (ec := gx_eB) (fun r_ hr_ => s_callV (As := [.int _, .int _]) dX3_sells_12 Lk_RX3_108 rfl g_62 (by decide) rfl (Nat.le_of_ble_eq_true rfl) (Nat.le_of_ble_eq_true rfl) (ev_X3_isFreeOf p1 p2 μ hr_)) (fun r2 => ?_)
    refine W_ite (fun h3 => ?_) (fun h3 => ?_)
    · refine W_s (s_if_ne_t dX3_sells_15 rfl (gx_bt h3)) ?_
      refine W_s (s_aload_n dX3_sells_20 rfl rfl) ?_
      refine W_s (gf_RX3_12 rfl dX3_sells_21) ?_
      refine W_s (gfm_RX3_101 St_c_63 rfl dX3_sells_24) ?_
      refine W_s (s_iload_n dX3_sells_27 rfl rfl) ?_
      refine W_s (s_dup2 dX3_sells_28 rfl rfl) ?_
      refine W_ck (fun h4 => ?_)
      refine W_s (s_iald dX3_sells_29 (St_1 St_c_63) (gx_ixv h4)) ?_
      refine W_s (s_aload_n dX3_sells_30 rfl rfl) ?_
      refine W_s (gf_RX3_12 rfl dX3_sells_31) ?_
      refine W_s (gfm_RX3_98 St_c_63 rfl dX3_sells_34) ?_
      refine W_s (s_iload_n dX3_sells_37 rfl rfl) ?_
      refine W_ck (fun h5 => ?_)
      refine W_s (s_iald dX3_sells_38 (St_2 St_c_63) (gx_ixv h5)) ?_
      refine W_s (s_iadd dX3_sells_39) ?_
      refine W_s (s_iast dX3_sells_40 (St_1 St_c_63) (gx_ixv h4)) ?_
      refine W_letM (fun μ6 => ?_)
      refine W_s (s_aload_n dX3_sells_41 rfl rfl) ?_
      refine W_s (s_iload_n dX3_sells_42 rfl rfl) ?_
      refine W_s (s_iconst dX3_sells_43 kci_m1) ?_
      refine W_bd (ec := gx_eV) (fun r_ μ_ hr_ => s_callV (As := [.int _, .int _]) dX3_sells_44 Lk_RX3_104 rfl g_62 (by decide) rfl (Nat.le_of_ble_eq_true rfl) (Nat.le_of_ble_eq_true rfl) (ev_X3_moveTo p2 (-1) μ6 hr_)) (fun r7 μ8 => ?_)
      refine W_s (s_iconst dX3_sells_47 kci_1) ?_
      exact W_r (r := true) (f_int (ty := .boolean) (x := gx_bi true) dX3_sells_48 rfl (gx_bn true))
    · refine W_s (s_if_ne_f dX3_sells_15 rfl (gx_bf h3)) ?_
      refine W_s (s_iconst dX3_sells_18 kci_0) ?_
      exact W_r (r := false) (f_int (ty := .boolean) (x := gx_bi false) dX3_sells_19 rfl (gx_bn false))
  · refine W_s (s_if_eq_t dX3_sells_6 rfl (gx_bf h1)) ?_
    refine W_s (s_iconst dX3_sells_18 kci_0) ?_
    exact W_r (r := false) (f_int (ty := .boolean) (x := gx_bi false) dX3_sells_19 rfl (gx_bn false))

def f_X3_thinks (p1 : Int32) (p2 : Int32) (μ : gx_M) : Option (Bool × gx_M) := if (f_X3_areThere p1 p2 μ) = true then gx_br (f_X3_isFreeOf p1 p2 μ) (fun (r2 : Bool) => if r2 = true then gx_ck (gx_ix p2 40 = true) (gx_lt (gx_uI μ 71 p2.toNatClampNeg (gx_bi true)) (fun (μ5 : gx_M) => if (μ5.1 62 5) = (-1) then gx_lt (gx_uI μ5 62 5 p1) (fun (μ7 : gx_M) => some (true, μ7)) else some (true, μ5))) else some (false, μ)) else some (false, μ)
theorem ev_X3_thinks {E : gx_E} {l : Launch} (p1 : Int32) (p2 : Int32) (μ : gx_M) {r : Bool} {μ' : gx_M} (hr : f_X3_thinks p1 p2 μ = some (r, μ')) : gEv E l 2 Y_X3_thinks [.ref (E.2.2.1 + 62), .int p1, .int p2] gx_G1 μ (gx_eB r) gx_G1 μ' := by
  refine W_ev (by decide) (Nat.le_of_ble_eq_true rfl) (em := gx_eB) (T := f_X3_thinks p1 p2 μ) ?_ hr
  show GoW E l Y_X3_thinks 2 gx_eB 0 (gx_el [.ref (E.2.2.1 + 62), .int p1, .int p2]) [] μ (f_X3_thinks p1 p2 μ)
  unfold f_X3_thinks
  refine W_s (s_aload_n dX3_thinks_0 rfl rfl) ?_
  refine W_s (s_iload_n dX3_thinks_1 rfl rfl) ?_
  refine W_s (s_iload_n dX3_thinks_2 rfl rfl) ?_
  refine W_s (s_callV (As := [.int _, .int _]) dX3_thinks_3 Lk_RX3_95 rfl g_62 (by decide) rfl (Nat.le_of_ble_eq_true rfl) (Nat.le_of_ble_eq_true rfl) (ev_X3_areThere p1 p2 μ)) ?_
  refine W_ite (fun h1 => ?_) (fun h1 => ?_)
  · refine W_s (s_if_eq_f dX3_thinks_6 rfl (gx_bt h1)) ?_
    refine W_s (s_aload_n dX3_thinks_9 rfl rfl) ?_
    refine W_s (s_iload_n dX3_thinks_10 rfl rfl) ?_
    refine W_s (s_iload_n dX3_thinks_11 rfl rfl) ?_
    refine W_br (ec := gx_eB) (fun r_ hr_ => s_callV (As := [.int _, .int _]) dX3_thinks_12 Lk_RX3_108 rfl g_62 (by decide) rfl (Nat.le_of_ble_eq_true rfl) (Nat.le_of_ble_eq_true rfl) (ev_X3_isFreeOf p1 p2 μ hr_)) (fun r2 => ?_)
    refine W_ite (fun h3 => ?_) (fun h3 => ?_)
    · refine W_s (s_if_ne_t dX3_thinks_15 rfl (gx_bt h3)) ?_
      refine W_s (s_aload_n dX3_thinks_20 rfl rfl) ?_
      refine W_s (gf_RX3_18 rfl dX3_thinks_21) ?_
      refine W_s (s_iload_n dX3_thinks_24 rfl rfl) ?_
      refine W_s (s_iconst dX3_thinks_25 kci_1) ?_
      refine W_ck (fun h4 => ?_)
      refine W_s (s_zastB (b := true) dX3_thinks_26 g_71 (gx_ixv h4)) ?_
      refine W_letM (fun μ5 => ?_)
      refine W_s (s_aload_n dX3_thinks_27 rfl rfl) ?_
      refine W_s (gf_RX3_32 rfl dX3_thinks_28) ?_
      refine W_s (s_iconst dX3_thinks_31 kci_m1) ?_
      refine W_ite (fun h6 => ?_) (fun h6 => ?_)
      · refine W_s (s_icmp_ne_f dX3_thinks_32 rfl h6) ?_
        refine W_s (s_aload_n dX3_thinks_35 rfl rfl) ?_
        refine W_s (s_iload_n dX3_thinks_36 rfl rfl) ?_
        refine W_s (pf_RX3_32 rfl dX3_thinks_37) ?_
        refine W_letM (fun μ7 => ?_)
        refine W_s (s_iconst dX3_thinks_40 kci_1) ?_
        exact W_r (r := true) (f_int (ty := .boolean) (x := gx_bi true) dX3_thinks_41 rfl (gx_bn true))
      · refine W_s (s_icmp_ne_t dX3_thinks_32 rfl h6) ?_
        refine W_s (s_iconst dX3_thinks_40 kci_1) ?_
        exact W_r (r := true) (f_int (ty := .boolean) (x := gx_bi true) dX3_thinks_41 rfl (gx_bn true))
    · refine W_s (s_if_ne_f dX3_thinks_15 rfl (gx_bf h3)) ?_
      refine W_s (s_iconst dX3_thinks_18 kci_0) ?_
      exact W_r (r := false) (f_int (ty := .boolean) (x := gx_bi false) dX3_thinks_19 rfl (gx_bn false))
  · refine W_s (s_if_eq_t dX3_thinks_6 rfl (gx_bf h1)) ?_
    refine W_s (s_iconst dX3_thinks_18 kci_0) ?_
    exact W_r (r := false) (f_int (ty := .boolean) (x := gx_bi false) dX3_thinks_19 rfl (gx_bn false))

def f_X3_steals (p1 : Int32) (p2 : Int32) (μ : gx_M) : Option (Bool × gx_M) := if (f_X3_areThere p1 p2 μ) = true then gx_ck (gx_ix p2 40 = true) (if (μ.1 71 p2.toNatClampNeg) = 0 then gx_lt (μ.1 66 p2.toNatClampNeg) (fun (x4 : Int32) => if x4 < 0 then some (false, μ) else if x4 = p1 then some (false, μ) else gx_ck (gx_ix x4 4 = true) (gx_lt (gx_uI μ 73 x4.toNatClampNeg ((μ.1 73 x4.toNatClampNeg) + 1)) (fun (μ8 : gx_M) => gx_bd (f_X3_moveTo p2 p1 μ8) (fun (r9 : Unit) (μ10 : gx_M) => some (true, μ10))))) else some (false, μ)) else some (false, μ)
theorem ev_X3_steals {E : gx_E} {l : Launch} (p1 : Int32) (p2 : Int32) (μ : gx_M) {r : Bool} {μ' : gx_M} (hr : f_X3_steals p1 p2 μ = some (r, μ')) : gEv E l 2 Y_X3_steals [.ref (E.2.2.1 + 62), .int p1, .int p2] gx_G1 μ (gx_eB r) gx_G1 μ' := by
  refine W_ev (by decide) (Nat.le_of_ble_eq_true rfl) (em := gx_eB) (T := f_X3_steals p1 p2 μ) ?_ hr
  show GoW E l Y_X3_steals 2 gx_eB 0 (gx_el [.ref (E.2.2.1 + 62), .int p1, .int p2]) [] μ (f_X3_steals p1 p2 μ)
  unfold f_X3_steals
  refine W_s (s_aload_n dX3_steals_0 rfl rfl) ?_
  refine W_s (s_iload_n dX3_steals_1 rfl rfl) ?_
  refine W_s (s_iload_n dX3_steals_2 rfl rfl) ?_
  refine W_s (s_callV (As := [.int _, .int _]) dX3_steals_3 Lk_RX3_95 rfl g_62 (by decide) rfl (Nat.le_of_ble_eq_true rfl) (Nat.le_of_ble_eq_true rfl) (ev_X3_areThere p1 p2 μ)) ?_
  refine W_ite (fun h1 => ?_) (fun h1 => ?_)
  · refine W_s (s_if_eq_f dX3_steals_6 rfl (gx_bt h1)) ?_
    refine W_s (s_aload_n dX3_steals_9 rfl rfl) ?_
    refine W_s (gf_RX3_18 rfl dX3_steals_10) ?_
    refine W_s (s_iload_n dX3_steals_13 rfl rfl) ?_
    refine W_ck (fun h2 => ?_)
    refine W_s (s_zald dX3_steals_14 g_71 (gx_ixv h2)) ?_
    refine W_ite (fun h3 => ?_) (fun h3 => ?_)
    · refine W_s (s_if_eq_t dX3_steals_15 rfl h3) ?_
      refine W_s (s_aload_n dX3_steals_20 rfl rfl) ?_
      refine W_s (gf_RX3_12 rfl dX3_steals_21) ?_
      refine W_s (gfm_RX3_92 St_c_63 rfl dX3_steals_24) ?_
      refine W_s (s_iload_n dX3_steals_27 rfl rfl) ?_
      refine W_s (s_iald dX3_steals_28 (St_3 St_c_63) (gx_ixv h2)) ?_
      refine W_letI (fun x4 => ?_)
      refine W_s (s_istore_n dX3_steals_29 rfl (Nat.le_of_ble_eq_true rfl)) ?_
      refine W_s (s_iload_n dX3_steals_30 rfl rfl) ?_
      refine W_ite (fun h5 => ?_) (fun h5 => ?_)
      · refine W_s (s_if_lt_t dX3_steals_31 rfl h5) ?_
        refine W_s (s_iconst dX3_steals_39 kci_0) ?_
        exact W_r (r := false) (f_int (ty := .boolean) (x := gx_bi false) dX3_steals_40 rfl (gx_bn false))
      · refine W_s (s_if_lt_f dX3_steals_31 rfl h5) ?_
        refine W_s (s_iload_n dX3_steals_34 rfl rfl) ?_
        refine W_s (s_iload_n dX3_steals_35 rfl rfl) ?_
        refine W_ite (fun h6 => ?_) (fun h6 => ?_)
        · refine W_s (s_icmp_ne_f dX3_steals_36 rfl h6) ?_
          refine W_s (s_iconst dX3_steals_39 kci_0) ?_
          exact W_r (r := false) (f_int (ty := .boolean) (x := gx_bi false) dX3_steals_40 rfl (gx_bn false))
        · refine W_s (s_icmp_ne_t dX3_steals_36 rfl h6) ?_
          refine W_s (s_aload_n dX3_steals_41 rfl rfl) ?_
          refine W_s (gf_RX3_26 rfl dX3_steals_42) ?_
          refine W_s (s_iload_n dX3_steals_45 rfl rfl) ?_
          refine W_s (s_dup2 dX3_steals_46 rfl rfl) ?_
          refine W_ck (fun h7 => ?_)
          refine W_s (s_iald dX3_steals_47 g_73 (gx_ixv h7)) ?_
          refine W_s (s_iconst dX3_steals_48 kci_1) ?_
          refine W_s (s_iadd dX3_steals_49) ?_
          refine W_s (s_iast dX3_steals_50 g_73 (gx_ixv h7)) ?_
          refine W_letM (fun μ8 => ?_)
          refine W_s (s_aload_n dX3_steals_51 rfl rfl) ?_
          refine W_s (s_iload_n dX3_steals_52 rfl rfl) ?_
          refine W_s (s_iload_n dX3_steals_53 rfl rfl) ?_
          refine W_bd (ec := gx_eV) (fun r_ μ_ hr_ => s_callV (As := [.int _, .int _]) dX3_steals_54 Lk_RX3_104 rfl g_62 (by decide) rfl (Nat.le_of_ble_eq_true rfl) (Nat.le_of_ble_eq_true rfl) (ev_X3_moveTo p2 p1 μ8 hr_)) (fun r9 μ10 => ?_)
          refine W_s (s_iconst dX3_steals_57 kci_1) ?_
          exact W_r (r := true) (f_int (ty := .boolean) (x := gx_bi true) dX3_steals_58 rfl (gx_bn true))
    · refine W_s (s_if_eq_f dX3_steals_15 rfl h3) ?_
      refine W_s (s_iconst dX3_steals_18 kci_0) ?_
      exact W_r (r := false) (f_int (ty := .boolean) (x := gx_bi false) dX3_steals_19 rfl (gx_bn false))
  · refine W_s (s_if_eq_t dX3_steals_6 rfl (gx_bf h1)) ?_
    refine W_s (s_iconst dX3_steals_18 kci_0) ?_
    exact W_r (r := false) (f_int (ty := .boolean) (x := gx_bi false) dX3_steals_19 rfl (gx_bn false))

def L_X3_does_54 (p2 : Int32) (p3 : Int32) (k10 : gx_M → Option (Bool × gx_M)) : Nat → Int32 → gx_M → Option (Bool × gx_M)
  | 0, _, _ => none
  | n + 1, v4_8, μ9 => gx_ck (gx_ix p2 6 = true) (if (p3 + (μ9.1 67 p2.toNatClampNeg)) ≤ v4_8 then k10 μ9 else gx_ck (gx_ix v4_8 40 = true) (gx_lt (gx_uI μ9 71 v4_8.toNatClampNeg (gx_bi true)) (fun (μ14 : gx_M) => L_X3_does_54 p2 p3 k10 n (v4_8 + 1) μ14)))
def f_X3_does (p1 : Int32) (p2 : Int32) (p3 : Int32) (μ : gx_M) : Option (Bool × gx_M) := if (f_X3_areThere p1 p3 μ) = true then if (f_X5_hasBusiness 63 p2 μ) = true then gx_ck (gx_ix p2 6 = true) (if (μ.1 72 p2.toNatClampNeg) = (-1) then gx_br (f_X3_freeMinutes p1 μ) (fun (r5 : Int64) => gx_br (f_X5_goesIn 63 p2 p3 r5 μ) (fun (r6 : Bool) => if r6 = true then L_X3_does_54 p2 p3 (fun (μ16 : gx_M) => gx_lt (gx_uI μ16 72 p2.toNatClampNeg p1) (fun (μ17 : gx_M) => gx_ck (gx_ix p1 4 = true) (gx_lt (gx_uI μ17 64 p1.toNatClampNeg ((μ17.1 64 p1.toNatClampNeg) + (μ17.1 70 p2.toNatClampNeg))) (fun (μ19 : gx_M) => some (true, μ19))))) 4000 p3 μ else some (false, μ))) else some (false, μ)) else some (false, μ) else some (false, μ)
theorem okL_X3_does_54 {E : gx_E} {l : Launch} {p2 : Int32} {p3 : Int32} {p1 : Int32} {k10 : gx_M → Option (Bool × gx_M)} (hk : ∀ (μ15 : gx_M), GoW E l Y_X3_does 2 gx_eB 84 [some (.ref (E.2.2.1 + 62)), some (.int p1), some (.int p2)] [] μ15 (k10 μ15)) : ∀ (n : Nat) (v4_8 : Int32) (μ9 : gx_M), GoW E l Y_X3_does 2 gx_eB 54 [some (.ref (E.2.2.1 + 62)), some (.int p1), some (.int p2), some (.int p3), some (.int v4_8)] [] μ9 (L_X3_does_54 p2 p3 k10 n v4_8 μ9) := by
  intro n
  induction n with
  | zero => intros; exact W_no
  | succ n ih =>
    intro v4_8 μ9
    rw [L_X3_does_54.eq_2]
    refine W_s (s_iload dX3_does_54 rfl) ?_
    refine W_s (s_iload_n dX3_does_56 rfl rfl) ?_
    refine W_s (s_aload_n dX3_does_57 rfl rfl) ?_
    refine W_s (gf_RX3_12 rfl dX3_does_58) ?_
    refine W_s (gfm_RX3_122 St_c_63 rfl dX3_does_61) ?_
    refine W_s (s_iload_n dX3_does_64 rfl rfl) ?_
    refine W_ck (fun h11 => ?_)
    refine W_s (s_iald dX3_does_65 (St_4 St_c_63) (gx_ixv h11)) ?_
    refine W_s (s_iadd dX3_does_66) ?_
    refine W_ite (fun h12 => ?_) (fun h12 => ?_)
    · refine W_s (s_icmp_ge_t dX3_does_67 rfl h12) ?_
      exact W_wk (hk μ9) (le_s rfl (le_s rfl (le_s rfl le_n)))
    · refine W_s (s_icmp_ge_f dX3_does_67 rfl h12) ?_
      refine W_s (s_aload_n dX3_does_70 rfl rfl) ?_
      refine W_s (gf_RX3_18 rfl dX3_does_71) ?_
      refine W_s (s_iload dX3_does_74 rfl) ?_
      refine W_s (s_iconst dX3_does_76 kci_1) ?_
      refine W_ck (fun h13 => ?_)
      refine W_s (s_zastB (b := true) dX3_does_77 g_71 (gx_ixv h13)) ?_
      refine W_letM (fun μ14 => ?_)
      refine W_s (s_iinc dX3_does_78 rfl (kinc_1 v4_8) (Nat.le_of_ble_eq_true rfl)) ?_
      refine W_s (s_goto dX3_does_81 rfl) ?_
      exact W_wk (ih (v4_8 + 1) μ14) (le_s rfl (le_s rfl (le_s rfl (le_s rfl (le_s rfl le_n)))))
theorem ev_X3_does {E : gx_E} {l : Launch} (p1 : Int32) (p2 : Int32) (p3 : Int32) (μ : gx_M) {r : Bool} {μ' : gx_M} (hr : f_X3_does p1 p2 p3 μ = some (r, μ')) : gEv E l 2 Y_X3_does [.ref (E.2.2.1 + 62), .int p1, .int p2, .int p3] gx_G1 μ (gx_eB r) gx_G1 μ' := by
  refine W_ev (by decide) (Nat.le_of_ble_eq_true rfl) (em := gx_eB) (T := f_X3_does p1 p2 p3 μ) ?_ hr
  show GoW E l Y_X3_does 2 gx_eB 0 (gx_el [.ref (E.2.2.1 + 62), .int p1, .int p2, .int p3]) [] μ (f_X3_does p1 p2 p3 μ)
  unfold f_X3_does
  refine W_s (s_aload_n dX3_does_0 rfl rfl) ?_
  refine W_s (s_iload_n dX3_does_1 rfl rfl) ?_
  refine W_s (s_iload_n dX3_does_2 rfl rfl) ?_
  refine W_s (s_callV (As := [.int _, .int _]) dX3_does_3 Lk_RX3_95 rfl g_62 (by decide) rfl (Nat.le_of_ble_eq_true rfl) (Nat.le_of_ble_eq_true rfl) (ev_X3_areThere p1 p3 μ)) ?_
  refine W_ite (fun h1 => ?_) (fun h1 => ?_)
  · refine W_s (s_if_eq_f dX3_does_6 rfl (gx_bt h1)) ?_
    refine W_s (s_aload_n dX3_does_9 rfl rfl) ?_
    refine W_s (gf_RX3_12 rfl dX3_does_10) ?_
    refine W_s (s_iload_n dX3_does_13 rfl rfl) ?_
    refine W_s (s_callV (As := [.int _]) dX3_does_14 Lk_RX3_111 rfl (St_0 St_c_63) (by decide) rfl (Nat.le_of_ble_eq_true rfl) (Nat.le_of_ble_eq_true rfl) (ev_X5_hasBusiness 63 p2 St_c_63 μ)) ?_
    refine W_ite (fun h2 => ?_) (fun h2 => ?_)
    · refine W_s (s_if_ne_t dX3_does_17 rfl (gx_bt h2)) ?_
      refine W_s (s_aload_n dX3_does_22 rfl rfl) ?_
      refine W_s (gf_RX3_22 rfl dX3_does_23) ?_
      refine W_s (s_iload_n dX3_does_26 rfl rfl) ?_
      refine W_ck (fun h3 => ?_)
      refine W_s (s_iald dX3_does_27 g_72 (gx_ixv h3)) ?_
      refine W_s (s_iconst dX3_does_28 kci_m1) ?_
      refine W_ite (fun h4 => ?_) (fun h4 => ?_)
      · refine W_s (s_icmp_ne_f dX3_does_29 rfl h4) ?_
        refine W_s (s_aload_n dX3_does_32 rfl rfl) ?_
        refine W_s (gf_RX3_12 rfl dX3_does_33) ?_
        refine W_s (s_iload_n dX3_does_36 rfl rfl) ?_
        refine W_s (s_iload_n dX3_does_37 rfl rfl) ?_
        refine W_s (s_aload_n dX3_does_38 rfl rfl) ?_
        refine W_s (s_iload_n dX3_does_39 rfl rfl) ?_
        refine W_br (ec := gx_eL) (fun r_ hr_ => s_callV (As := [.int _]) dX3_does_40 Lk_RX3_114 rfl g_62 (by decide) rfl (Nat.le_of_ble_eq_true rfl) (Nat.le_of_ble_eq_true rfl) (ev_X3_freeMinutes p1 μ hr_)) (fun r5 => ?_)
        refine W_br (ec := gx_eB) (fun r_ hr_ => s_callV (As := [.int _, .int _, .long _]) dX3_does_43 Lk_RX3_118 rfl (St_0 St_c_63) (by decide) rfl (Nat.le_of_ble_eq_true rfl) (Nat.le_of_ble_eq_true rfl) (ev_X5_goesIn 63 p2 p3 r5 St_c_63 μ hr_)) (fun r6 => ?_)
        refine W_ite (fun h7 => ?_) (fun h7 => ?_)
        · refine W_s (s_if_ne_t dX3_does_46 rfl (gx_bt h7)) ?_
          refine W_s (s_iload_n dX3_does_51 rfl rfl) ?_
          refine W_s (s_istore dX3_does_52 (Nat.le_of_ble_eq_true rfl)) ?_
          refine W_wk (okL_X3_does_54 ?_ 4000 p3 μ) (le_s rfl (le_s rfl (le_s rfl (le_s rfl (le_s rfl le_n)))))
          intro μ16
          refine W_s (s_aload_n dX3_does_84 rfl rfl) ?_
          refine W_s (gf_RX3_22 rfl dX3_does_85) ?_
          refine W_s (s_iload_n dX3_does_88 rfl rfl) ?_
          refine W_s (s_iload_n dX3_does_89 rfl rfl) ?_
          refine W_s (s_iast dX3_does_90 g_72 (gx_ixv h3)) ?_
          refine W_letM (fun μ17 => ?_)
          refine W_s (s_aload_n dX3_does_91 rfl rfl) ?_
          refine W_s (gf_RX3_12 rfl dX3_does_92) ?_
          refine W_s (gfm_RX3_101 St_c_63 rfl dX3_does_95) ?_
          refine W_s (s_iload_n dX3_does_98 rfl rfl) ?_
          refine W_s (s_dup2 dX3_does_99 rfl rfl) ?_
          refine W_ck (fun h18 => ?_)
          refine W_s (s_iald dX3_does_100 (St_1 St_c_63) (gx_ixv h18)) ?_
          refine W_s (s_aload_n dX3_does_101 rfl rfl) ?_
          refine W_s (gf_RX3_12 rfl dX3_does_102) ?_
          refine W_s (gfm_RX3_125 St_c_63 rfl dX3_does_105) ?_
          refine W_s (s_iload_n dX3_does_108 rfl rfl) ?_
          refine W_s (s_iald dX3_does_109 (St_7 St_c_63) (gx_ixv h3)) ?_
          refine W_s (s_iadd dX3_does_110) ?_
          refine W_s (s_iast dX3_does_111 (St_1 St_c_63) (gx_ixv h18)) ?_
          refine W_letM (fun μ19 => ?_)
          refine W_s (s_iconst dX3_does_112 kci_1) ?_
          exact W_r (r := true) (f_int (ty := .boolean) (x := gx_bi true) dX3_does_113 rfl (gx_bn true))
        · refine W_s (s_if_ne_f dX3_does_46 rfl (gx_bf h7)) ?_
          refine W_s (s_iconst dX3_does_49 kci_0) ?_
          exact W_r (r := false) (f_int (ty := .boolean) (x := gx_bi false) dX3_does_50 rfl (gx_bn false))
      · refine W_s (s_icmp_ne_t dX3_does_29 rfl h4) ?_
        refine W_s (s_iconst dX3_does_49 kci_0) ?_
        exact W_r (r := false) (f_int (ty := .boolean) (x := gx_bi false) dX3_does_50 rfl (gx_bn false))
    · refine W_s (s_if_ne_f dX3_does_17 rfl (gx_bf h2)) ?_
      refine W_s (s_iconst dX3_does_20 kci_0) ?_
      exact W_r (r := false) (f_int (ty := .boolean) (x := gx_bi false) dX3_does_21 rfl (gx_bn false))
  · refine W_s (s_if_eq_t dX3_does_6 rfl (gx_bf h1)) ?_
    refine W_s (s_iconst dX3_does_20 kci_0) ?_
    exact W_r (r := false) (f_int (ty := .boolean) (x := gx_bi false) dX3_does_21 rfl (gx_bn false))

def f_X3_answer (p1 : Int32) (μ : gx_M) : Option Int32 := if p1 = 0 then gx_br (f_X3_usedMinutes μ) (fun (r2 : Int32) => some r2) else if p1 = 1 then gx_br (f_X3_doneBusiness μ) (fun (r4 : Int32) => some r4) else if p1 = 2 then gx_br (f_X3_allCoins μ) (fun (r6 : Int32) => some r6) else gx_br (f_X3_partOfState p1 μ) (fun (r7 : Int32) => some r7)
theorem ev_X3_answer {E : gx_E} {l : Launch} {fk : Nat} {uq : Option Nat} {adK adV : Nat → Nat} (hE : gx_EX E fk uq adK adV) (p1 : Int32) (μ : gx_M) {r : Int32} (hr : f_X3_answer p1 μ = some r) : gEv E l 2 Y_X3_answer [.ref (E.2.2.1 + 62), .int p1] gx_G1 μ (gx_eI r) gx_G1 μ := by
  refine R_ev (by decide) (Nat.le_of_ble_eq_true rfl) (em := gx_eI) (T := f_X3_answer p1 μ) ?_ hr
  show GoR E l Y_X3_answer 2 gx_eI 0 (gx_el [.ref (E.2.2.1 + 62), .int p1]) [] μ (f_X3_answer p1 μ)
  unfold f_X3_answer
  refine R_s (s_iload_n dX3_answer_0 rfl rfl) ?_
  refine R_ite (fun h1 => ?_) (fun h1 => ?_)
  · refine R_s (s_tsw_eq (c := 0) dX3_answer_1 h1 (by decide) (by decide) rfl rfl) ?_
    refine R_s (s_aload_n dX3_answer_28 rfl rfl) ?_
    refine R_br (ec := gx_eI) (fun r_ hr_ => s_callV (As := []) dX3_answer_29 Lk_RX3_154 rfl g_62 (by decide) rfl (Nat.le_of_ble_eq_true rfl) (Nat.le_of_ble_eq_true rfl) (ev_X3_usedMinutes μ hr_)) (fun r2 => ?_)
    exact R_r (r := r2) (f_int (ty := .int) dX3_answer_32 rfl rfl)
  · skip
    refine R_ite (fun h3 => ?_) (fun h3 => ?_)
    · refine R_s (s_tsw_eq (c := 1) dX3_answer_1 h3 (by decide) (by decide) rfl rfl) ?_
      refine R_s (s_aload_n dX3_answer_33 rfl rfl) ?_
      refine R_br (ec := gx_eI) (fun r_ hr_ => s_callV (As := []) dX3_answer_34 Lk_RX3_158 rfl g_62 (by decide) rfl (Nat.le_of_ble_eq_true rfl) (Nat.le_of_ble_eq_true rfl) (ev_X3_doneBusiness μ hr_)) (fun r4 => ?_)
      exact R_r (r := r4) (f_int (ty := .int) dX3_answer_37 rfl rfl)
    · skip
      refine R_ite (fun h5 => ?_) (fun h5 => ?_)
      · refine R_s (s_tsw_eq (c := 2) dX3_answer_1 h5 (by decide) (by decide) rfl rfl) ?_
        refine R_s (s_aload_n dX3_answer_38 rfl rfl) ?_
        refine R_br (ec := gx_eI) (fun r_ hr_ => s_callV (As := []) dX3_answer_39 Lk_RX3_161 rfl g_62 (by decide) rfl (Nat.le_of_ble_eq_true rfl) (Nat.le_of_ble_eq_true rfl) (ev_X3_allCoins μ hr_)) (fun r6 => ?_)
        exact R_r (r := r6) (f_int (ty := .int) dX3_answer_42 rfl rfl)
      · skip
        refine R_s (s_tsw_out dX3_answer_1 (gx_out_0_3 h1 h3 h5) rfl) ?_
        refine R_s (s_aload_n dX3_answer_43 rfl rfl) ?_
        refine R_s (s_iload_n dX3_answer_44 rfl rfl) ?_
        refine R_br (ec := gx_eI) (fun r_ hr_ => s_callV (As := [.int _]) dX3_answer_45 Lk_RX3_164 rfl g_62 (by decide) rfl (Nat.le_of_ble_eq_true rfl) (Nat.le_of_ble_eq_true rfl) (ev_X3_partOfState hE p1 μ hr_)) (fun r7 => ?_)
        exact R_r (r := r7) (f_int (ty := .int) dX3_answer_48 rfl rfl)

def f_X4_clear (μ : gx_M) : Option (Unit × gx_M) := gx_bd (f_X5_clear 45 μ) (fun (r1 : Unit) (μ2 : gx_M) => gx_lt (gx_uI μ2 53 3 0) (fun (μ3 : gx_M) => gx_lt (gx_uI μ3 56 3 0) (fun (μ4 : gx_M) => gx_bd (f_X6_clear 59 μ4) (fun (r5 : Unit) (μ6 : gx_M) => gx_lt (gx_uI μ6 42 6 0) (fun (μ7 : gx_M) => gx_lt (gx_uI μ7 42 7 (-1)) (fun (μ8 : gx_M) => gx_lt (gx_uI μ8 42 8 0) (fun (μ9 : gx_M) => gx_lt (gx_uI μ9 42 9 (-1)) (fun (μ10 : gx_M) => gx_lt (gx_uI μ10 42 10 (-1)) (fun (μ11 : gx_M) => some ((), μ11))))))))))
theorem ev_X4_clear {E : gx_E} {l : Launch} (μ : gx_M) {r : Unit} {μ' : gx_M} (hr : f_X4_clear μ = some (r, μ')) : gEv E l 2 Y_X4_clear [.ref (E.2.2.1 + 42)] gx_G1 μ (gx_eV r) gx_G1 μ' := by
  refine W_ev (by decide) (Nat.le_of_ble_eq_true rfl) (em := gx_eV) (T := f_X4_clear μ) ?_ hr
  show GoW E l Y_X4_clear 2 gx_eV 0 (gx_el [.ref (E.2.2.1 + 42)]) [] μ (f_X4_clear μ)
  unfold f_X4_clear
  refine W_s (s_aload_n dX4_clear_0 rfl rfl) ?_
  refine W_s (gf_RX4_21 rfl dX4_clear_1) ?_
  refine W_bd (ec := gx_eV) (fun r_ μ_ hr_ => s_callV (As := []) dX4_clear_4 Lk_RX4_73 rfl (St_0 St_c_45) (by decide) rfl (Nat.le_of_ble_eq_true rfl) (Nat.le_of_ble_eq_true rfl) (ev_X5_clear 45 St_c_45 μ hr_)) (fun r1 μ2 => ?_)
  refine W_s (s_aload_n dX4_clear_7 rfl rfl) ?_
  refine W_s (gf_RX4_30 rfl dX4_clear_8) ?_
  refine W_s (s_iconst dX4_clear_11 kci_0) ?_
  refine W_s (pfm_RX4_74 (Ln_c_53) rfl dX4_clear_12) ?_
  refine W_letM (fun μ3 => ?_)
  refine W_s (s_aload_n dX4_clear_15 rfl rfl) ?_
  refine W_s (gf_RX4_34 rfl dX4_clear_16) ?_
  refine W_s (s_iconst dX4_clear_19 kci_0) ?_
  refine W_s (pfm_RX4_74 (Ln_c_56) rfl dX4_clear_20) ?_
  refine W_letM (fun μ4 => ?_)
  refine W_s (s_aload_n dX4_clear_23 rfl rfl) ?_
  refine W_s (gf_RX4_40 rfl dX4_clear_24) ?_
  refine W_bd (ec := gx_eV) (fun r_ μ_ hr_ => s_callV (As := []) dX4_clear_27 Lk_RX4_77 rfl (Sw_0 Sw_c_59) (by decide) rfl (Nat.le_of_ble_eq_true rfl) (Nat.le_of_ble_eq_true rfl) (ev_X6_clear 59 Sw_c_59 μ4 hr_)) (fun r5 μ6 => ?_)
  refine W_s (s_aload_n dX4_clear_30 rfl rfl) ?_
  refine W_s (s_iconst dX4_clear_31 kci_0) ?_
  refine W_s (pf_RX4_59 rfl dX4_clear_32) ?_
  refine W_letM (fun μ7 => ?_)
  refine W_s (s_aload_n dX4_clear_35 rfl rfl) ?_
  refine W_s (s_iconst dX4_clear_36 kci_m1) ?_
  refine W_s (pf_RX4_78 rfl dX4_clear_37) ?_
  refine W_letM (fun μ8 => ?_)
  refine W_s (s_aload_n dX4_clear_40 rfl rfl) ?_
  refine W_s (s_iconst dX4_clear_41 kci_0) ?_
  refine W_s (pf_RX4_81 rfl dX4_clear_42) ?_
  refine W_letM (fun μ9 => ?_)
  refine W_s (s_aload_n dX4_clear_45 rfl rfl) ?_
  refine W_s (s_iconst dX4_clear_46 kci_m1) ?_
  refine W_s (pf_RX4_84 rfl dX4_clear_47) ?_
  refine W_letM (fun μ10 => ?_)
  refine W_s (s_aload_n dX4_clear_50 rfl rfl) ?_
  refine W_s (s_iconst dX4_clear_51 kci_m1) ?_
  refine W_s (pf_RX4_87 rfl dX4_clear_52) ?_
  refine W_letM (fun μ11 => ?_)
  exact W_r (r := ()) (f_void dX4_clear_55 rfl)

def f_X4_numberOrNone (p1 : Int32) (p2 : Int32) (μ : gx_M) : Option Int32 := if (f_J0_length_8abf5 (f_X4_shapeOf p1)) ≤ p2 then some (-1) else gx_ck (gx_ix p2 4 = true) (some (μ.1 61 p2.toNatClampNeg))
theorem ev_X4_numberOrNone {E : gx_E} {l : Launch} {fk : Nat} {uq : Option Nat} {adK adV : Nat → Nat} (hE : gx_EX E fk uq adK adV) (p1 : Int32) (p2 : Int32) (μ : gx_M) {r : Int32} (hr : f_X4_numberOrNone p1 p2 μ = some r) : gEv E l 2 Y_X4_numberOrNone [.ref (E.2.2.1 + 42), .int p1, .int p2] gx_G1 μ (gx_eI r) gx_G1 μ := by
  refine R_ev (by decide) (Nat.le_of_ble_eq_true rfl) (em := gx_eI) (T := f_X4_numberOrNone p1 p2 μ) ?_ hr
  show GoR E l Y_X4_numberOrNone 2 gx_eI 0 (gx_el [.ref (E.2.2.1 + 42), .int p1, .int p2]) [] μ (f_X4_numberOrNone p1 p2 μ)
  unfold f_X4_numberOrNone
  refine R_s (s_iload_n dX4_numberOrNone_0 rfl rfl) ?_
  refine R_s (s_iload_n dX4_numberOrNone_1 rfl rfl) ?_
  refine R_s (s_callS (As := [.int _]) dX4_numberOrNone_2 Lk_RX4_119 rfl (Nat.le_of_ble_eq_true rfl) (Nat.le_of_ble_eq_true rfl) (ev_X4_shapeOf hE p1 μ)) ?_
  refine R_s (s_callStr hE (X4_shapeOf_lt p1) (As := []) dX4_numberOrNone_5 Lk_RX4_123 rfl rfl (Nat.le_of_ble_eq_true rfl) (Nat.le_of_ble_eq_true rfl) (ev_J0_length_8abf5 hE (f_X4_shapeOf p1) (X4_shapeOf_lt p1) μ)) ?_
  refine R_ite (fun h1 => ?_) (fun h1 => ?_)
  · refine R_s (s_icmp_ge_t dX4_numberOrNone_8 rfl h1) ?_
    refine R_s (s_iconst dX4_numberOrNone_20 kci_m1) ?_
    exact R_r (r := (-1)) (f_int (ty := .int) dX4_numberOrNone_21 rfl rfl)
  · refine R_s (s_icmp_ge_f dX4_numberOrNone_8 rfl h1) ?_
    refine R_s (s_aload_n dX4_numberOrNone_11 rfl rfl) ?_
    refine R_s (gf_RX4_44 rfl dX4_numberOrNone_12) ?_
    refine R_s (s_iload_n dX4_numberOrNone_15 rfl rfl) ?_
    refine R_ck (fun h2 => ?_)
    refine R_s (s_iald dX4_numberOrNone_16 g_61 (gx_ixv h2)) ?_
    refine R_s (s_goto dX4_numberOrNone_17 rfl) ?_
    exact R_r (r := (μ.1 61 p2.toNatClampNeg)) (f_int (ty := .int) dX4_numberOrNone_21 rfl rfl)

def f_X4_tellStreet (p1 : Int32) (μ : gx_M) : Option (Unit × gx_M) := if p1 = 0 then gx_lt (gx_uI μ 45 0 (μ.1 61 0)) (fun (μ2 : gx_M) => some ((), μ2)) else if p1 = 1 then gx_lt (gx_uI μ 45 1 (μ.1 61 0)) (fun (μ4 : gx_M) => some ((), μ4)) else if p1 = 2 then gx_ck (gx_ix (μ.1 61 0) 4 = true) (gx_lt (gx_uI μ 46 (μ.1 61 0).toNatClampNeg (μ.1 61 1)) (fun (μ7 : gx_M) => gx_lt (if (μ7.1 42 10) < (μ7.1 61 0) then (μ7.1 61 0) else (μ7.1 42 10)) (fun (x8 : Int32) => gx_lt (gx_uI μ7 42 10 x8) (fun (μ9 : gx_M) => some ((), μ9))))) else if p1 = 3 then gx_bd (f_J7_fill_fda19 47 40 (μ.1 61 0) ((μ.1 61 1) + 1) (μ.1 61 2) μ) (fun (r11 : Unit) (μ12 : gx_M) => gx_lt (if (μ12.1 42 9) < (μ12.1 61 1) then (μ12.1 61 1) else (μ12.1 42 9)) (fun (x13 : Int32) => gx_lt (gx_uI μ12 42 9 x13) (fun (μ14 : gx_M) => some ((), μ14)))) else if p1 = 4 then gx_bd (f_J7_fill_fda19 48 40 (μ.1 61 1) ((μ.1 61 2) + 1) (μ.1 61 0) μ) (fun (r16 : Unit) (μ17 : gx_M) => gx_lt (if (μ17.1 42 10) < (μ17.1 61 0) then (μ17.1 61 0) else (μ17.1 42 10)) (fun (x18 : Int32) => gx_lt (gx_uI μ17 42 10 x18) (fun (μ19 : gx_M) => gx_lt (if (μ19.1 42 9) < (μ19.1 61 2) then (μ19.1 61 2) else (μ19.1 42 9)) (fun (x20 : Int32) => gx_lt (gx_uI μ19 42 9 x20) (fun (μ21 : gx_M) => some ((), μ21)))))) else gx_bd (f_X4_tellBusiness μ) (fun (r22 : Unit) (μ23 : gx_M) => some ((), μ23))
theorem ev_X4_tellStreet {E : gx_E} {l : Launch} (p1 : Int32) (μ : gx_M) {r : Unit} {μ' : gx_M} (hr : f_X4_tellStreet p1 μ = some (r, μ')) : gEv E l 2 Y_X4_tellStreet [.ref (E.2.2.1 + 42), .int p1] gx_G1 μ (gx_eV r) gx_G1 μ' := by
  refine W_ev (by decide) (Nat.le_of_ble_eq_true rfl) (em := gx_eV) (T := f_X4_tellStreet p1 μ) ?_ hr
  show GoW E l Y_X4_tellStreet 2 gx_eV 0 (gx_el [.ref (E.2.2.1 + 42), .int p1]) [] μ (f_X4_tellStreet p1 μ)
  unfold f_X4_tellStreet
  refine W_s (s_iload_n dX4_tellStreet_0 rfl rfl) ?_
  refine W_ite (fun h1 => ?_) (fun h1 => ?_)
  · refine W_s (s_tsw_eq (c := 0) dX4_tellStreet_1 h1 (by decide) (by decide) rfl rfl) ?_
    refine W_s (s_aload_n dX4_tellStreet_36 rfl rfl) ?_
    refine W_s (gf_RX4_21 rfl dX4_tellStreet_37) ?_
    refine W_s (s_aload_n dX4_tellStreet_40 rfl rfl) ?_
    refine W_s (gf_RX4_44 rfl dX4_tellStreet_41) ?_
    refine W_s (s_iconst dX4_tellStreet_44 kci_0) ?_
    refine W_s (s_ialdL (k := 0) dX4_tellStreet_45 g_61 (gx_inl (by decide)) (by decide)) ?_
    refine W_s (pfm_RX4_90 St_c_45 rfl dX4_tellStreet_46) ?_
    refine W_letM (fun μ2 => ?_)
    refine W_s (s_goto dX4_tellStreet_49 rfl) ?_
    exact W_r (r := ()) (f_void dX4_tellStreet_229 rfl)
  · skip
    refine W_ite (fun h3 => ?_) (fun h3 => ?_)
    · refine W_s (s_tsw_eq (c := 1) dX4_tellStreet_1 h3 (by decide) (by decide) rfl rfl) ?_
      refine W_s (s_aload_n dX4_tellStreet_52 rfl rfl) ?_
      refine W_s (gf_RX4_21 rfl dX4_tellStreet_53) ?_
      refine W_s (s_aload_n dX4_tellStreet_56 rfl rfl) ?_
      refine W_s (gf_RX4_44 rfl dX4_tellStreet_57) ?_
      refine W_s (s_iconst dX4_tellStreet_60 kci_0) ?_
      refine W_s (s_ialdL (k := 0) dX4_tellStreet_61 g_61 (gx_inl (by decide)) (by decide)) ?_
      refine W_s (pfm_RX4_93 St_c_45 rfl dX4_tellStreet_62) ?_
      refine W_letM (fun μ4 => ?_)
      refine W_s (s_goto dX4_tellStreet_65 rfl) ?_
      exact W_r (r := ()) (f_void dX4_tellStreet_229 rfl)
    · skip
      refine W_ite (fun h5 => ?_) (fun h5 => ?_)
      · refine W_s (s_tsw_eq (c := 2) dX4_tellStreet_1 h5 (by decide) (by decide) rfl rfl) ?_
        refine W_s (s_aload_n dX4_tellStreet_68 rfl rfl) ?_
        refine W_s (gf_RX4_21 rfl dX4_tellStreet_69) ?_
        refine W_s (gfm_RX4_229 St_c_45 rfl dX4_tellStreet_72) ?_
        refine W_s (s_aload_n dX4_tellStreet_75 rfl rfl) ?_
        refine W_s (gf_RX4_44 rfl dX4_tellStreet_76) ?_
        refine W_s (s_iconst dX4_tellStreet_79 kci_0) ?_
        refine W_s (s_ialdL (k := 0) dX4_tellStreet_80 g_61 (gx_inl (by decide)) (by decide)) ?_
        refine W_s (s_aload_n dX4_tellStreet_81 rfl rfl) ?_
        refine W_s (gf_RX4_44 rfl dX4_tellStreet_82) ?_
        refine W_s (s_iconst dX4_tellStreet_85 kci_1) ?_
        refine W_s (s_ialdL (k := 1) dX4_tellStreet_86 g_61 (gx_inl (by decide)) (by decide)) ?_
        refine W_ck (fun h6 => ?_)
        refine W_s (s_iast dX4_tellStreet_87 (St_1 St_c_45) (gx_ixv h6)) ?_
        refine W_letM (fun μ7 => ?_)
        refine W_s (s_aload_n dX4_tellStreet_88 rfl rfl) ?_
        refine W_s (s_aload_n dX4_tellStreet_89 rfl rfl) ?_
        refine W_s (gf_RX4_87 rfl dX4_tellStreet_90) ?_
        refine W_s (s_aload_n dX4_tellStreet_93 rfl rfl) ?_
        refine W_s (gf_RX4_44 rfl dX4_tellStreet_94) ?_
        refine W_s (s_iconst dX4_tellStreet_97 kci_0) ?_
        refine W_s (s_ialdL (k := 0) dX4_tellStreet_98 g_61 (gx_inl (by decide)) (by decide)) ?_
        refine W_s (s_mmax dX4_tellStreet_99 Lk_RX4_231 (Nat.le_of_ble_eq_true rfl) (Nat.le_of_ble_eq_true rfl)) ?_
        refine W_letI (fun x8 => ?_)
        refine W_s (pf_RX4_87 rfl dX4_tellStreet_102) ?_
        refine W_letM (fun μ9 => ?_)
        refine W_s (s_goto dX4_tellStreet_105 rfl) ?_
        exact W_r (r := ()) (f_void dX4_tellStreet_229 rfl)
      · skip
        refine W_ite (fun h10 => ?_) (fun h10 => ?_)
        · refine W_s (s_tsw_eq (c := 3) dX4_tellStreet_1 h10 (by decide) (by decide) rfl rfl) ?_
          refine W_s (s_aload_n dX4_tellStreet_108 rfl rfl) ?_
          refine W_s (gf_RX4_21 rfl dX4_tellStreet_109) ?_
          refine W_s (gfm_RX4_236 St_c_45 rfl dX4_tellStreet_112) ?_
          refine W_s (s_aload_n dX4_tellStreet_115 rfl rfl) ?_
          refine W_s (gf_RX4_44 rfl dX4_tellStreet_116) ?_
          refine W_s (s_iconst dX4_tellStreet_119 kci_0) ?_
          refine W_s (s_ialdL (k := 0) dX4_tellStreet_120 g_61 (gx_inl (by decide)) (by decide)) ?_
          refine W_s (s_aload_n dX4_tellStreet_121 rfl rfl) ?_
          refine W_s (gf_RX4_44 rfl dX4_tellStreet_122) ?_
          refine W_s (s_iconst dX4_tellStreet_125 kci_1) ?_
          refine W_s (s_ialdL (k := 1) dX4_tellStreet_126 g_61 (gx_inl (by decide)) (by decide)) ?_
          refine W_s (s_iconst dX4_tellStreet_127 kci_1) ?_
          refine W_s (s_iadd dX4_tellStreet_128) ?_
          refine W_s (s_aload_n dX4_tellStreet_129 rfl rfl) ?_
          refine W_s (gf_RX4_44 rfl dX4_tellStreet_130) ?_
          refine W_s (s_iconst dX4_tellStreet_133 kci_2) ?_
          refine W_s (s_ialdL (k := 2) dX4_tellStreet_134 g_61 (gx_inl (by decide)) (by decide)) ?_
          refine W_bd (ec := gx_eV) (fun r_ μ_ hr_ => s_callS (As := [.ref _, .int _, .int _, .int _]) dX4_tellStreet_135 Lk_RX4_238 rfl (Nat.le_of_ble_eq_true rfl) (Nat.le_of_ble_eq_true rfl) (ev_J7_fill_fda19 47 40 (μ.1 61 0) ((μ.1 61 1) + 1) (μ.1 61 2) (St_2 St_c_45) μ hr_)) (fun r11 μ12 => ?_)
          refine W_s (s_aload_n dX4_tellStreet_138 rfl rfl) ?_
          refine W_s (s_aload_n dX4_tellStreet_139 rfl rfl) ?_
          refine W_s (gf_RX4_84 rfl dX4_tellStreet_140) ?_
          refine W_s (s_aload_n dX4_tellStreet_143 rfl rfl) ?_
          refine W_s (gf_RX4_44 rfl dX4_tellStreet_144) ?_
          refine W_s (s_iconst dX4_tellStreet_147 kci_1) ?_
          refine W_s (s_ialdL (k := 1) dX4_tellStreet_148 g_61 (gx_inl (by decide)) (by decide)) ?_
          refine W_s (s_mmax dX4_tellStreet_149 Lk_RX4_231 (Nat.le_of_ble_eq_true rfl) (Nat.le_of_ble_eq_true rfl)) ?_
          refine W_letI (fun x13 => ?_)
          refine W_s (pf_RX4_84 rfl dX4_tellStreet_152) ?_
          refine W_letM (fun μ14 => ?_)
          refine W_s (s_goto dX4_tellStreet_155 rfl) ?_
          exact W_r (r := ()) (f_void dX4_tellStreet_229 rfl)
        · skip
          refine W_ite (fun h15 => ?_) (fun h15 => ?_)
          · refine W_s (s_tsw_eq (c := 4) dX4_tellStreet_1 h15 (by decide) (by decide) rfl rfl) ?_
            refine W_s (s_aload_n dX4_tellStreet_158 rfl rfl) ?_
            refine W_s (gf_RX4_21 rfl dX4_tellStreet_159) ?_
            refine W_s (gfm_RX4_244 St_c_45 rfl dX4_tellStreet_162) ?_
            refine W_s (s_aload_n dX4_tellStreet_165 rfl rfl) ?_
            refine W_s (gf_RX4_44 rfl dX4_tellStreet_166) ?_
            refine W_s (s_iconst dX4_tellStreet_169 kci_1) ?_
            refine W_s (s_ialdL (k := 1) dX4_tellStreet_170 g_61 (gx_inl (by decide)) (by decide)) ?_
            refine W_s (s_aload_n dX4_tellStreet_171 rfl rfl) ?_
            refine W_s (gf_RX4_44 rfl dX4_tellStreet_172) ?_
            refine W_s (s_iconst dX4_tellStreet_175 kci_2) ?_
            refine W_s (s_ialdL (k := 2) dX4_tellStreet_176 g_61 (gx_inl (by decide)) (by decide)) ?_
            refine W_s (s_iconst dX4_tellStreet_177 kci_1) ?_
            refine W_s (s_iadd dX4_tellStreet_178) ?_
            refine W_s (s_aload_n dX4_tellStreet_179 rfl rfl) ?_
            refine W_s (gf_RX4_44 rfl dX4_tellStreet_180) ?_
            refine W_s (s_iconst dX4_tellStreet_183 kci_0) ?_
            refine W_s (s_ialdL (k := 0) dX4_tellStreet_184 g_61 (gx_inl (by decide)) (by decide)) ?_
            refine W_bd (ec := gx_eV) (fun r_ μ_ hr_ => s_callS (As := [.ref _, .int _, .int _, .int _]) dX4_tellStreet_185 Lk_RX4_238 rfl (Nat.le_of_ble_eq_true rfl) (Nat.le_of_ble_eq_true rfl) (ev_J7_fill_fda19 48 40 (μ.1 61 1) ((μ.1 61 2) + 1) (μ.1 61 0) (St_3 St_c_45) μ hr_)) (fun r16 μ17 => ?_)
            refine W_s (s_aload_n dX4_tellStreet_188 rfl rfl) ?_
            refine W_s (s_aload_n dX4_tellStreet_189 rfl rfl) ?_
            refine W_s (gf_RX4_87 rfl dX4_tellStreet_190) ?_
            refine W_s (s_aload_n dX4_tellStreet_193 rfl rfl) ?_
            refine W_s (gf_RX4_44 rfl dX4_tellStreet_194) ?_
            refine W_s (s_iconst dX4_tellStreet_197 kci_0) ?_
            refine W_s (s_ialdL (k := 0) dX4_tellStreet_198 g_61 (gx_inl (by decide)) (by decide)) ?_
            refine W_s (s_mmax dX4_tellStreet_199 Lk_RX4_231 (Nat.le_of_ble_eq_true rfl) (Nat.le_of_ble_eq_true rfl)) ?_
            refine W_letI (fun x18 => ?_)
            refine W_s (pf_RX4_87 rfl dX4_tellStreet_202) ?_
            refine W_letM (fun μ19 => ?_)
            refine W_s (s_aload_n dX4_tellStreet_205 rfl rfl) ?_
            refine W_s (s_aload_n dX4_tellStreet_206 rfl rfl) ?_
            refine W_s (gf_RX4_84 rfl dX4_tellStreet_207) ?_
            refine W_s (s_aload_n dX4_tellStreet_210 rfl rfl) ?_
            refine W_s (gf_RX4_44 rfl dX4_tellStreet_211) ?_
            refine W_s (s_iconst dX4_tellStreet_214 kci_2) ?_
            refine W_s (s_ialdL (k := 2) dX4_tellStreet_215 g_61 (gx_inl (by decide)) (by decide)) ?_
            refine W_s (s_mmax dX4_tellStreet_216 Lk_RX4_231 (Nat.le_of_ble_eq_true rfl) (Nat.le_of_ble_eq_true rfl)) ?_
            refine W_letI (fun x20 => ?_)
            refine W_s (pf_RX4_84 rfl dX4_tellStreet_219) ?_
            refine W_letM (fun μ21 => ?_)
            refine W_s (s_goto dX4_tellStreet_222 rfl) ?_
            exact W_r (r := ()) (f_void dX4_tellStreet_229 rfl)
          · skip
            refine W_s (s_tsw_out dX4_tellStreet_1 (gx_out_0_5 h1 h3 h5 h10 h15) rfl) ?_
            refine W_s (s_aload_n dX4_tellStreet_225 rfl rfl) ?_
            refine W_bd (ec := gx_eV) (fun r_ μ_ hr_ => s_callV (As := []) dX4_tellStreet_226 Lk_RX4_247 rfl g_42 (by decide) rfl (Nat.le_of_ble_eq_true rfl) (Nat.le_of_ble_eq_true rfl) (ev_X4_tellBusiness μ hr_)) (fun r22 μ23 => ?_)
            exact W_r (r := ()) (f_void dX4_tellStreet_229 rfl)

def L_X7_look_49 (v2_10 : Int32) (k16 : gx_M → Option (Unit × gx_M)) : Nat → Int32 → gx_M → Option (Unit × gx_M)
  | 0, _, _ => none
  | n + 1, v3_14, μ15 => if 40 ≤ v3_14 then k16 μ15 else gx_lt (fun (μ22 : gx_M) => L_X7_look_49 v2_10 k16 n (v3_14 + 1) μ22) (fun J18 => if (f_X7_agrees v2_10 v3_14 μ15) = true then gx_bd (f_X7_takeRow v2_10 v3_14 μ15) (fun (r20 : Unit) (μ21 : gx_M) => J18 μ21) else J18 μ15)
def L_X7_look_41 (k12 : gx_M → Option (Unit × gx_M)) : Nat → Int32 → gx_M → Option (Unit × gx_M)
  | 0, _, _ => none
  | n + 1, v2_10, μ11 => if 40 ≤ v2_10 then k12 μ11 else L_X7_look_49 v2_10 (fun (μ24 : gx_M) => L_X7_look_41 k12 n (v2_10 + 1) μ24) 4000 v2_10 μ11
def f_X7_look (a1 : Nat) (n1 : Nat) (μ : gx_M) : Option (Unit × gx_M) := gx_bd (f_X7_takeFacts a1 n1 μ) (fun (r1 : Unit) (μ2 : gx_M) => gx_lt (gx_uI μ2 82 3 0) (fun (μ3 : gx_M) => gx_lt (gx_uI μ3 82 4 (-1)) (fun (μ4 : gx_M) => gx_lt (gx_uI μ4 82 5 (-1)) (fun (μ5 : gx_M) => gx_lt (gx_uI μ5 82 6 40) (fun (μ6 : gx_M) => gx_lt (gx_uI μ6 82 7 0) (fun (μ7 : gx_M) => gx_bd (f_J7_fill_53178 83 40 0 μ7) (fun (r8 : Unit) (μ9 : gx_M) => L_X7_look_41 (fun (μ26 : gx_M) => some ((), μ26)) 4000 0 μ9)))))))
theorem okL_X7_look_49 {E : gx_E} {l : Launch} {v2_10 : Int32} {a1 : Nat} {n1 : Nat} (ha1 : gx_Ln a1 n1) {k16 : gx_M → Option (Unit × gx_M)} (hk : ∀ (μ23 : gx_M), GoW E l Y_X7_look 2 gx_eV 76 [some (.ref (E.2.2.1 + 82)), none, some (.int v2_10)] [] μ23 (k16 μ23)) : ∀ (n : Nat) (v3_14 : Int32) (μ15 : gx_M), GoW E l Y_X7_look 2 gx_eV 49 [some (.ref (E.2.2.1 + 82)), none, some (.int v2_10), some (.int v3_14)] [] μ15 (L_X7_look_49 v2_10 k16 n v3_14 μ15) := by
  intro n
  induction n with
  | zero => intros; exact W_no
  | succ n ih =>
    intro v3_14 μ15
    rw [L_X7_look_49.eq_2]
    refine W_s (s_iload_n dX7_look_49 rfl rfl) ?_
    refine W_s (s_bipush dX7_look_50 kcb_40) ?_
    refine W_ite (fun h17 => ?_) (fun h17 => ?_)
    · refine W_s (s_icmp_ge_t dX7_look_52 rfl h17) ?_
      exact W_wk (hk μ15) (le_s rfl (le_o (le_s rfl le_n)))
    · refine W_s (s_icmp_ge_f dX7_look_52 rfl h17) ?_
      refine W_s (s_aload_n dX7_look_55 rfl rfl) ?_
      refine W_s (s_iload_n dX7_look_56 rfl rfl) ?_
      refine W_s (s_iload_n dX7_look_57 rfl rfl) ?_
      refine W_s (s_callV (As := [.int _, .int _]) dX7_look_58 Lk_RX7_41 rfl g_82 (by decide) rfl (Nat.le_of_ble_eq_true rfl) (Nat.le_of_ble_eq_true rfl) (ev_X7_agrees v2_10 v3_14 μ15)) ?_
      refine W_fun (fun J => ∀ (μ22 : gx_M), GoW E l Y_X7_look 2 gx_eV 70 [some (.ref (E.2.2.1 + 82)), none, some (.int v2_10), some (.int v3_14)] [] μ22 (J μ22)) ?_ (fun J18 hJ18 => ?_)
      · intro μ22
        refine W_s (s_iinc dX7_look_70 rfl (kinc_1 v3_14) (Nat.le_of_ble_eq_true rfl)) ?_
        refine W_s (s_goto dX7_look_73 rfl) ?_
        exact W_wk (ih (v3_14 + 1) μ22) (le_s rfl (le_o (le_s rfl (le_s rfl le_n))))
      · skip
        refine W_ite (fun h19 => ?_) (fun h19 => ?_)
        · refine W_s (s_if_eq_f dX7_look_61 rfl (gx_bt h19)) ?_
          refine W_s (s_aload_n dX7_look_64 rfl rfl) ?_
          refine W_s (s_iload_n dX7_look_65 rfl rfl) ?_
          refine W_s (s_iload_n dX7_look_66 rfl rfl) ?_
          refine W_bd (ec := gx_eV) (fun r_ μ_ hr_ => s_callV (As := [.int _, .int _]) dX7_look_67 Lk_RX7_45 rfl g_82 (by decide) rfl (Nat.le_of_ble_eq_true rfl) (Nat.le_of_ble_eq_true rfl) (ev_X7_takeRow v2_10 v3_14 μ15 hr_)) (fun r20 μ21 => ?_)
          exact W_wk (hJ18 μ21) (le_s rfl (le_o (le_s rfl (le_s rfl le_n))))
        · refine W_s (s_if_eq_t dX7_look_61 rfl (gx_bf h19)) ?_
          exact W_wk (hJ18 μ15) (le_s rfl (le_o (le_s rfl (le_s rfl le_n))))
theorem okL_X7_look_41 {E : gx_E} {l : Launch} {a1 : Nat} {n1 : Nat} (ha1 : gx_Ln a1 n1) {k12 : gx_M → Option (Unit × gx_M)} (hk : ∀ (μ25 : gx_M), GoW E l Y_X7_look 2 gx_eV 82 [] [] μ25 (k12 μ25)) : ∀ (n : Nat) (v2_10 : Int32) (μ11 : gx_M), GoW E l Y_X7_look 2 gx_eV 41 [some (.ref (E.2.2.1 + 82)), none, some (.int v2_10)] [] μ11 (L_X7_look_41 k12 n v2_10 μ11) := by
  intro n
  induction n with
  | zero => intros; exact W_no
  | succ n ih =>
    intro v2_10 μ11
    rw [L_X7_look_41.eq_2]
    refine W_s (s_iload_n dX7_look_41 rfl rfl) ?_
    refine W_s (s_bipush dX7_look_42 kcb_40) ?_
    refine W_ite (fun h13 => ?_) (fun h13 => ?_)
    · refine W_s (s_icmp_ge_t dX7_look_44 rfl h13) ?_
      exact W_wk (hk μ11) le_n
    · refine W_s (s_icmp_ge_f dX7_look_44 rfl h13) ?_
      refine W_s (s_iload_n dX7_look_47 rfl rfl) ?_
      refine W_s (s_istore_n dX7_look_48 rfl (Nat.le_of_ble_eq_true rfl)) ?_
      refine W_wk (okL_X7_look_49 ha1 ?_ 4000 v2_10 μ11) (le_s rfl (le_o (le_s rfl (le_s rfl le_n))))
      intro μ24
      refine W_s (s_iinc dX7_look_76 rfl (kinc_1 v2_10) (Nat.le_of_ble_eq_true rfl)) ?_
      refine W_s (s_goto dX7_look_79 rfl) ?_
      exact W_wk (ih (v2_10 + 1) μ24) (le_s rfl (le_o (le_s rfl le_n)))
theorem ev_X7_look {E : gx_E} {l : Launch} (a1 : Nat) (n1 : Nat) (ha1 : gx_Ln a1 n1) (μ : gx_M) {r : Unit} {μ' : gx_M} (hr : f_X7_look a1 n1 μ = some (r, μ')) : gEv E l 2 Y_X7_look [.ref (E.2.2.1 + 82), .ref (E.2.2.1 + a1)] gx_G1 μ (gx_eV r) gx_G1 μ' := by
  refine W_ev (by decide) (Nat.le_of_ble_eq_true rfl) (em := gx_eV) (T := f_X7_look a1 n1 μ) ?_ hr
  show GoW E l Y_X7_look 2 gx_eV 0 (gx_el [.ref (E.2.2.1 + 82), .ref (E.2.2.1 + a1)]) [] μ (f_X7_look a1 n1 μ)
  unfold f_X7_look
  refine W_s (s_aload_n dX7_look_0 rfl rfl) ?_
  refine W_s (s_aload_n dX7_look_1 rfl rfl) ?_
  refine W_bd (ec := gx_eV) (fun r_ μ_ hr_ => s_callV (As := [.ref _]) dX7_look_2 Lk_RX7_15 rfl g_82 (by decide) rfl (Nat.le_of_ble_eq_true rfl) (Nat.le_of_ble_eq_true rfl) (ev_X7_takeFacts a1 n1 ha1 μ hr_)) (fun r1 μ2 => ?_)
  refine W_s (s_aload_n dX7_look_5 rfl rfl) ?_
  refine W_s (s_iconst dX7_look_6 kci_0) ?_
  refine W_s (pf_RX7_19 rfl dX7_look_7) ?_
  refine W_letM (fun μ3 => ?_)
  refine W_s (s_aload_n dX7_look_10 rfl rfl) ?_
  refine W_s (s_iconst dX7_look_11 kci_m1) ?_
  refine W_s (pf_RX7_23 rfl dX7_look_12) ?_
  refine W_letM (fun μ4 => ?_)
  refine W_s (s_aload_n dX7_look_15 rfl rfl) ?_
  refine W_s (s_iconst dX7_look_16 kci_m1) ?_
  refine W_s (pf_RX7_26 rfl dX7_look_17) ?_
  refine W_letM (fun μ5 => ?_)
  refine W_s (s_aload_n dX7_look_20 rfl rfl) ?_
  refine W_s (s_bipush dX7_look_21 kcb_40) ?_
  refine W_s (pf_RX7_29 rfl dX7_look_23) ?_
  refine W_letM (fun μ6 => ?_)
  refine W_s (s_aload_n dX7_look_26 rfl rfl) ?_
  refine W_s (s_iconst dX7_look_27 kci_0) ?_
  refine W_s (pf_RX7_32 rfl dX7_look_28) ?_
  refine W_letM (fun μ7 => ?_)
  refine W_s (s_aload_n dX7_look_31 rfl rfl) ?_
  refine W_s (gf_RX7_9 rfl dX7_look_32) ?_
  refine W_s (s_iconst dX7_look_35 kci_0) ?_
  refine W_bd (ec := gx_eV) (fun r_ μ_ hr_ => s_callS (As := [.ref _, .int _]) dX7_look_36 Lk_RX7_35 rfl (Nat.le_of_ble_eq_true rfl) (Nat.le_of_ble_eq_true rfl) (ev_J7_fill_53178 83 40 0 g_83 μ7 hr_)) (fun r8 μ9 => ?_)
  refine W_s (s_iconst dX7_look_39 kci_0) ?_
  refine W_s (s_istore_n dX7_look_40 rfl (Nat.le_of_ble_eq_true rfl)) ?_
  refine W_wk (okL_X7_look_41 ha1 ?_ 4000 0 μ9) (le_s rfl (le_o (le_s rfl le_n)))
  intro μ26
  exact W_r (r := ()) (f_void dX7_look_82 rfl)

def L_X8_advance_0 (k2 : gx_M → Option (Unit × gx_M)) : Nat → gx_M → Option (Unit × gx_M)
  | 0, _ => none
  | n + 1, μ1 => if (μ1.1 43 1) ≤ (μ1.1 43 2) then k2 μ1 else gx_ck (gx_ix (μ1.1 43 2) 600 = true) (gx_lt (fun (μ8 : gx_M) => gx_lt (gx_uI μ8 43 2 ((μ8.1 43 2) + 1)) (fun (μ9 : gx_M) => L_X8_advance_0 k2 n μ9)) (fun J5 => if (μ1.1 44 (μ1.1 43 2).toNatClampNeg) = 10 then J5 μ1 else if (μ1.1 44 (μ1.1 43 2).toNatClampNeg) = 32 then J5 μ1 else k2 μ1))
def f_X8_advance (μ : gx_M) : Option (Unit × gx_M) := L_X8_advance_0 (fun (μ11 : gx_M) => gx_lt (gx_uI μ11 43 4 (μ11.1 43 2)) (fun (μ12 : gx_M) => if (μ12.1 43 2) < (μ12.1 43 1) then gx_ck (gx_ix (μ12.1 43 2) 600 = true) (if (f_X8_isLetter (μ12.1 44 (μ12.1 43 2).toNatClampNeg)) = true then gx_bd (f_X8_takeWord μ12) (fun (r16 : Unit) (μ17 : gx_M) => some ((), μ17)) else if (f_X8_isDigit (μ12.1 44 (μ12.1 43 2).toNatClampNeg)) = true then gx_bd (f_X8_takeNumber μ12) (fun (r19 : Unit) (μ20 : gx_M) => some ((), μ20)) else gx_lt (fun (j0_23 : Int32) (μ24 : gx_M) => gx_lt (gx_uI μ24 43 3 j0_23) (fun (μ25 : gx_M) => gx_lt (gx_uI μ25 43 2 ((μ25.1 43 2) + 1)) (fun (μ26 : gx_M) => some ((), μ26)))) (fun J21 => if (μ12.1 44 (μ12.1 43 2).toNatClampNeg) = 59 then J21 3 μ12 else J21 4 μ12)) else gx_lt (gx_uI μ12 43 3 0) (fun (μ27 : gx_M) => some ((), μ27)))) 4000 μ
theorem okL_X8_advance_0 {E : gx_E} {l : Launch} {k2 : gx_M → Option (Unit × gx_M)} (hk : ∀ (μ10 : gx_M), GoW E l Y_X8_advance 2 gx_eV 52 [some (.ref (E.2.2.1 + 43))] [] μ10 (k2 μ10)) : ∀ (n : Nat) (μ1 : gx_M), GoW E l Y_X8_advance 2 gx_eV 0 [some (.ref (E.2.2.1 + 43))] [] μ1 (L_X8_advance_0 k2 n μ1) := by
  intro n
  induction n with
  | zero => intros; exact W_no
  | succ n ih =>
    intro μ1
    rw [L_X8_advance_0.eq_2]
    refine W_s (s_aload_n dX8_advance_0 rfl rfl) ?_
    refine W_s (gf_RX8_31 rfl dX8_advance_1) ?_
    refine W_s (s_aload_n dX8_advance_4 rfl rfl) ?_
    refine W_s (gf_RX8_30 rfl dX8_advance_5) ?_
    refine W_ite (fun h3 => ?_) (fun h3 => ?_)
    · refine W_s (s_icmp_ge_t dX8_advance_8 rfl h3) ?_
      exact W_wk (hk μ1) (le_s rfl le_n)
    · refine W_s (s_icmp_ge_f dX8_advance_8 rfl h3) ?_
      refine W_s (s_aload_n dX8_advance_11 rfl rfl) ?_
      refine W_s (gf_RX8_9 rfl dX8_advance_12) ?_
      refine W_s (s_aload_n dX8_advance_15 rfl rfl) ?_
      refine W_s (gf_RX8_31 rfl dX8_advance_16) ?_
      refine W_ck (fun h4 => ?_)
      refine W_s (s_bald dX8_advance_19 g_44 (gx_ixv h4)) ?_
      refine W_s (s_bipush dX8_advance_20 kcb_10) ?_
      refine W_fun (fun J => ∀ (μ8 : gx_M), GoW E l Y_X8_advance 2 gx_eV 39 [some (.ref (E.2.2.1 + 43))] [] μ8 (J μ8)) ?_ (fun J5 hJ5 => ?_)
      · intro μ8
        refine W_s (s_aload_n dX8_advance_39 rfl rfl) ?_
        refine W_s (s_dup dX8_advance_40 rfl) ?_
        refine W_s (gf_RX8_31 rfl dX8_advance_41) ?_
        refine W_s (s_iconst dX8_advance_44 kci_1) ?_
        refine W_s (s_iadd dX8_advance_45) ?_
        refine W_s (pf_RX8_31 rfl dX8_advance_46) ?_
        refine W_letM (fun μ9 => ?_)
        refine W_s (s_goto dX8_advance_49 rfl) ?_
        exact W_wk (ih μ9) (le_s rfl le_n)
      · skip
        refine W_ite (fun h6 => ?_) (fun h6 => ?_)
        · refine W_s (s_icmp_eq_t dX8_advance_22 rfl h6) ?_
          exact W_wk (hJ5 μ1) (le_s rfl le_n)
        · refine W_s (s_icmp_eq_f dX8_advance_22 rfl h6) ?_
          refine W_s (s_aload_n dX8_advance_25 rfl rfl) ?_
          refine W_s (gf_RX8_9 rfl dX8_advance_26) ?_
          refine W_s (s_aload_n dX8_advance_29 rfl rfl) ?_
          refine W_s (gf_RX8_31 rfl dX8_advance_30) ?_
          refine W_s (s_bald dX8_advance_33 g_44 (gx_ixv h4)) ?_
          refine W_s (s_bipush dX8_advance_34 kcb_32) ?_
          refine W_ite (fun h7 => ?_) (fun h7 => ?_)
          · refine W_s (s_icmp_ne_f dX8_advance_36 rfl h7) ?_
            exact W_wk (hJ5 μ1) (le_s rfl le_n)
          · refine W_s (s_icmp_ne_t dX8_advance_36 rfl h7) ?_
            exact W_wk (hk μ1) (le_s rfl le_n)
theorem ev_X8_advance {E : gx_E} {l : Launch} (μ : gx_M) {r : Unit} {μ' : gx_M} (hr : f_X8_advance μ = some (r, μ')) : gEv E l 2 Y_X8_advance [.ref (E.2.2.1 + 43)] gx_G1 μ (gx_eV r) gx_G1 μ' := by
  refine W_ev (by decide) (Nat.le_of_ble_eq_true rfl) (em := gx_eV) (T := f_X8_advance μ) ?_ hr
  show GoW E l Y_X8_advance 2 gx_eV 0 (gx_el [.ref (E.2.2.1 + 43)]) [] μ (f_X8_advance μ)
  unfold f_X8_advance
  refine W_wk (okL_X8_advance_0 ?_ 4000 μ) (le_s rfl le_n)
  intro μ11
  refine W_s (s_aload_n dX8_advance_52 rfl rfl) ?_
  refine W_s (s_aload_n dX8_advance_53 rfl rfl) ?_
  refine W_s (gf_RX8_31 rfl dX8_advance_54) ?_
  refine W_s (pf_RX8_34 rfl dX8_advance_57) ?_
  refine W_letM (fun μ12 => ?_)
  refine W_s (s_aload_n dX8_advance_60 rfl rfl) ?_
  refine W_s (gf_RX8_31 rfl dX8_advance_61) ?_
  refine W_s (s_aload_n dX8_advance_64 rfl rfl) ?_
  refine W_s (gf_RX8_30 rfl dX8_advance_65) ?_
  refine W_ite (fun h13 => ?_) (fun h13 => ?_)
  · refine W_s (s_icmp_lt_t dX8_advance_68 rfl h13) ?_
    refine W_s (s_aload_n dX8_advance_79 rfl rfl) ?_
    refine W_s (gf_RX8_9 rfl dX8_advance_80) ?_
    refine W_s (s_aload_n dX8_advance_83 rfl rfl) ?_
    refine W_s (gf_RX8_31 rfl dX8_advance_84) ?_
    refine W_ck (fun h14 => ?_)
    refine W_s (s_bald dX8_advance_87 g_44 (gx_ixv h14)) ?_
    refine W_s (s_callS (As := [.int _]) dX8_advance_88 Lk_RX8_40 rfl (Nat.le_of_ble_eq_true rfl) (Nat.le_of_ble_eq_true rfl) (ev_X8_isLetter (μ12.1 44 (μ12.1 43 2).toNatClampNeg) μ12)) ?_
    refine W_ite (fun h15 => ?_) (fun h15 => ?_)
    · refine W_s (s_if_eq_f dX8_advance_91 rfl (gx_bt h15)) ?_
      refine W_s (s_aload_n dX8_advance_94 rfl rfl) ?_
      refine W_bd (ec := gx_eV) (fun r_ μ_ hr_ => s_callV (As := []) dX8_advance_95 Lk_RX8_44 rfl g_43 (by decide) rfl (Nat.le_of_ble_eq_true rfl) (Nat.le_of_ble_eq_true rfl) (ev_X8_takeWord μ12 hr_)) (fun r16 μ17 => ?_)
      refine W_s (s_goto dX8_advance_98 rfl) ?_
      exact W_r (r := ()) (f_void dX8_advance_156 rfl)
    · refine W_s (s_if_eq_t dX8_advance_91 rfl (gx_bf h15)) ?_
      refine W_s (s_aload_n dX8_advance_101 rfl rfl) ?_
      refine W_s (gf_RX8_9 rfl dX8_advance_102) ?_
      refine W_s (s_aload_n dX8_advance_105 rfl rfl) ?_
      refine W_s (gf_RX8_31 rfl dX8_advance_106) ?_
      refine W_s (s_bald dX8_advance_109 g_44 (gx_ixv h14)) ?_
      refine W_s (s_callS (As := [.int _]) dX8_advance_110 Lk_RX8_47 rfl (Nat.le_of_ble_eq_true rfl) (Nat.le_of_ble_eq_true rfl) (ev_X8_isDigit (μ12.1 44 (μ12.1 43 2).toNatClampNeg) μ12)) ?_
      refine W_ite (fun h18 => ?_) (fun h18 => ?_)
      · refine W_s (s_if_eq_f dX8_advance_113 rfl (gx_bt h18)) ?_
        refine W_s (s_aload_n dX8_advance_116 rfl rfl) ?_
        refine W_bd (ec := gx_eV) (fun r_ μ_ hr_ => s_callV (As := []) dX8_advance_117 Lk_RX8_50 rfl g_43 (by decide) rfl (Nat.le_of_ble_eq_true rfl) (Nat.le_of_ble_eq_true rfl) (ev_X8_takeNumber μ12 hr_)) (fun r19 μ20 => ?_)
        refine W_s (s_goto dX8_advance_120 rfl) ?_
        exact W_r (r := ()) (f_void dX8_advance_156 rfl)
      · refine W_s (s_if_eq_t dX8_advance_113 rfl (gx_bf h18)) ?_
        refine W_s (s_aload_n dX8_advance_123 rfl rfl) ?_
        refine W_s (s_aload_n dX8_advance_124 rfl rfl) ?_
        refine W_s (gf_RX8_9 rfl dX8_advance_125) ?_
        refine W_s (s_aload_n dX8_advance_128 rfl rfl) ?_
        refine W_s (gf_RX8_31 rfl dX8_advance_129) ?_
        refine W_s (s_bald dX8_advance_132 g_44 (gx_ixv h14)) ?_
        refine W_s (s_bipush dX8_advance_133 kcb_59) ?_
        refine W_fun (fun J => ∀ (j0_23 : Int32) (μ24 : gx_M), GoW E l Y_X8_advance 2 gx_eV 143 [some (.ref (E.2.2.1 + 43))] [.int j0_23, .ref (E.2.2.1 + 43)] μ24 (J j0_23 μ24)) ?_ (fun J21 hJ21 => ?_)
        · intro j0_23 μ24
          refine W_s (pf_RX8_37 rfl dX8_advance_143) ?_
          refine W_letM (fun μ25 => ?_)
          refine W_s (s_aload_n dX8_advance_146 rfl rfl) ?_
          refine W_s (s_dup dX8_advance_147 rfl) ?_
          refine W_s (gf_RX8_31 rfl dX8_advance_148) ?_
          refine W_s (s_iconst dX8_advance_151 kci_1) ?_
          refine W_s (s_iadd dX8_advance_152) ?_
          refine W_s (pf_RX8_31 rfl dX8_advance_153) ?_
          refine W_letM (fun μ26 => ?_)
          exact W_r (r := ()) (f_void dX8_advance_156 rfl)
        · skip
          refine W_ite (fun h22 => ?_) (fun h22 => ?_)
          · refine W_s (s_icmp_ne_f dX8_advance_135 rfl h22) ?_
            refine W_s (s_iconst dX8_advance_138 kci_3) ?_
            refine W_s (s_goto dX8_advance_139 rfl) ?_
            exact W_wk (hJ21 3 μ12) (le_s rfl le_n)
          · refine W_s (s_icmp_ne_t dX8_advance_135 rfl h22) ?_
            refine W_s (s_iconst dX8_advance_142 kci_4) ?_
            exact W_wk (hJ21 4 μ12) (le_s rfl le_n)
  · refine W_s (s_icmp_lt_f dX8_advance_68 rfl h13) ?_
    refine W_s (s_aload_n dX8_advance_71 rfl rfl) ?_
    refine W_s (s_iconst dX8_advance_72 kci_0) ?_
    refine W_s (pf_RX8_37 rfl dX8_advance_73) ?_
    refine W_letM (fun μ27 => ?_)
    refine W_s (s_goto dX8_advance_76 rfl) ?_
    exact W_r (r := ()) (f_void dX8_advance_156 rfl)

def L_X9_copyFrom_2 (a0 : Nat) (a1 : Nat) (k3 : gx_M → Option (Unit × gx_M)) : Nat → Int32 → gx_M → Option (Unit × gx_M)
  | 0, _, _ => none
  | n + 1, v2_1, μ2 => if 2 ≤ v2_1 then k3 μ2 else gx_ck (gx_ix v2_1 2 = true) (gx_lt (a0 + 7 + 16 * v2_1.toNatClampNeg) (fun (o6 : Nat) => gx_lt (a1 + 7 + 16 * v2_1.toNatClampNeg) (fun (o7 : Nat) => gx_bd (f_X5_copyFrom o6 o7 μ2) (fun (r8 : Unit) (μ9 : gx_M) => gx_lt (a0 + 15 + 16 * v2_1.toNatClampNeg) (fun (o10 : Nat) => gx_lt (a1 + 15 + 16 * v2_1.toNatClampNeg) (fun (o11 : Nat) => gx_bd (f_X2_copyFrom o10 40 o11 40 μ9) (fun (r12 : Unit) (μ13 : gx_M) => gx_lt (a0 + 18 + 16 * v2_1.toNatClampNeg) (fun (o14 : Nat) => gx_lt (a1 + 18 + 16 * v2_1.toNatClampNeg) (fun (o15 : Nat) => gx_bd (f_X2_copyFrom o14 8 o15 8 μ13) (fun (r16 : Unit) (μ17 : gx_M) => gx_lt (a0 + 21 + 16 * v2_1.toNatClampNeg) (fun (o18 : Nat) => gx_lt (a1 + 21 + 16 * v2_1.toNatClampNeg) (fun (o19 : Nat) => gx_bd (f_X6_copyFrom o18 o19 μ17) (fun (r20 : Unit) (μ21 : gx_M) => L_X9_copyFrom_2 a0 a1 k3 n (v2_1 + 1) μ21)))))))))))))
def f_X9_copyFrom (a0 : Nat) (a1 : Nat) (μ : gx_M) : Option (Unit × gx_M) := L_X9_copyFrom_2 a0 a1 (fun (μ23 : gx_M) => gx_ck (gx_cpk 0 0 4 4 4 = true) (gx_lt (gx_cp μ23 (a1 + 1) (a0 + 1) ((0 : Int32).toNatClampNeg) ((0 : Int32).toNatClampNeg) ((4 : Int32).toNatClampNeg)) (fun (μ25 : gx_M) => gx_ck (gx_cpk 0 0 600 600 600 = true) (gx_ck (gx_fitB μ25 (a1 + 6) ((0 : Int32).toNatClampNeg) ((600 : Int32).toNatClampNeg) = true) (gx_lt (gx_cp μ25 (a1 + 6) (a0 + 6) ((0 : Int32).toNatClampNeg) ((0 : Int32).toNatClampNeg) ((600 : Int32).toNatClampNeg)) (fun (μ28 : gx_M) => gx_lt (gx_uI μ28 a0 6 (μ28.1 a1 6)) (fun (μ29 : gx_M) => gx_lt (gx_uI μ29 a0 7 (μ29.1 a1 7)) (fun (μ30 : gx_M) => gx_lt (gx_uI μ30 a0 8 (μ30.1 a1 8)) (fun (μ31 : gx_M) => some ((), μ31)))))))))) 4000 0 μ
theorem okL_X9_copyFrom_2 {E : gx_E} {l : Launch} {a0 : Nat} {a1 : Nat} (ha0 : gx_Td a0) (ha1 : gx_Td a1) {k3 : gx_M → Option (Unit × gx_M)} (hk : ∀ (μ22 : gx_M), GoW E l Y_X9_copyFrom 2 gx_eV 73 [some (.ref (E.2.2.1 + a0)), some (.ref (E.2.2.1 + a1))] [] μ22 (k3 μ22)) : ∀ (n : Nat) (v2_1 : Int32) (μ2 : gx_M), GoW E l Y_X9_copyFrom 2 gx_eV 2 [some (.ref (E.2.2.1 + a0)), some (.ref (E.2.2.1 + a1)), some (.int v2_1)] [] μ2 (L_X9_copyFrom_2 a0 a1 k3 n v2_1 μ2) := by
  intro n
  induction n with
  | zero => intros; exact W_no
  | succ n ih =>
    intro v2_1 μ2
    rw [L_X9_copyFrom_2.eq_2]
    refine W_s (s_iload_n dX9_copyFrom_2 rfl rfl) ?_
    refine W_s (s_iconst dX9_copyFrom_3 kci_2) ?_
    refine W_ite (fun h4 => ?_) (fun h4 => ?_)
    · refine W_s (s_icmp_ge_t dX9_copyFrom_4 rfl h4) ?_
      exact W_wk (hk μ2) (le_s rfl (le_s rfl le_n))
    · refine W_s (s_icmp_ge_f dX9_copyFrom_4 rfl h4) ?_
      refine W_s (s_aload_n dX9_copyFrom_7 rfl rfl) ?_
      refine W_s (gfm_RX9_17 ha0 rfl dX9_copyFrom_8) ?_
      refine W_s (s_iload_n dX9_copyFrom_11 rfl rfl) ?_
      refine W_ck (fun h5 => ?_)
      refine W_s (aqT_2 ha0 dX9_copyFrom_12 (gx_ixv h5)) ?_
      refine W_letA (C := fun x => gx_St x) (Td_St_2 ha0 (gx_ixv h5)) (fun o6 ho6 => ?_)
      refine W_s (s_aload_n dX9_copyFrom_13 rfl rfl) ?_
      refine W_s (gfm_RX9_17 ha1 rfl dX9_copyFrom_14) ?_
      refine W_s (s_iload_n dX9_copyFrom_17 rfl rfl) ?_
      refine W_s (aqT_2 ha1 dX9_copyFrom_18 (gx_ixv h5)) ?_
      refine W_letA (C := fun x => gx_St x) (Td_St_2 ha1 (gx_ixv h5)) (fun o7 ho7 => ?_)
      refine W_bd (ec := gx_eV) (fun r_ μ_ hr_ => s_callV (As := [.ref _]) dX9_copyFrom_19 Lk_RX9_49 rfl (St_0 ho6) (by decide) rfl (Nat.le_of_ble_eq_true rfl) (Nat.le_of_ble_eq_true rfl) (ev_X5_copyFrom o6 o7 ho6 ho7 μ2 hr_)) (fun r8 μ9 => ?_)
      refine W_s (s_aload_n dX9_copyFrom_22 rfl rfl) ?_
      refine W_s (gfm_RX9_23 ha0 rfl dX9_copyFrom_23) ?_
      refine W_s (s_iload_n dX9_copyFrom_26 rfl rfl) ?_
      refine W_s (aqT_3 ha0 dX9_copyFrom_27 (gx_ixv h5)) ?_
      refine W_letA (C := fun x => gx_Ln x 40) (Td_Ln_3 ha0 (gx_ixv h5)) (fun o10 ho10 => ?_)
      refine W_s (s_aload_n dX9_copyFrom_28 rfl rfl) ?_
      refine W_s (gfm_RX9_23 ha1 rfl dX9_copyFrom_29) ?_
      refine W_s (s_iload_n dX9_copyFrom_32 rfl rfl) ?_
      refine W_s (aqT_3 ha1 dX9_copyFrom_33 (gx_ixv h5)) ?_
      refine W_letA (C := fun x => gx_Ln x 40) (Td_Ln_3 ha1 (gx_ixv h5)) (fun o11 ho11 => ?_)
      refine W_bd (ec := gx_eV) (fun r_ μ_ hr_ => s_callV (As := [.ref _]) dX9_copyFrom_34 Lk_RX9_53 rfl (Ln_0 ho10) (by decide) rfl (Nat.le_of_ble_eq_true rfl) (Nat.le_of_ble_eq_true rfl) (ev_X2_copyFrom o10 40 o11 40 ho10 ho11 μ9 hr_)) (fun r12 μ13 => ?_)
      refine W_s (s_aload_n dX9_copyFrom_37 rfl rfl) ?_
      refine W_s (gfm_RX9_27 ha0 rfl dX9_copyFrom_38) ?_
      refine W_s (s_iload_n dX9_copyFrom_41 rfl rfl) ?_
      refine W_s (aqT_4 ha0 dX9_copyFrom_42 (gx_ixv h5)) ?_
      refine W_letA (C := fun x => gx_Ln x 8) (Td_Ln_4 ha0 (gx_ixv h5)) (fun o14 ho14 => ?_)
      refine W_s (s_aload_n dX9_copyFrom_43 rfl rfl) ?_
      refine W_s (gfm_RX9_27 ha1 rfl dX9_copyFrom_44) ?_
      refine W_s (s_iload_n dX9_copyFrom_47 rfl rfl) ?_
      refine W_s (aqT_4 ha1 dX9_copyFrom_48 (gx_ixv h5)) ?_
      refine W_letA (C := fun x => gx_Ln x 8) (Td_Ln_4 ha1 (gx_ixv h5)) (fun o15 ho15 => ?_)
      refine W_bd (ec := gx_eV) (fun r_ μ_ hr_ => s_callV (As := [.ref _]) dX9_copyFrom_49 Lk_RX9_53 rfl (Ln_0 ho14) (by decide) rfl (Nat.le_of_ble_eq_true rfl) (Nat.le_of_ble_eq_true rfl) (ev_X2_copyFrom o14 8 o15 8 ho14 ho15 μ13 hr_)) (fun r16 μ17 => ?_)
      refine W_s (s_aload_n dX9_copyFrom_52 rfl rfl) ?_
      refine W_s (gfm_RX9_32 ha0 rfl dX9_copyFrom_53) ?_
      refine W_s (s_iload_n dX9_copyFrom_56 rfl rfl) ?_
      refine W_s (aqT_5 ha0 dX9_copyFrom_57 (gx_ixv h5)) ?_
      refine W_letA (C := fun x => gx_Sw x) (Td_Sw_5 ha0 (gx_ixv h5)) (fun o18 ho18 => ?_)
      refine W_s (s_aload_n dX9_copyFrom_58 rfl rfl) ?_
      refine W_s (gfm_RX9_32 ha1 rfl dX9_copyFrom_59) ?_
      refine W_s (s_iload_n dX9_copyFrom_62 rfl rfl) ?_
      refine W_s (aqT_5 ha1 dX9_copyFrom_63 (gx_ixv h5)) ?_
      refine W_letA (C := fun x => gx_Sw x) (Td_Sw_5 ha1 (gx_ixv h5)) (fun o19 ho19 => ?_)
      refine W_bd (ec := gx_eV) (fun r_ μ_ hr_ => s_callV (As := [.ref _]) dX9_copyFrom_64 Lk_RX9_56 rfl (Sw_0 ho18) (by decide) rfl (Nat.le_of_ble_eq_true rfl) (Nat.le_of_ble_eq_true rfl) (ev_X6_copyFrom o18 o19 ho18 ho19 μ17 hr_)) (fun r20 μ21 => ?_)
      refine W_s (s_iinc dX9_copyFrom_67 rfl (kinc_1 v2_1) (Nat.le_of_ble_eq_true rfl)) ?_
      refine W_s (s_goto dX9_copyFrom_70 rfl) ?_
      exact W_wk (ih (v2_1 + 1) μ21) (le_s rfl (le_s rfl (le_s rfl le_n)))
theorem ev_X9_copyFrom {E : gx_E} {l : Launch} (a0 : Nat) (a1 : Nat) (ha0 : gx_Td a0) (ha1 : gx_Td a1) (μ : gx_M) {r : Unit} {μ' : gx_M} (hr : f_X9_copyFrom a0 a1 μ = some (r, μ')) : gEv E l 2 Y_X9_copyFrom [.ref (E.2.2.1 + a0), .ref (E.2.2.1 + a1)] gx_G1 μ (gx_eV r) gx_G1 μ' := by
  refine W_ev (by decide) (Nat.le_of_ble_eq_true rfl) (em := gx_eV) (T := f_X9_copyFrom a0 a1 μ) ?_ hr
  show GoW E l Y_X9_copyFrom 2 gx_eV 0 (gx_el [.ref (E.2.2.1 + a0), .ref (E.2.2.1 + a1)]) [] μ (f_X9_copyFrom a0 a1 μ)
  unfold f_X9_copyFrom
  refine W_s (s_iconst dX9_copyFrom_0 kci_0) ?_
  refine W_s (s_istore_n dX9_copyFrom_1 rfl (Nat.le_of_ble_eq_true rfl)) ?_
  refine W_wk (okL_X9_copyFrom_2 ha0 ha1 ?_ 4000 0 μ) (le_s rfl (le_s rfl (le_s rfl le_n)))
  intro μ23
  refine W_s (s_aload_n dX9_copyFrom_73 rfl rfl) ?_
  refine W_s (gfm_RX9_9 ha1 rfl dX9_copyFrom_74) ?_
  refine W_s (s_iconst dX9_copyFrom_77 kci_0) ?_
  refine W_s (s_aload_n dX9_copyFrom_78 rfl rfl) ?_
  refine W_s (gfm_RX9_9 ha0 rfl dX9_copyFrom_79) ?_
  refine W_s (s_iconst dX9_copyFrom_82 kci_0) ?_
  refine W_s (s_iconst dX9_copyFrom_83 kci_4) ?_
  refine W_ck (fun h24 => ?_)
  refine W_s (s_acopyI dX9_copyFrom_84 Lk_RX9_59 (Nat.le_of_ble_eq_true rfl) (Nat.le_of_ble_eq_true rfl) (Td_1 ha1) (Td_1 ha0) h24) ?_
  refine W_letM (fun μ25 => ?_)
  refine W_s (s_aload_n dX9_copyFrom_87 rfl rfl) ?_
  refine W_s (gfm_RX9_36 ha1 rfl dX9_copyFrom_88) ?_
  refine W_s (s_iconst dX9_copyFrom_91 kci_0) ?_
  refine W_s (s_aload_n dX9_copyFrom_92 rfl rfl) ?_
  refine W_s (gfm_RX9_36 ha0 rfl dX9_copyFrom_93) ?_
  refine W_s (s_iconst dX9_copyFrom_96 kci_0) ?_
  refine W_s (s_sipush dX9_copyFrom_97 kcs_600) ?_
  refine W_ck (fun h26 => ?_)
  refine W_ck (fun h27 => ?_)
  refine W_s (s_acopyB dX9_copyFrom_100 Lk_RX9_59 (Nat.le_of_ble_eq_true rfl) (Nat.le_of_ble_eq_true rfl) (Td_6 ha1) (Td_6 ha0) h26 h27) ?_
  refine W_letM (fun μ28 => ?_)
  refine W_s (s_aload_n dX9_copyFrom_103 rfl rfl) ?_
  refine W_s (s_aload_n dX9_copyFrom_104 rfl rfl) ?_
  refine W_s (gfm_RX9_65 ha1 rfl dX9_copyFrom_105) ?_
  refine W_s (pfm_RX9_65 ha0 rfl dX9_copyFrom_108) ?_
  refine W_letM (fun μ29 => ?_)
  refine W_s (s_aload_n dX9_copyFrom_111 rfl rfl) ?_
  refine W_s (s_aload_n dX9_copyFrom_112 rfl rfl) ?_
  refine W_s (gfm_RX9_68 ha1 rfl dX9_copyFrom_113) ?_
  refine W_s (pfm_RX9_68 ha0 rfl dX9_copyFrom_116) ?_
  refine W_letM (fun μ30 => ?_)
  refine W_s (s_aload_n dX9_copyFrom_119 rfl rfl) ?_
  refine W_s (s_aload_n dX9_copyFrom_120 rfl rfl) ?_
  refine W_s (gfm_RX9_40 ha1 rfl dX9_copyFrom_121) ?_
  refine W_s (pfm_RX9_40 ha0 rfl dX9_copyFrom_124) ?_
  refine W_letM (fun μ31 => ?_)
  exact W_r (r := ()) (f_void dX9_copyFrom_127 rfl)

def f_X9_put (p2 : Int32) (p3 : Int32) (μ : gx_M) : Option (Unit × gx_M) := gx_lt (fun (μ21 : gx_M) => gx_ck (gx_ix p2 4 = true) (gx_lt (if (μ21.1 2 p2.toNatClampNeg) < (p3 + 1) then (p3 + 1) else (μ21.1 2 p2.toNatClampNeg)) (fun (x23 : Int32) => gx_lt (gx_uI μ21 2 p2.toNatClampNeg x23) (fun (μ24 : gx_M) => some ((), μ24))))) (fun J1 => if p2 = 0 then gx_ck (gx_ix p3 2 = true) (gx_lt (8 + 16 * p3.toNatClampNeg) (fun (o4 : Nat) => gx_bd (f_X5_copyFrom o4 45 μ) (fun (r5 : Unit) (μ6 : gx_M) => J1 μ6))) else if p2 = 1 then gx_ck (gx_ix p3 2 = true) (gx_lt (16 + 16 * p3.toNatClampNeg) (fun (o9 : Nat) => gx_bd (f_X2_copyFrom o9 40 53 40 μ) (fun (r10 : Unit) (μ11 : gx_M) => J1 μ11))) else if p2 = 2 then gx_ck (gx_ix p3 2 = true) (gx_lt (19 + 16 * p3.toNatClampNeg) (fun (o14 : Nat) => gx_bd (f_X2_copyFrom o14 8 56 8 μ) (fun (r15 : Unit) (μ16 : gx_M) => J1 μ16))) else gx_ck (gx_ix p3 2 = true) (gx_lt (22 + 16 * p3.toNatClampNeg) (fun (o18 : Nat) => gx_bd (f_X6_copyFrom o18 59 μ) (fun (r19 : Unit) (μ20 : gx_M) => J1 μ20))))
theorem ev_X9_put {E : gx_E} {l : Launch} (p2 : Int32) (p3 : Int32) (μ : gx_M) {r : Unit} {μ' : gx_M} (hr : f_X9_put p2 p3 μ = some (r, μ')) : gEv E l 2 Y_X9_put [.ref (E.2.2.1 + 1), .ref (E.2.2.1 + 42), .int p2, .int p3] gx_G1 μ (gx_eV r) gx_G1 μ' := by
  refine W_ev (by decide) (Nat.le_of_ble_eq_true rfl) (em := gx_eV) (T := f_X9_put p2 p3 μ) ?_ hr
  show GoW E l Y_X9_put 2 gx_eV 0 (gx_el [.ref (E.2.2.1 + 1), .ref (E.2.2.1 + 42), .int p2, .int p3]) [] μ (f_X9_put p2 p3 μ)
  unfold f_X9_put
  refine W_s (s_iload_n dX9_put_0 rfl rfl) ?_
  refine W_fun (fun J => ∀ (μ21 : gx_M), GoW E l Y_X9_put 2 gx_eV 89 [some (.ref (E.2.2.1 + 1)), none, some (.int p2), some (.int p3)] [] μ21 (J μ21)) ?_ (fun J1 hJ1 => ?_)
  · intro μ21
    refine W_s (s_aload_n dX9_put_89 rfl rfl) ?_
    refine W_s (gf_RX9_9 rfl dX9_put_90) ?_
    refine W_s (s_iload_n dX9_put_93 rfl rfl) ?_
    refine W_s (s_aload_n dX9_put_94 rfl rfl) ?_
    refine W_s (gf_RX9_9 rfl dX9_put_95) ?_
    refine W_s (s_iload_n dX9_put_98 rfl rfl) ?_
    refine W_ck (fun h22 => ?_)
    refine W_s (s_iald dX9_put_99 g_2 (gx_ixv h22)) ?_
    refine W_s (s_iload_n dX9_put_100 rfl rfl) ?_
    refine W_s (s_iconst dX9_put_101 kci_1) ?_
    refine W_s (s_iadd dX9_put_102) ?_
    refine W_s (s_mmax dX9_put_103 Lk_RX9_87 (Nat.le_of_ble_eq_true rfl) (Nat.le_of_ble_eq_true rfl)) ?_
    refine W_letI (fun x23 => ?_)
    refine W_s (s_iast dX9_put_106 g_2 (gx_ixv h22)) ?_
    refine W_letM (fun μ24 => ?_)
    exact W_r (r := ()) (f_void dX9_put_107 rfl)
  · skip
    refine W_ite (fun h2 => ?_) (fun h2 => ?_)
    · refine W_s (s_tsw_eq (c := 0) dX9_put_1 h2 (by decide) (by decide) rfl rfl) ?_
      refine W_s (s_aload_n dX9_put_28 rfl rfl) ?_
      refine W_s (gf_RX9_17 rfl dX9_put_29) ?_
      refine W_s (s_iload_n dX9_put_32 rfl rfl) ?_
      refine W_ck (fun h3 => ?_)
      refine W_s (aq_3 dX9_put_33 (gx_ixv h3)) ?_
      refine W_letA (C := fun x => gx_St x) (aqh_3 (gx_ixv h3)) (fun o4 ho4 => ?_)
      refine W_s (s_aload_n dX9_put_34 rfl rfl) ?_
      refine W_s (gf_RX9_71 rfl dX9_put_35) ?_
      refine W_bd (ec := gx_eV) (fun r_ μ_ hr_ => s_callV (As := [.ref _]) dX9_put_38 Lk_RX9_49 rfl (St_0 ho4) (by decide) rfl (Nat.le_of_ble_eq_true rfl) (Nat.le_of_ble_eq_true rfl) (ev_X5_copyFrom o4 45 ho4 St_c_45 μ hr_)) (fun r5 μ6 => ?_)
      refine W_s (s_goto dX9_put_41 rfl) ?_
      exact W_wk (hJ1 μ6) (le_s rfl (le_o (le_s rfl (le_s rfl le_n))))
    · skip
      refine W_ite (fun h7 => ?_) (fun h7 => ?_)
      · refine W_s (s_tsw_eq (c := 1) dX9_put_1 h7 (by decide) (by decide) rfl rfl) ?_
        refine W_s (s_aload_n dX9_put_44 rfl rfl) ?_
        refine W_s (gf_RX9_23 rfl dX9_put_45) ?_
        refine W_s (s_iload_n dX9_put_48 rfl rfl) ?_
        refine W_ck (fun h8 => ?_)
        refine W_s (aq_4 dX9_put_49 (gx_ixv h8)) ?_
        refine W_letA (C := fun x => gx_Ln x 40) (aqh_4 (gx_ixv h8)) (fun o9 ho9 => ?_)
        refine W_s (s_aload_n dX9_put_50 rfl rfl) ?_
        refine W_s (gf_RX9_77 rfl dX9_put_51) ?_
        refine W_bd (ec := gx_eV) (fun r_ μ_ hr_ => s_callV (As := [.ref _]) dX9_put_54 Lk_RX9_53 rfl (Ln_0 ho9) (by decide) rfl (Nat.le_of_ble_eq_true rfl) (Nat.le_of_ble_eq_true rfl) (ev_X2_copyFrom o9 40 53 40 ho9 (Ln_c_53) μ hr_)) (fun r10 μ11 => ?_)
        refine W_s (s_goto dX9_put_57 rfl) ?_
        exact W_wk (hJ1 μ11) (le_s rfl (le_o (le_s rfl (le_s rfl le_n))))
      · skip
        refine W_ite (fun h12 => ?_) (fun h12 => ?_)
        · refine W_s (s_tsw_eq (c := 2) dX9_put_1 h12 (by decide) (by decide) rfl rfl) ?_
          refine W_s (s_aload_n dX9_put_60 rfl rfl) ?_
          refine W_s (gf_RX9_27 rfl dX9_put_61) ?_
          refine W_s (s_iload_n dX9_put_64 rfl rfl) ?_
          refine W_ck (fun h13 => ?_)
          refine W_s (aq_5 dX9_put_65 (gx_ixv h13)) ?_
          refine W_letA (C := fun x => gx_Ln x 8) (aqh_5 (gx_ixv h13)) (fun o14 ho14 => ?_)
          refine W_s (s_aload_n dX9_put_66 rfl rfl) ?_
          refine W_s (gf_RX9_81 rfl dX9_put_67) ?_
          refine W_bd (ec := gx_eV) (fun r_ μ_ hr_ => s_callV (As := [.ref _]) dX9_put_70 Lk_RX9_53 rfl (Ln_0 ho14) (by decide) rfl (Nat.le_of_ble_eq_true rfl) (Nat.le_of_ble_eq_true rfl) (ev_X2_copyFrom o14 8 56 8 ho14 (Ln_c_56) μ hr_)) (fun r15 μ16 => ?_)
          refine W_s (s_goto dX9_put_73 rfl) ?_
          exact W_wk (hJ1 μ16) (le_s rfl (le_o (le_s rfl (le_s rfl le_n))))
        · skip
          refine W_s (s_tsw_out dX9_put_1 (gx_out_0_3 h2 h7 h12) rfl) ?_
          refine W_s (s_aload_n dX9_put_76 rfl rfl) ?_
          refine W_s (gf_RX9_32 rfl dX9_put_77) ?_
          refine W_s (s_iload_n dX9_put_80 rfl rfl) ?_
          refine W_ck (fun h17 => ?_)
          refine W_s (aq_6 dX9_put_81 (gx_ixv h17)) ?_
          refine W_letA (C := fun x => gx_Sw x) (aqh_6 (gx_ixv h17)) (fun o18 ho18 => ?_)
          refine W_s (s_aload_n dX9_put_82 rfl rfl) ?_
          refine W_s (gf_RX9_84 rfl dX9_put_83) ?_
          refine W_bd (ec := gx_eV) (fun r_ μ_ hr_ => s_callV (As := [.ref _]) dX9_put_86 Lk_RX9_56 rfl (Sw_0 ho18) (by decide) rfl (Nat.le_of_ble_eq_true rfl) (Nat.le_of_ble_eq_true rfl) (ev_X6_copyFrom o18 59 ho18 Sw_c_59 μ hr_)) (fun r19 μ20 => ?_)
          exact W_wk (hJ1 μ20) (le_s rfl (le_o (le_s rfl (le_s rfl le_n))))

def L_X10_pointAll_2 (a1 : Nat) (k3 : gx_M → Option (Unit × gx_M)) : Nat → Int32 → gx_M → Option (Unit × gx_M)
  | 0, _, _ => none
  | n + 1, v2_1, μ2 => if (μ2.1 a1 0) ≤ v2_1 then k3 μ2 else gx_ck (gx_ix v2_1 6 = true) (gx_lt (fun (μ10 : gx_M) => L_X10_pointAll_2 a1 k3 n (v2_1 + 1) μ10) (fun J6 => if (μ2.1 86 v2_1.toNatClampNeg) = (-1) then gx_br (f_X10_favourite a1 v2_1 μ2) (fun (r8 : Int32) => gx_lt (gx_uI μ2 87 v2_1.toNatClampNeg r8) (fun (μ9 : gx_M) => J6 μ9)) else J6 μ2))
def f_X10_pointAll (a1 : Nat) (μ : gx_M) : Option (Unit × gx_M) := L_X10_pointAll_2 a1 (fun (μ12 : gx_M) => some ((), μ12)) 4000 0 μ
theorem okL_X10_pointAll_2 {E : gx_E} {l : Launch} {a1 : Nat} (ha1 : gx_Sw a1) {k3 : gx_M → Option (Unit × gx_M)} (hk : ∀ (μ11 : gx_M), GoW E l Y_X10_pointAll 2 gx_eV 38 [] [] μ11 (k3 μ11)) : ∀ (n : Nat) (v2_1 : Int32) (μ2 : gx_M), GoW E l Y_X10_pointAll 2 gx_eV 2 [some (.ref (E.2.2.1 + 84)), some (.ref (E.2.2.1 + a1)), some (.int v2_1)] [] μ2 (L_X10_pointAll_2 a1 k3 n v2_1 μ2) := by
  intro n
  induction n with
  | zero => intros; exact W_no
  | succ n ih =>
    intro v2_1 μ2
    rw [L_X10_pointAll_2.eq_2]
    refine W_s (s_iload_n dX10_pointAll_2 rfl rfl) ?_
    refine W_s (s_aload_n dX10_pointAll_3 rfl rfl) ?_
    refine W_s (gfm_RX10_31 ha1 rfl dX10_pointAll_4) ?_
    refine W_ite (fun h4 => ?_) (fun h4 => ?_)
    · refine W_s (s_icmp_ge_t dX10_pointAll_7 rfl h4) ?_
      exact W_wk (hk μ2) le_n
    · refine W_s (s_icmp_ge_f dX10_pointAll_7 rfl h4) ?_
      refine W_s (s_aload_n dX10_pointAll_10 rfl rfl) ?_
      refine W_s (gf_RX10_15 rfl dX10_pointAll_11) ?_
      refine W_s (s_iload_n dX10_pointAll_14 rfl rfl) ?_
      refine W_ck (fun h5 => ?_)
      refine W_s (s_iald dX10_pointAll_15 g_86 (gx_ixv h5)) ?_
      refine W_s (s_iconst dX10_pointAll_16 kci_m1) ?_
      refine W_fun (fun J => ∀ (μ10 : gx_M), GoW E l Y_X10_pointAll 2 gx_eV 32 [some (.ref (E.2.2.1 + 84)), some (.ref (E.2.2.1 + a1)), some (.int v2_1)] [] μ10 (J μ10)) ?_ (fun J6 hJ6 => ?_)
      · intro μ10
        refine W_s (s_iinc dX10_pointAll_32 rfl (kinc_1 v2_1) (Nat.le_of_ble_eq_true rfl)) ?_
        refine W_s (s_goto dX10_pointAll_35 rfl) ?_
        exact W_wk (ih (v2_1 + 1) μ10) (le_s rfl (le_s rfl (le_s rfl le_n)))
      · skip
        refine W_ite (fun h7 => ?_) (fun h7 => ?_)
        · refine W_s (s_icmp_ne_f dX10_pointAll_17 rfl h7) ?_
          refine W_s (s_aload_n dX10_pointAll_20 rfl rfl) ?_
          refine W_s (gf_RX10_18 rfl dX10_pointAll_21) ?_
          refine W_s (s_iload_n dX10_pointAll_24 rfl rfl) ?_
          refine W_s (s_aload_n dX10_pointAll_25 rfl rfl) ?_
          refine W_s (s_aload_n dX10_pointAll_26 rfl rfl) ?_
          refine W_s (s_iload_n dX10_pointAll_27 rfl rfl) ?_
          refine W_br (ec := gx_eI) (fun r_ hr_ => s_callV (As := [.ref _, .int _]) dX10_pointAll_28 Lk_RX10_44 rfl g_84 (by decide) rfl (Nat.le_of_ble_eq_true rfl) (Nat.le_of_ble_eq_true rfl) (ev_X10_favourite a1 v2_1 ha1 μ2 hr_)) (fun r8 => ?_)
          refine W_s (s_iast dX10_pointAll_31 g_87 (gx_ixv h5)) ?_
          refine W_letM (fun μ9 => ?_)
          exact W_wk (hJ6 μ9) (le_s rfl (le_s rfl (le_s rfl le_n)))
        · refine W_s (s_icmp_ne_t dX10_pointAll_17 rfl h7) ?_
          exact W_wk (hJ6 μ2) (le_s rfl (le_s rfl (le_s rfl le_n)))
theorem ev_X10_pointAll {E : gx_E} {l : Launch} (a1 : Nat) (ha1 : gx_Sw a1) (μ : gx_M) {r : Unit} {μ' : gx_M} (hr : f_X10_pointAll a1 μ = some (r, μ')) : gEv E l 2 Y_X10_pointAll [.ref (E.2.2.1 + 84), .ref (E.2.2.1 + a1)] gx_G1 μ (gx_eV r) gx_G1 μ' := by
  refine W_ev (by decide) (Nat.le_of_ble_eq_true rfl) (em := gx_eV) (T := f_X10_pointAll a1 μ) ?_ hr
  show GoW E l Y_X10_pointAll 2 gx_eV 0 (gx_el [.ref (E.2.2.1 + 84), .ref (E.2.2.1 + a1)]) [] μ (f_X10_pointAll a1 μ)
  unfold f_X10_pointAll
  refine W_s (s_iconst dX10_pointAll_0 kci_0) ?_
  refine W_s (s_istore_n dX10_pointAll_1 rfl (Nat.le_of_ble_eq_true rfl)) ?_
  refine W_wk (okL_X10_pointAll_2 ha1 ?_ 4000 0 μ) (le_s rfl (le_s rfl (le_s rfl le_n)))
  intro μ12
  exact W_r (r := ()) (f_void dX10_pointAll_38 rfl)

def L_X10_contented_4 (μ : gx_M) (a1 : Nat) (k3 : Int32 → Option Int32) : Nat → Int32 → Int32 → Option Int32
  | 0, _, _ => none
  | n + 1, v2_1, v3_2 => if (μ.1 a1 0) ≤ v3_2 then k3 v2_1 else gx_br (f_X10_hasBest a1 v3_2 μ) (fun (r5 : Bool) => gx_lt (fun (j0_9 : Int32) => L_X10_contented_4 μ a1 k3 n j0_9 (v3_2 + 1)) (fun J6 => if r5 = true then gx_lt (v2_1 ||| ((1 : Int32) <<< (v3_2 &&& 31))) (fun (x8 : Int32) => J6 x8) else J6 v2_1))
def f_X10_contented (a1 : Nat) (μ : gx_M) : Option Int32 := L_X10_contented_4 μ a1 (fun (x2_11 : Int32) => some x2_11) 4000 0 0
theorem okL_X10_contented_4 {E : gx_E} {l : Launch} {μ : gx_M} {a1 : Nat} (ha1 : gx_Sw a1) {k3 : Int32 → Option Int32} (hk : ∀ (w10 : Int32), GoR E l Y_X10_contented 2 gx_eI 33 [none, none, some (.int w10)] [] μ (k3 w10)) : ∀ (n : Nat) (v2_1 : Int32) (v3_2 : Int32), GoR E l Y_X10_contented 2 gx_eI 4 [some (.ref (E.2.2.1 + 84)), some (.ref (E.2.2.1 + a1)), some (.int v2_1), some (.int v3_2)] [] μ (L_X10_contented_4 μ a1 k3 n v2_1 v3_2) := by
  intro n
  induction n with
  | zero => intros; exact R_no
  | succ n ih =>
    intro v2_1 v3_2
    rw [L_X10_contented_4.eq_2]
    refine R_s (s_iload_n dX10_contented_4 rfl rfl) ?_
    refine R_s (s_aload_n dX10_contented_5 rfl rfl) ?_
    refine R_s (gfm_RX10_31 ha1 rfl dX10_contented_6) ?_
    refine R_ite (fun h4 => ?_) (fun h4 => ?_)
    · refine R_s (s_icmp_ge_t dX10_contented_9 rfl h4) ?_
      exact R_wk (hk v2_1) (le_o (le_o (le_s rfl le_n)))
    · refine R_s (s_icmp_ge_f dX10_contented_9 rfl h4) ?_
      refine R_s (s_aload_n dX10_contented_12 rfl rfl) ?_
      refine R_s (s_aload_n dX10_contented_13 rfl rfl) ?_
      refine R_s (s_iload_n dX10_contented_14 rfl rfl) ?_
      refine R_br (ec := gx_eB) (fun r_ hr_ => s_callV (As := [.ref _, .int _]) dX10_contented_15 Lk_RX10_55 rfl g_84 (by decide) rfl (Nat.le_of_ble_eq_true rfl) (Nat.le_of_ble_eq_true rfl) (ev_X10_hasBest a1 v3_2 ha1 μ hr_)) (fun r5 => ?_)
      refine R_fun (fun J => ∀ (j0_9 : Int32), GoR E l Y_X10_contented 2 gx_eI 27 [some (.ref (E.2.2.1 + 84)), some (.ref (E.2.2.1 + a1)), some (.int j0_9), some (.int v3_2)] [] μ (J j0_9)) ?_ (fun J6 hJ6 => ?_)
      · intro j0_9
        refine R_s (s_iinc dX10_contented_27 rfl (kinc_1 v3_2) (Nat.le_of_ble_eq_true rfl)) ?_
        refine R_s (s_goto dX10_contented_30 rfl) ?_
        exact R_wk (ih j0_9 (v3_2 + 1)) (le_s rfl (le_s rfl (le_s rfl (le_s rfl le_n))))
      · skip
        refine R_ite (fun h7 => ?_) (fun h7 => ?_)
        · refine R_s (s_if_eq_f dX10_contented_18 rfl (gx_bt h7)) ?_
          refine R_s (s_iload_n dX10_contented_21 rfl rfl) ?_
          refine R_s (s_iconst dX10_contented_22 kci_1) ?_
          refine R_s (s_iload_n dX10_contented_23 rfl rfl) ?_
          refine R_s (s_ishl dX10_contented_24) ?_
          refine R_s (s_ior dX10_contented_25) ?_
          refine R_letI (fun x8 => ?_)
          refine R_s (s_istore_n dX10_contented_26 rfl (Nat.le_of_ble_eq_true rfl)) ?_
          exact R_wk (hJ6 x8) (le_s rfl (le_s rfl (le_s rfl (le_s rfl le_n))))
        · refine R_s (s_if_eq_t dX10_contented_18 rfl (gx_bf h7)) ?_
          exact R_wk (hJ6 v2_1) (le_s rfl (le_s rfl (le_s rfl (le_s rfl le_n))))
theorem ev_X10_contented {E : gx_E} {l : Launch} (a1 : Nat) (ha1 : gx_Sw a1) (μ : gx_M) {r : Int32} (hr : f_X10_contented a1 μ = some r) : gEv E l 2 Y_X10_contented [.ref (E.2.2.1 + 84), .ref (E.2.2.1 + a1)] gx_G1 μ (gx_eI r) gx_G1 μ := by
  refine R_ev (by decide) (Nat.le_of_ble_eq_true rfl) (em := gx_eI) (T := f_X10_contented a1 μ) ?_ hr
  show GoR E l Y_X10_contented 2 gx_eI 0 (gx_el [.ref (E.2.2.1 + 84), .ref (E.2.2.1 + a1)]) [] μ (f_X10_contented a1 μ)
  unfold f_X10_contented
  refine R_s (s_iconst dX10_contented_0 kci_0) ?_
  refine R_s (s_istore_n dX10_contented_1 rfl (Nat.le_of_ble_eq_true rfl)) ?_
  refine R_s (s_iconst dX10_contented_2 kci_0) ?_
  refine R_s (s_istore_n dX10_contented_3 rfl (Nat.le_of_ble_eq_true rfl)) ?_
  refine R_wk (okL_X10_contented_4 ha1 ?_ 4000 0 0) (le_s rfl (le_s rfl (le_s rfl (le_s rfl le_n))))
  intro x2_11
  refine R_s (s_iload_n dX10_contented_33 rfl rfl) ?_
  exact R_r (r := x2_11) (f_int (ty := .int) dX10_contented_34 rfl rfl)

def f_X11_hasPersonAndSet (p1 : Int32) (p2 : Int32) (p3 : Int32) (μ : gx_M) : Option Bool := gx_br (f_X11_hasPerson p1 p2 μ) (fun (r1 : Bool) => if r1 = true then gx_ck (gx_ix p1 2 = true) (gx_lt (8 + 16 * p1.toNatClampNeg) (fun (o4 : Nat) => if (f_X5_hasSet o4 p3 μ) = true then some true else some false)) else some false)
theorem ev_X11_hasPersonAndSet {E : gx_E} {l : Launch} (p1 : Int32) (p2 : Int32) (p3 : Int32) (μ : gx_M) {r : Bool} (hr : f_X11_hasPersonAndSet p1 p2 p3 μ = some r) : gEv E l 2 Y_X11_hasPersonAndSet [.ref (E.2.2.1 + 0), .int p1, .int p2, .int p3] gx_G1 μ (gx_eB r) gx_G1 μ := by
  refine R_ev (by decide) (Nat.le_of_ble_eq_true rfl) (em := gx_eB) (T := f_X11_hasPersonAndSet p1 p2 p3 μ) ?_ hr
  show GoR E l Y_X11_hasPersonAndSet 2 gx_eB 0 (gx_el [.ref (E.2.2.1 + 0), .int p1, .int p2, .int p3]) [] μ (f_X11_hasPersonAndSet p1 p2 p3 μ)
  unfold f_X11_hasPersonAndSet
  refine R_s (s_aload_n dX11_hasPersonAndSet_0 rfl rfl) ?_
  refine R_s (s_iload_n dX11_hasPersonAndSet_1 rfl rfl) ?_
  refine R_s (s_iload_n dX11_hasPersonAndSet_2 rfl rfl) ?_
  refine R_br (ec := gx_eB) (fun r_ hr_ => s_callV (As := [.int _, .int _]) dX11_hasPersonAndSet_3 Lk_RX11_118 rfl g_0 (by decide) rfl (Nat.le_of_ble_eq_true rfl) (Nat.le_of_ble_eq_true rfl) (ev_X11_hasPerson p1 p2 μ hr_)) (fun r1 => ?_)
  refine R_ite (fun h2 => ?_) (fun h2 => ?_)
  · refine R_s (s_if_eq_f dX11_hasPersonAndSet_6 rfl (gx_bt h2)) ?_
    refine R_s (s_aload_n dX11_hasPersonAndSet_9 rfl rfl) ?_
    refine R_s (gf_RX11_12 rfl dX11_hasPersonAndSet_10) ?_
    refine R_s (gf_RX11_109 rfl dX11_hasPersonAndSet_13) ?_
    refine R_s (s_iload_n dX11_hasPersonAndSet_16 rfl rfl) ?_
    refine R_ck (fun h3 => ?_)
    refine R_s (aq_3 dX11_hasPersonAndSet_17 (gx_ixv h3)) ?_
    refine R_letA (C := fun x => gx_St x) (aqh_3 (gx_ixv h3)) (fun o4 ho4 => ?_)
    refine R_s (s_iload_n dX11_hasPersonAndSet_18 rfl rfl) ?_
    refine R_s (s_callV (As := [.int _]) dX11_hasPersonAndSet_19 Lk_RX11_121 rfl (St_0 ho4) (by decide) rfl (Nat.le_of_ble_eq_true rfl) (Nat.le_of_ble_eq_true rfl) (ev_X5_hasSet o4 p3 ho4 μ)) ?_
    refine R_ite (fun h5 => ?_) (fun h5 => ?_)
    · refine R_s (s_if_eq_f dX11_hasPersonAndSet_22 rfl (gx_bt h5)) ?_
      refine R_s (s_iconst dX11_hasPersonAndSet_25 kci_1) ?_
      refine R_s (s_goto dX11_hasPersonAndSet_26 rfl) ?_
      exact R_r (r := true) (f_int (ty := .boolean) (x := gx_bi true) dX11_hasPersonAndSet_30 rfl (gx_bn true))
    · refine R_s (s_if_eq_t dX11_hasPersonAndSet_22 rfl (gx_bf h5)) ?_
      refine R_s (s_iconst dX11_hasPersonAndSet_29 kci_0) ?_
      exact R_r (r := false) (f_int (ty := .boolean) (x := gx_bi false) dX11_hasPersonAndSet_30 rfl (gx_bn false))
  · refine R_s (s_if_eq_t dX11_hasPersonAndSet_6 rfl (gx_bf h2)) ?_
    refine R_s (s_iconst dX11_hasPersonAndSet_29 kci_0) ?_
    exact R_r (r := false) (f_int (ty := .boolean) (x := gx_bi false) dX11_hasPersonAndSet_30 rfl (gx_bn false))

def f_X11_street (p1 : Int32) (p2 : Int32) (μ : gx_M) : Option Int32 := gx_br (f_X11_hasStreet p1 μ) (fun (r1 : Bool) => if r1 = true then gx_ck (gx_ix p1 2 = true) (gx_lt (8 + 16 * p1.toNatClampNeg) (fun (o4 : Nat) => if p2 = 0 then some (μ.1 o4 0) else if p2 = 1 then some (μ.1 o4 1) else if p2 = 2 then some (μ.1 o4 2) else gx_br (f_X11_partOfStreet o4 p2 μ) (fun (r8 : Int32) => some r8))) else some (-2))
theorem ev_X11_street {E : gx_E} {l : Launch} (p1 : Int32) (p2 : Int32) (μ : gx_M) {r : Int32} (hr : f_X11_street p1 p2 μ = some r) : gEv E l 2 Y_X11_street [.ref (E.2.2.1 + 0), .int p1, .int p2] gx_G1 μ (gx_eI r) gx_G1 μ := by
  refine R_ev (by decide) (Nat.le_of_ble_eq_true rfl) (em := gx_eI) (T := f_X11_street p1 p2 μ) ?_ hr
  show GoR E l Y_X11_street 2 gx_eI 0 (gx_el [.ref (E.2.2.1 + 0), .int p1, .int p2]) [] μ (f_X11_street p1 p2 μ)
  unfold f_X11_street
  refine R_s (s_aload_n dX11_street_0 rfl rfl) ?_
  refine R_s (s_iload_n dX11_street_1 rfl rfl) ?_
  refine R_br (ec := gx_eB) (fun r_ hr_ => s_callV (As := [.int _]) dX11_street_2 Lk_RX11_105 rfl g_0 (by decide) rfl (Nat.le_of_ble_eq_true rfl) (Nat.le_of_ble_eq_true rfl) (ev_X11_hasStreet p1 μ hr_)) (fun r1 => ?_)
  refine R_ite (fun h2 => ?_) (fun h2 => ?_)
  · refine R_s (s_if_ne_t dX11_street_5 rfl (gx_bt h2)) ?_
    refine R_s (s_aload_n dX11_street_11 rfl rfl) ?_
    refine R_s (gf_RX11_12 rfl dX11_street_12) ?_
    refine R_s (gf_RX11_109 rfl dX11_street_15) ?_
    refine R_s (s_iload_n dX11_street_18 rfl rfl) ?_
    refine R_ck (fun h3 => ?_)
    refine R_s (aq_3 dX11_street_19 (gx_ixv h3)) ?_
    refine R_letA (C := fun x => gx_St x) (aqh_3 (gx_ixv h3)) (fun o4 ho4 => ?_)
    refine R_s (s_astore_n dX11_street_20 rfl (Nat.le_of_ble_eq_true rfl)) ?_
    refine R_s (s_iload_n dX11_street_21 rfl rfl) ?_
    refine R_ite (fun h5 => ?_) (fun h5 => ?_)
    · refine R_s (s_tsw_eq (c := 0) dX11_street_22 h5 (by decide) (by decide) rfl rfl) ?_
      refine R_s (s_aload_n dX11_street_48 rfl rfl) ?_
      refine R_s (gfm_RX11_124 ho4 rfl dX11_street_49) ?_
      exact R_r (r := (μ.1 o4 0)) (f_int (ty := .int) dX11_street_52 rfl rfl)
    · skip
      refine R_ite (fun h6 => ?_) (fun h6 => ?_)
      · refine R_s (s_tsw_eq (c := 1) dX11_street_22 h6 (by decide) (by decide) rfl rfl) ?_
        refine R_s (s_aload_n dX11_street_53 rfl rfl) ?_
        refine R_s (gfm_RX11_127 ho4 rfl dX11_street_54) ?_
        exact R_r (r := (μ.1 o4 1)) (f_int (ty := .int) dX11_street_57 rfl rfl)
      · skip
        refine R_ite (fun h7 => ?_) (fun h7 => ?_)
        · refine R_s (s_tsw_eq (c := 2) dX11_street_22 h7 (by decide) (by decide) rfl rfl) ?_
          refine R_s (s_aload_n dX11_street_58 rfl rfl) ?_
          refine R_s (gfm_RX11_130 ho4 rfl dX11_street_59) ?_
          exact R_r (r := (μ.1 o4 2)) (f_int (ty := .int) dX11_street_62 rfl rfl)
        · skip
          refine R_s (s_tsw_out dX11_street_22 (gx_out_0_3 h5 h6 h7) rfl) ?_
          refine R_s (s_aload_n dX11_street_63 rfl rfl) ?_
          refine R_s (s_iload_n dX11_street_64 rfl rfl) ?_
          refine R_br (ec := gx_eI) (fun r_ hr_ => s_callS (As := [.ref _, .int _]) dX11_street_65 Lk_RX11_133 rfl (Nat.le_of_ble_eq_true rfl) (Nat.le_of_ble_eq_true rfl) (ev_X11_partOfStreet o4 p2 ho4 μ hr_)) (fun r8 => ?_)
          exact R_r (r := r8) (f_int (ty := .int) dX11_street_68 rfl rfl)
  · refine R_s (s_if_ne_f dX11_street_5 rfl (gx_bf h2)) ?_
    refine R_s (s_bipush dX11_street_8 kcb_m2) ?_
    exact R_r (r := (-2)) (f_int (ty := .int) dX11_street_10 rfl rfl)

def f_X11_shared (p1 : Int32) (p2 : Int32) (p3 : Int32) (μ : gx_M) : Option Int32 := if p2 = p3 then some (-1) else gx_br (f_X11_hasPerson p1 p2 μ) (fun (r2 : Bool) => if r2 = true then gx_br (f_X11_hasPerson p1 p3 μ) (fun (r4 : Bool) => if r4 = true then gx_ck (gx_ix p1 2 = true) (gx_lt (8 + 16 * p1.toNatClampNeg) (fun (o7 : Nat) => gx_br (f_X5_held o7 p2 μ) (fun (r8 : Int64) => gx_br (f_X5_held o7 p3 μ) (fun (r9 : Int64) => gx_br (f_X5_possible o7 (r8 ||| r9) μ) (fun (r10 : Int32) => gx_br (f_X5_possible o7 r8 μ) (fun (r11 : Int32) => gx_br (f_X5_possible o7 r9 μ) (fun (r12 : Int32) => some ((r10 &&& (r11 ^^^ (-1))) &&& (r12 ^^^ (-1)))))))))) else some (-1)) else some (-1))
theorem ev_X11_shared {E : gx_E} {l : Launch} (p1 : Int32) (p2 : Int32) (p3 : Int32) (μ : gx_M) {r : Int32} (hr : f_X11_shared p1 p2 p3 μ = some r) : gEv E l 2 Y_X11_shared [.ref (E.2.2.1 + 0), .int p1, .int p2, .int p3] gx_G1 μ (gx_eI r) gx_G1 μ := by
  refine R_ev (by decide) (Nat.le_of_ble_eq_true rfl) (em := gx_eI) (T := f_X11_shared p1 p2 p3 μ) ?_ hr
  show GoR E l Y_X11_shared 2 gx_eI 0 (gx_el [.ref (E.2.2.1 + 0), .int p1, .int p2, .int p3]) [] μ (f_X11_shared p1 p2 p3 μ)
  unfold f_X11_shared
  refine R_s (s_iload_n dX11_shared_0 rfl rfl) ?_
  refine R_s (s_iload_n dX11_shared_1 rfl rfl) ?_
  refine R_ite (fun h1 => ?_) (fun h1 => ?_)
  · refine R_s (s_icmp_eq_t dX11_shared_2 rfl h1) ?_
    refine R_s (s_iconst dX11_shared_23 kci_m1) ?_
    exact R_r (r := (-1)) (f_int (ty := .int) dX11_shared_24 rfl rfl)
  · refine R_s (s_icmp_eq_f dX11_shared_2 rfl h1) ?_
    refine R_s (s_aload_n dX11_shared_5 rfl rfl) ?_
    refine R_s (s_iload_n dX11_shared_6 rfl rfl) ?_
    refine R_s (s_iload_n dX11_shared_7 rfl rfl) ?_
    refine R_br (ec := gx_eB) (fun r_ hr_ => s_callV (As := [.int _, .int _]) dX11_shared_8 Lk_RX11_118 rfl g_0 (by decide) rfl (Nat.le_of_ble_eq_true rfl) (Nat.le_of_ble_eq_true rfl) (ev_X11_hasPerson p1 p2 μ hr_)) (fun r2 => ?_)
    refine R_ite (fun h3 => ?_) (fun h3 => ?_)
    · refine R_s (s_if_eq_f dX11_shared_11 rfl (gx_bt h3)) ?_
      refine R_s (s_aload_n dX11_shared_14 rfl rfl) ?_
      refine R_s (s_iload_n dX11_shared_15 rfl rfl) ?_
      refine R_s (s_iload_n dX11_shared_16 rfl rfl) ?_
      refine R_br (ec := gx_eB) (fun r_ hr_ => s_callV (As := [.int _, .int _]) dX11_shared_17 Lk_RX11_118 rfl g_0 (by decide) rfl (Nat.le_of_ble_eq_true rfl) (Nat.le_of_ble_eq_true rfl) (ev_X11_hasPerson p1 p3 μ hr_)) (fun r4 => ?_)
      refine R_ite (fun h5 => ?_) (fun h5 => ?_)
      · refine R_s (s_if_ne_t dX11_shared_20 rfl (gx_bt h5)) ?_
        refine R_s (s_aload_n dX11_shared_25 rfl rfl) ?_
        refine R_s (gf_RX11_12 rfl dX11_shared_26) ?_
        refine R_s (gf_RX11_109 rfl dX11_shared_29) ?_
        refine R_s (s_iload_n dX11_shared_32 rfl rfl) ?_
        refine R_ck (fun h6 => ?_)
        refine R_s (aq_3 dX11_shared_33 (gx_ixv h6)) ?_
        refine R_letA (C := fun x => gx_St x) (aqh_3 (gx_ixv h6)) (fun o7 ho7 => ?_)
        refine R_s (s_astore dX11_shared_34 (Nat.le_of_ble_eq_true rfl)) ?_
        refine R_s (s_aload dX11_shared_36 rfl) ?_
        refine R_s (s_iload_n dX11_shared_38 rfl rfl) ?_
        refine R_br (ec := gx_eL) (fun r_ hr_ => s_callV (As := [.int _]) dX11_shared_39 Lk_RX11_261 rfl (St_0 ho7) (by decide) rfl (Nat.le_of_ble_eq_true rfl) (Nat.le_of_ble_eq_true rfl) (ev_X5_held o7 p2 ho7 μ hr_)) (fun r8 => ?_)
        refine R_s (s_lstore dX11_shared_42 (Nat.le_of_ble_eq_true rfl)) ?_
        refine R_s (s_aload dX11_shared_44 rfl) ?_
        refine R_s (s_iload_n dX11_shared_46 rfl rfl) ?_
        refine R_br (ec := gx_eL) (fun r_ hr_ => s_callV (As := [.int _]) dX11_shared_47 Lk_RX11_261 rfl (St_0 ho7) (by decide) rfl (Nat.le_of_ble_eq_true rfl) (Nat.le_of_ble_eq_true rfl) (ev_X5_held o7 p3 ho7 μ hr_)) (fun r9 => ?_)
        refine R_s (s_lstore dX11_shared_50 (Nat.le_of_ble_eq_true rfl)) ?_
        refine R_s (s_aload dX11_shared_52 rfl) ?_
        refine R_s (s_lload dX11_shared_54 rfl) ?_
        refine R_s (s_lload dX11_shared_56 rfl) ?_
        refine R_s (s_lor dX11_shared_58) ?_
        refine R_br (ec := gx_eI) (fun r_ hr_ => s_callV (As := [.long _]) dX11_shared_59 Lk_RX11_271 rfl (St_0 ho7) (by decide) rfl (Nat.le_of_ble_eq_true rfl) (Nat.le_of_ble_eq_true rfl) (ev_X5_possible o7 (r8 ||| r9) ho7 μ hr_)) (fun r10 => ?_)
        refine R_s (s_aload dX11_shared_62 rfl) ?_
        refine R_s (s_lload dX11_shared_64 rfl) ?_
        refine R_br (ec := gx_eI) (fun r_ hr_ => s_callV (As := [.long _]) dX11_shared_66 Lk_RX11_271 rfl (St_0 ho7) (by decide) rfl (Nat.le_of_ble_eq_true rfl) (Nat.le_of_ble_eq_true rfl) (ev_X5_possible o7 r8 ho7 μ hr_)) (fun r11 => ?_)
        refine R_s (s_iconst dX11_shared_69 kci_m1) ?_
        refine R_s (s_ixor dX11_shared_70) ?_
        refine R_s (s_iand dX11_shared_71) ?_
        refine R_s (s_aload dX11_shared_72 rfl) ?_
        refine R_s (s_lload dX11_shared_74 rfl) ?_
        refine R_br (ec := gx_eI) (fun r_ hr_ => s_callV (As := [.long _]) dX11_shared_76 Lk_RX11_271 rfl (St_0 ho7) (by decide) rfl (Nat.le_of_ble_eq_true rfl) (Nat.le_of_ble_eq_true rfl) (ev_X5_possible o7 r9 ho7 μ hr_)) (fun r12 => ?_)
        refine R_s (s_iconst dX11_shared_79 kci_m1) ?_
        refine R_s (s_ixor dX11_shared_80) ?_
        refine R_s (s_iand dX11_shared_81) ?_
        exact R_r (r := ((r10 &&& (r11 ^^^ (-1))) &&& (r12 ^^^ (-1)))) (f_int (ty := .int) dX11_shared_82 rfl rfl)
      · refine R_s (s_if_ne_f dX11_shared_20 rfl (gx_bf h5)) ?_
        refine R_s (s_iconst dX11_shared_23 kci_m1) ?_
        exact R_r (r := (-1)) (f_int (ty := .int) dX11_shared_24 rfl rfl)
    · refine R_s (s_if_eq_t dX11_shared_11 rfl (gx_bf h3)) ?_
      refine R_s (s_iconst dX11_shared_23 kci_m1) ?_
      exact R_r (r := (-1)) (f_int (ty := .int) dX11_shared_24 rfl rfl)

def L_X11_wanted_30 (μ : gx_M) (o4 : Nat) (k8 : Int32 → Int32 → Option Int32) : Nat → Int32 → Int32 → Int32 → Option Int32
  | 0, _, _, _ => none
  | n + 1, v4_5, v5_6, v6_7 => if (μ.1 o4 0) ≤ v6_7 then k8 v4_5 v5_6 else gx_br (f_X5_runsOver o4 v6_7 μ) (fun (r10 : Int32) => gx_lt (fun (j0_13 : Int32) (j1_14 : Int32) => L_X11_wanted_30 μ o4 k8 n j0_13 j1_14 (v6_7 + 1)) (fun J11 => if r10 ≤ v5_6 then J11 v4_5 v5_6 else J11 v6_7 r10))
def f_X11_wanted (p1 : Int32) (p2 : Bool) (μ : gx_M) : Option Int32 := gx_br (f_X11_hasStreet p1 μ) (fun (r1 : Bool) => if r1 = true then gx_ck (gx_ix p1 2 = true) (gx_lt (8 + 16 * p1.toNatClampNeg) (fun (o4 : Nat) => L_X11_wanted_30 μ o4 (fun (x4_17 : Int32) (x5_18 : Int32) => if p2 = true then some x5_18 else some x4_17) 4000 (-1) 0 0)) else some (-2))
theorem okL_X11_wanted_30 {E : gx_E} {l : Launch} {μ : gx_M} {o4 : Nat} {p2 : Bool} (ho4 : gx_St o4) {k8 : Int32 → Int32 → Option Int32} (hk : ∀ (w15 : Int32) (w16 : Int32), GoR E l Y_X11_wanted 2 gx_eI 68 [none, none, some (.int (gx_bi p2)), none, some (.int w15), some (.int w16)] [] μ (k8 w15 w16)) : ∀ (n : Nat) (v4_5 : Int32) (v5_6 : Int32) (v6_7 : Int32), GoR E l Y_X11_wanted 2 gx_eI 30 [none, none, some (.int (gx_bi p2)), some (.ref (E.2.2.1 + o4)), some (.int v4_5), some (.int v5_6), some (.int v6_7)] [] μ (L_X11_wanted_30 μ o4 k8 n v4_5 v5_6 v6_7) := by
  intro n
  induction n with
  | zero => intros; exact R_no
  | succ n ih =>
    intro v4_5 v5_6 v6_7
    rw [L_X11_wanted_30.eq_2]
    refine R_s (s_iload dX11_wanted_30 rfl) ?_
    refine R_s (s_aload_n dX11_wanted_32 rfl rfl) ?_
    refine R_s (gfm_RX11_124 ho4 rfl dX11_wanted_33) ?_
    refine R_ite (fun h9 => ?_) (fun h9 => ?_)
    · refine R_s (s_icmp_ge_t dX11_wanted_36 rfl h9) ?_
      exact R_wk (hk v4_5 v5_6) (le_o (le_o (le_s rfl (le_o (le_s rfl (le_s rfl le_n))))))
    · refine R_s (s_icmp_ge_f dX11_wanted_36 rfl h9) ?_
      refine R_s (s_aload_n dX11_wanted_39 rfl rfl) ?_
      refine R_s (s_iload dX11_wanted_40 rfl) ?_
      refine R_br (ec := gx_eI) (fun r_ hr_ => s_callV (As := [.int _]) dX11_wanted_42 Lk_RX11_275 rfl (St_0 ho4) (by decide) rfl (Nat.le_of_ble_eq_true rfl) (Nat.le_of_ble_eq_true rfl) (ev_X5_runsOver o4 v6_7 ho4 μ hr_)) (fun r10 => ?_)
      refine R_s (s_istore dX11_wanted_45 (Nat.le_of_ble_eq_true rfl)) ?_
      refine R_s (s_iload dX11_wanted_47 rfl) ?_
      refine R_s (s_iload dX11_wanted_49 rfl) ?_
      refine R_fun (fun J => ∀ (j0_13 : Int32) (j1_14 : Int32), GoR E l Y_X11_wanted 2 gx_eI 62 [none, none, some (.int (gx_bi p2)), some (.ref (E.2.2.1 + o4)), some (.int j0_13), some (.int j1_14), some (.int v6_7)] [] μ (J j0_13 j1_14)) ?_ (fun J11 hJ11 => ?_)
      · intro j0_13 j1_14
        refine R_s (s_iinc dX11_wanted_62 rfl (kinc_1 v6_7) (Nat.le_of_ble_eq_true rfl)) ?_
        refine R_s (s_goto dX11_wanted_65 rfl) ?_
        exact R_wk (ih j0_13 j1_14 (v6_7 + 1)) (le_o (le_o (le_s rfl (le_s rfl (le_s rfl (le_s rfl (le_s rfl le_n)))))))
      · skip
        refine R_ite (fun h12 => ?_) (fun h12 => ?_)
        · refine R_s (s_icmp_le_t dX11_wanted_51 rfl h12) ?_
          exact R_wk (hJ11 v4_5 v5_6) (le_o (le_o (le_s rfl (le_s rfl (le_s rfl (le_s rfl (le_s rfl le_n)))))))
        · refine R_s (s_icmp_le_f dX11_wanted_51 rfl h12) ?_
          refine R_s (s_iload dX11_wanted_54 rfl) ?_
          refine R_s (s_istore dX11_wanted_56 (Nat.le_of_ble_eq_true rfl)) ?_
          refine R_s (s_iload dX11_wanted_58 rfl) ?_
          refine R_s (s_istore dX11_wanted_60 (Nat.le_of_ble_eq_true rfl)) ?_
          exact R_wk (hJ11 v6_7 r10) (le_o (le_o (le_s rfl (le_s rfl (le_s rfl (le_s rfl (le_s rfl le_n)))))))
theorem ev_X11_wanted {E : gx_E} {l : Launch} (p1 : Int32) (p2 : Bool) (μ : gx_M) {r : Int32} (hr : f_X11_wanted p1 p2 μ = some r) : gEv E l 2 Y_X11_wanted [.ref (E.2.2.1 + 0), .int p1, .int (gx_bi p2)] gx_G1 μ (gx_eI r) gx_G1 μ := by
  refine R_ev (by decide) (Nat.le_of_ble_eq_true rfl) (em := gx_eI) (T := f_X11_wanted p1 p2 μ) ?_ hr
  show GoR E l Y_X11_wanted 2 gx_eI 0 (gx_el [.ref (E.2.2.1 + 0), .int p1, .int (gx_bi p2)]) [] μ (f_X11_wanted p1 p2 μ)
  unfold f_X11_wanted
  refine R_s (s_aload_n dX11_wanted_0 rfl rfl) ?_
  refine R_s (s_iload_n dX11_wanted_1 rfl rfl) ?_
  refine R_br (ec := gx_eB) (fun r_ hr_ => s_callV (As := [.int _]) dX11_wanted_2 Lk_RX11_105 rfl g_0 (by decide) rfl (Nat.le_of_ble_eq_true rfl) (Nat.le_of_ble_eq_true rfl) (ev_X11_hasStreet p1 μ hr_)) (fun r1 => ?_)
  refine R_ite (fun h2 => ?_) (fun h2 => ?_)
  · refine R_s (s_if_ne_t dX11_wanted_5 rfl (gx_bt h2)) ?_
    refine R_s (s_aload_n dX11_wanted_11 rfl rfl) ?_
    refine R_s (gf_RX11_12 rfl dX11_wanted_12) ?_
    refine R_s (gf_RX11_109 rfl dX11_wanted_15) ?_
    refine R_s (s_iload_n dX11_wanted_18 rfl rfl) ?_
    refine R_ck (fun h3 => ?_)
    refine R_s (aq_3 dX11_wanted_19 (gx_ixv h3)) ?_
    refine R_letA (C := fun x => gx_St x) (aqh_3 (gx_ixv h3)) (fun o4 ho4 => ?_)
    refine R_s (s_astore_n dX11_wanted_20 rfl (Nat.le_of_ble_eq_true rfl)) ?_
    refine R_s (s_iconst dX11_wanted_21 kci_m1) ?_
    refine R_s (s_istore dX11_wanted_22 (Nat.le_of_ble_eq_true rfl)) ?_
    refine R_s (s_iconst dX11_wanted_24 kci_0) ?_
    refine R_s (s_istore dX11_wanted_25 (Nat.le_of_ble_eq_true rfl)) ?_
    refine R_s (s_iconst dX11_wanted_27 kci_0) ?_
    refine R_s (s_istore dX11_wanted_28 (Nat.le_of_ble_eq_true rfl)) ?_
    refine R_wk (okL_X11_wanted_30 ho4 ?_ 4000 (-1) 0 0) (le_o (le_o (le_s rfl (le_s rfl (le_s rfl (le_s rfl (le_s rfl le_n)))))))
    intro x4_17 x5_18
    refine R_s (s_iload_n dX11_wanted_68 rfl rfl) ?_
    refine R_ite (fun h19 => ?_) (fun h19 => ?_)
    · refine R_s (s_if_eq_f dX11_wanted_69 rfl (gx_bt h19)) ?_
      refine R_s (s_iload dX11_wanted_72 rfl) ?_
      refine R_s (s_goto dX11_wanted_74 rfl) ?_
      exact R_r (r := x5_18) (f_int (ty := .int) dX11_wanted_79 rfl rfl)
    · refine R_s (s_if_eq_t dX11_wanted_69 rfl (gx_bf h19)) ?_
      refine R_s (s_iload dX11_wanted_77 rfl) ?_
      exact R_r (r := x4_17) (f_int (ty := .int) dX11_wanted_79 rfl rfl)
  · refine R_s (s_if_ne_f dX11_wanted_5 rfl (gx_bf h2)) ?_
    refine R_s (s_bipush dX11_wanted_8 kcb_m2) ?_
    exact R_r (r := (-2)) (f_int (ty := .int) dX11_wanted_10 rfl rfl)

def L_X11_halves_43 (o4 : Nat) (k11 : Int32 → gx_M → Option (Int32 × gx_M)) : Nat → Int32 → Int32 → gx_M → Option (Int32 × gx_M)
  | 0, _, _, _ => none
  | n + 1, v4_8, v5_9, μ10 => if v5_9 < 0 then k11 v4_8 μ10 else gx_br (f_X11_bestTaking o4 v5_9 μ10) (fun (r13 : Int32) => gx_br (f_X11_marginOf o4 v5_9 r13 μ10) (fun (r14 : Int32) => gx_ck (gx_ix v5_9 41 = true) (gx_lt (gx_uI μ10 88 v5_9.toNatClampNeg r14) (fun (μ16 : gx_M) => L_X11_halves_43 o4 k11 n r13 (v5_9 + (-1)) μ16))))
def f_X11_halves (p1 : Int32) (p2 : Bool) (μ : gx_M) : Option (Int32 × gx_M) := gx_br (f_X11_hasStreet p1 μ) (fun (r1 : Bool) => if r1 = true then gx_ck (gx_ix p1 2 = true) (gx_lt (8 + 16 * p1.toNatClampNeg) (fun (o4 : Nat) => gx_ck (gx_ix (μ.1 o4 0) 41 = true) (gx_lt (gx_uI μ 88 (μ.1 o4 0).toNatClampNeg 0) (fun (μ6 : gx_M) => gx_lt ((μ6.1 o4 0) - 1) (fun (x7 : Int32) => L_X11_halves_43 o4 (fun (x4_19 : Int32) (μ20 : gx_M) => if p2 = true then some (x4_19, μ20) else some ((μ20.1 88 0), μ20)) 4000 0 x7 μ6))))) else some ((-1000), μ))
theorem okL_X11_halves_43 {E : gx_E} {l : Launch} {o4 : Nat} {p2 : Bool} (ho4 : gx_St o4) {k11 : Int32 → gx_M → Option (Int32 × gx_M)} (hk : ∀ (w17 : Int32) (μ18 : gx_M), GoW E l Y_X11_halves 2 gx_eI 79 [some (.ref (E.2.2.1 + 0)), none, some (.int (gx_bi p2)), none, some (.int w17)] [] μ18 (k11 w17 μ18)) : ∀ (n : Nat) (v4_8 : Int32) (v5_9 : Int32) (μ10 : gx_M), GoW E l Y_X11_halves 2 gx_eI 43 [some (.ref (E.2.2.1 + 0)), none, some (.int (gx_bi p2)), some (.ref (E.2.2.1 + o4)), some (.int v4_8), some (.int v5_9)] [] μ10 (L_X11_halves_43 o4 k11 n v4_8 v5_9 μ10) := by
  intro n
  induction n with
  | zero => intros; exact W_no
  | succ n ih =>
    intro v4_8 v5_9 μ10
    rw [L_X11_halves_43.eq_2]
    refine W_s (s_iload dX11_halves_43 rfl) ?_
    refine W_ite (fun h12 => ?_) (fun h12 => ?_)
    · refine W_s (s_if_lt_t dX11_halves_45 rfl h12) ?_
      exact W_wk (hk v4_8 μ10) (le_s rfl (le_o (le_s rfl (le_o (le_s rfl le_n)))))
    · refine W_s (s_if_lt_f dX11_halves_45 rfl h12) ?_
      refine W_s (s_aload_n dX11_halves_48 rfl rfl) ?_
      refine W_s (s_aload_n dX11_halves_49 rfl rfl) ?_
      refine W_s (s_iload dX11_halves_50 rfl) ?_
      refine W_br (ec := gx_eI) (fun r_ hr_ => s_callV (As := [.ref _, .int _]) dX11_halves_52 Lk_RX11_278 rfl g_0 (by decide) rfl (Nat.le_of_ble_eq_true rfl) (Nat.le_of_ble_eq_true rfl) (ev_X11_bestTaking o4 v5_9 ho4 μ10 hr_)) (fun r13 => ?_)
      refine W_s (s_istore dX11_halves_55 (Nat.le_of_ble_eq_true rfl)) ?_
      refine W_s (s_aload_n dX11_halves_57 rfl rfl) ?_
      refine W_s (gf_RX11_66 rfl dX11_halves_58) ?_
      refine W_s (s_iload dX11_halves_61 rfl) ?_
      refine W_s (s_aload_n dX11_halves_63 rfl rfl) ?_
      refine W_s (s_aload_n dX11_halves_64 rfl rfl) ?_
      refine W_s (s_iload dX11_halves_65 rfl) ?_
      refine W_s (s_iload dX11_halves_67 rfl) ?_
      refine W_br (ec := gx_eI) (fun r_ hr_ => s_callV (As := [.ref _, .int _, .int _]) dX11_halves_69 Lk_RX11_281 rfl g_0 (by decide) rfl (Nat.le_of_ble_eq_true rfl) (Nat.le_of_ble_eq_true rfl) (ev_X11_marginOf o4 v5_9 r13 ho4 μ10 hr_)) (fun r14 => ?_)
      refine W_ck (fun h15 => ?_)
      refine W_s (s_iast dX11_halves_72 g_88 (gx_ixv h15)) ?_
      refine W_letM (fun μ16 => ?_)
      refine W_s (s_iinc dX11_halves_73 rfl (kinc_m1 v5_9) (Nat.le_of_ble_eq_true rfl)) ?_
      refine W_s (s_goto dX11_halves_76 rfl) ?_
      exact W_wk (ih r13 (v5_9 + (-1)) μ16) (le_s rfl (le_o (le_s rfl (le_s rfl (le_s rfl (le_s rfl le_n))))))
theorem ev_X11_halves {E : gx_E} {l : Launch} (p1 : Int32) (p2 : Bool) (μ : gx_M) {r : Int32} {μ' : gx_M} (hr : f_X11_halves p1 p2 μ = some (r, μ')) : gEv E l 2 Y_X11_halves [.ref (E.2.2.1 + 0), .int p1, .int (gx_bi p2)] gx_G1 μ (gx_eI r) gx_G1 μ' := by
  refine W_ev (by decide) (Nat.le_of_ble_eq_true rfl) (em := gx_eI) (T := f_X11_halves p1 p2 μ) ?_ hr
  show GoW E l Y_X11_halves 2 gx_eI 0 (gx_el [.ref (E.2.2.1 + 0), .int p1, .int (gx_bi p2)]) [] μ (f_X11_halves p1 p2 μ)
  unfold f_X11_halves
  refine W_s (s_aload_n dX11_halves_0 rfl rfl) ?_
  refine W_s (s_iload_n dX11_halves_1 rfl rfl) ?_
  refine W_br (ec := gx_eB) (fun r_ hr_ => s_callV (As := [.int _]) dX11_halves_2 Lk_RX11_105 rfl g_0 (by decide) rfl (Nat.le_of_ble_eq_true rfl) (Nat.le_of_ble_eq_true rfl) (ev_X11_hasStreet p1 μ hr_)) (fun r1 => ?_)
  refine W_ite (fun h2 => ?_) (fun h2 => ?_)
  · refine W_s (s_if_ne_t dX11_halves_5 rfl (gx_bt h2)) ?_
    refine W_s (s_aload_n dX11_halves_12 rfl rfl) ?_
    refine W_s (gf_RX11_12 rfl dX11_halves_13) ?_
    refine W_s (gf_RX11_109 rfl dX11_halves_16) ?_
    refine W_s (s_iload_n dX11_halves_19 rfl rfl) ?_
    refine W_ck (fun h3 => ?_)
    refine W_s (aq_3 dX11_halves_20 (gx_ixv h3)) ?_
    refine W_letA (C := fun x => gx_St x) (aqh_3 (gx_ixv h3)) (fun o4 ho4 => ?_)
    refine W_s (s_astore_n dX11_halves_21 rfl (Nat.le_of_ble_eq_true rfl)) ?_
    refine W_s (s_iconst dX11_halves_22 kci_0) ?_
    refine W_s (s_istore dX11_halves_23 (Nat.le_of_ble_eq_true rfl)) ?_
    refine W_s (s_aload_n dX11_halves_25 rfl rfl) ?_
    refine W_s (gf_RX11_66 rfl dX11_halves_26) ?_
    refine W_s (s_aload_n dX11_halves_29 rfl rfl) ?_
    refine W_s (gfm_RX11_124 ho4 rfl dX11_halves_30) ?_
    refine W_s (s_iconst dX11_halves_33 kci_0) ?_
    refine W_ck (fun h5 => ?_)
    refine W_s (s_iast dX11_halves_34 g_88 (gx_ixv h5)) ?_
    refine W_letM (fun μ6 => ?_)
    refine W_s (s_aload_n dX11_halves_35 rfl rfl) ?_
    refine W_s (gfm_RX11_124 ho4 rfl dX11_halves_36) ?_
    refine W_s (s_iconst dX11_halves_39 kci_1) ?_
    refine W_s (s_isub dX11_halves_40) ?_
    refine W_letI (fun x7 => ?_)
    refine W_s (s_istore dX11_halves_41 (Nat.le_of_ble_eq_true rfl)) ?_
    refine W_wk (okL_X11_halves_43 ho4 ?_ 4000 0 x7 μ6) (le_s rfl (le_o (le_s rfl (le_s rfl (le_s rfl (le_s rfl le_n))))))
    intro x4_19 μ20
    refine W_s (s_iload_n dX11_halves_79 rfl rfl) ?_
    refine W_ite (fun h21 => ?_) (fun h21 => ?_)
    · refine W_s (s_if_eq_f dX11_halves_80 rfl (gx_bt h21)) ?_
      refine W_s (s_iload dX11_halves_83 rfl) ?_
      refine W_s (s_goto dX11_halves_85 rfl) ?_
      exact W_r (r := x4_19) (f_int (ty := .int) dX11_halves_94 rfl rfl)
    · refine W_s (s_if_eq_t dX11_halves_80 rfl (gx_bf h21)) ?_
      refine W_s (s_aload_n dX11_halves_88 rfl rfl) ?_
      refine W_s (gf_RX11_66 rfl dX11_halves_89) ?_
      refine W_s (s_iconst dX11_halves_92 kci_0) ?_
      refine W_s (s_ialdL (k := 0) dX11_halves_93 g_88 (gx_inl (by decide)) (by decide)) ?_
      exact W_r (r := (μ20.1 88 0)) (f_int (ty := .int) dX11_halves_94 rfl rfl)
  · refine W_s (s_if_ne_f dX11_halves_5 rfl (gx_bf h2)) ?_
    refine W_s (s_sipush dX11_halves_8 kcs_m1000) ?_
    exact W_r (r := (-1000)) (f_int (ty := .int) dX11_halves_11 rfl rfl)

def L_X11_free_35 (μ : gx_M) (o4 : Nat) (p2 : Int32) (k9 : Int32 → Int32 → Option Int32) : Nat → Int32 → Int32 → Int32 → Int32 → Option Int32
  | 0, _, _, _, _ => none
  | n + 1, v5_5, v6_6, v7_7, v8_8 => if (μ.1 o4 0) ≤ v8_8 then k9 v5_5 v6_6 else gx_ck (gx_ix v8_8 40 = true) (gx_lt (fun (j0_14 : Int32) => gx_lt (fun (j0_18 : Int32) (j1_19 : Int32) => L_X11_free_35 μ o4 p2 k9 n j0_18 j1_19 j0_14 (v8_8 + 1)) (fun J15 => if j0_14 ≤ v5_5 then J15 v5_5 v6_6 else gx_lt ((v8_8 - j0_14) + 1) (fun (x17 : Int32) => J15 j0_14 x17))) (fun J12 => if (μ.1 (o4 + 3) v8_8.toNatClampNeg) = p2 then J12 (v7_7 + 1) else J12 0))
def f_X11_free (p1 : Int32) (p2 : Int32) (p3 : Bool) (μ : gx_M) : Option Int32 := gx_br (f_X11_hasPerson p1 p2 μ) (fun (r1 : Bool) => if r1 = true then gx_ck (gx_ix p1 2 = true) (gx_lt (8 + 16 * p1.toNatClampNeg) (fun (o4 : Nat) => L_X11_free_35 μ o4 p2 (fun (x5_22 : Int32) (x6_23 : Int32) => if p3 = true then some x6_23 else some x5_22) 4000 0 (-1) 0 0)) else some (-2))
theorem okL_X11_free_35 {E : gx_E} {l : Launch} {μ : gx_M} {o4 : Nat} {p2 : Int32} {p3 : Bool} (ho4 : gx_St o4) {k9 : Int32 → Int32 → Option Int32} (hk : ∀ (w20 : Int32) (w21 : Int32), GoR E l Y_X11_free 2 gx_eI 93 [none, none, none, some (.int (gx_bi p3)), none, some (.int w20), some (.int w21)] [] μ (k9 w20 w21)) : ∀ (n : Nat) (v5_5 : Int32) (v6_6 : Int32) (v7_7 : Int32) (v8_8 : Int32), GoR E l Y_X11_free 2 gx_eI 35 [none, none, some (.int p2), some (.int (gx_bi p3)), some (.ref (E.2.2.1 + o4)), some (.int v5_5), some (.int v6_6), some (.int v7_7), some (.int v8_8)] [] μ (L_X11_free_35 μ o4 p2 k9 n v5_5 v6_6 v7_7 v8_8) := by
  intro n
  induction n with
  | zero => intros; exact R_no
  | succ n ih =>
    intro v5_5 v6_6 v7_7 v8_8
    rw [L_X11_free_35.eq_2]
    refine R_s (s_iload dX11_free_35 rfl) ?_
    refine R_s (s_aload dX11_free_37 rfl) ?_
    refine R_s (gfm_RX11_124 ho4 rfl dX11_free_39) ?_
    refine R_ite (fun h10 => ?_) (fun h10 => ?_)
    · refine R_s (s_icmp_ge_t dX11_free_42 rfl h10) ?_
      exact R_wk (hk v5_5 v6_6) (le_o (le_o (le_o (le_s rfl (le_o (le_s rfl (le_s rfl le_n)))))))
    · refine R_s (s_icmp_ge_f dX11_free_42 rfl h10) ?_
      refine R_s (s_aload dX11_free_45 rfl) ?_
      refine R_s (gfm_RX11_158 ho4 rfl dX11_free_47) ?_
      refine R_s (s_iload dX11_free_50 rfl) ?_
      refine R_ck (fun h11 => ?_)
      refine R_s (s_iald dX11_free_52 (St_3 ho4) (gx_ixv h11)) ?_
      refine R_s (s_iload_n dX11_free_53 rfl rfl) ?_
      refine R_fun (fun J => ∀ (j0_14 : Int32), GoR E l Y_X11_free 2 gx_eI 65 [none, none, some (.int p2), some (.int (gx_bi p3)), some (.ref (E.2.2.1 + o4)), some (.int v5_5), some (.int v6_6), none, some (.int v8_8)] [.int j0_14] μ (J j0_14)) ?_ (fun J12 hJ12 => ?_)
      · intro j0_14
        refine R_s (s_istore dX11_free_65 (Nat.le_of_ble_eq_true rfl)) ?_
        refine R_s (s_iload dX11_free_67 rfl) ?_
        refine R_s (s_iload dX11_free_69 rfl) ?_
        refine R_fun (fun J => ∀ (j0_18 : Int32) (j1_19 : Int32), GoR E l Y_X11_free 2 gx_eI 87 [none, none, some (.int p2), some (.int (gx_bi p3)), some (.ref (E.2.2.1 + o4)), some (.int j0_18), some (.int j1_19), some (.int j0_14), some (.int v8_8)] [] μ (J j0_18 j1_19)) ?_ (fun J15 hJ15 => ?_)
        · intro j0_18 j1_19
          refine R_s (s_iinc dX11_free_87 rfl (kinc_1 v8_8) (Nat.le_of_ble_eq_true rfl)) ?_
          refine R_s (s_goto dX11_free_90 rfl) ?_
          exact R_wk (ih j0_18 j1_19 j0_14 (v8_8 + 1)) (le_o (le_o (le_s rfl (le_s rfl (le_s rfl (le_s rfl (le_s rfl (le_s rfl (le_s rfl le_n)))))))))
        · skip
          refine R_ite (fun h16 => ?_) (fun h16 => ?_)
          · refine R_s (s_icmp_le_t dX11_free_71 rfl h16) ?_
            exact R_wk (hJ15 v5_5 v6_6) (le_o (le_o (le_s rfl (le_s rfl (le_s rfl (le_s rfl (le_s rfl (le_s rfl (le_s rfl le_n)))))))))
          · refine R_s (s_icmp_le_f dX11_free_71 rfl h16) ?_
            refine R_s (s_iload dX11_free_74 rfl) ?_
            refine R_s (s_istore dX11_free_76 (Nat.le_of_ble_eq_true rfl)) ?_
            refine R_s (s_iload dX11_free_78 rfl) ?_
            refine R_s (s_iload dX11_free_80 rfl) ?_
            refine R_s (s_isub dX11_free_82) ?_
            refine R_s (s_iconst dX11_free_83 kci_1) ?_
            refine R_s (s_iadd dX11_free_84) ?_
            refine R_letI (fun x17 => ?_)
            refine R_s (s_istore dX11_free_85 (Nat.le_of_ble_eq_true rfl)) ?_
            exact R_wk (hJ15 j0_14 x17) (le_o (le_o (le_s rfl (le_s rfl (le_s rfl (le_s rfl (le_s rfl (le_s rfl (le_s rfl le_n)))))))))
      · skip
        refine R_ite (fun h13 => ?_) (fun h13 => ?_)
        · refine R_s (s_icmp_ne_f dX11_free_54 rfl h13) ?_
          refine R_s (s_iload dX11_free_57 rfl) ?_
          refine R_s (s_iconst dX11_free_59 kci_1) ?_
          refine R_s (s_iadd dX11_free_60) ?_
          refine R_s (s_goto dX11_free_61 rfl) ?_
          exact R_wk (hJ12 (v7_7 + 1)) (le_o (le_o (le_s rfl (le_s rfl (le_s rfl (le_s rfl (le_s rfl (le_o (le_s rfl le_n)))))))))
        · refine R_s (s_icmp_ne_t dX11_free_54 rfl h13) ?_
          refine R_s (s_iconst dX11_free_64 kci_0) ?_
          exact R_wk (hJ12 0) (le_o (le_o (le_s rfl (le_s rfl (le_s rfl (le_s rfl (le_s rfl (le_o (le_s rfl le_n)))))))))
theorem ev_X11_free {E : gx_E} {l : Launch} (p1 : Int32) (p2 : Int32) (p3 : Bool) (μ : gx_M) {r : Int32} (hr : f_X11_free p1 p2 p3 μ = some r) : gEv E l 2 Y_X11_free [.ref (E.2.2.1 + 0), .int p1, .int p2, .int (gx_bi p3)] gx_G1 μ (gx_eI r) gx_G1 μ := by
  refine R_ev (by decide) (Nat.le_of_ble_eq_true rfl) (em := gx_eI) (T := f_X11_free p1 p2 p3 μ) ?_ hr
  show GoR E l Y_X11_free 2 gx_eI 0 (gx_el [.ref (E.2.2.1 + 0), .int p1, .int p2, .int (gx_bi p3)]) [] μ (f_X11_free p1 p2 p3 μ)
  unfold f_X11_free
  refine R_s (s_aload_n dX11_free_0 rfl rfl) ?_
  refine R_s (s_iload_n dX11_free_1 rfl rfl) ?_
  refine R_s (s_iload_n dX11_free_2 rfl rfl) ?_
  refine R_br (ec := gx_eB) (fun r_ hr_ => s_callV (As := [.int _, .int _]) dX11_free_3 Lk_RX11_118 rfl g_0 (by decide) rfl (Nat.le_of_ble_eq_true rfl) (Nat.le_of_ble_eq_true rfl) (ev_X11_hasPerson p1 p2 μ hr_)) (fun r1 => ?_)
  refine R_ite (fun h2 => ?_) (fun h2 => ?_)
  · refine R_s (s_if_ne_t dX11_free_6 rfl (gx_bt h2)) ?_
    refine R_s (s_aload_n dX11_free_12 rfl rfl) ?_
    refine R_s (gf_RX11_12 rfl dX11_free_13) ?_
    refine R_s (gf_RX11_109 rfl dX11_free_16) ?_
    refine R_s (s_iload_n dX11_free_19 rfl rfl) ?_
    refine R_ck (fun h3 => ?_)
    refine R_s (aq_3 dX11_free_20 (gx_ixv h3)) ?_
    refine R_letA (C := fun x => gx_St x) (aqh_3 (gx_ixv h3)) (fun o4 ho4 => ?_)
    refine R_s (s_astore dX11_free_21 (Nat.le_of_ble_eq_true rfl)) ?_
    refine R_s (s_iconst dX11_free_23 kci_0) ?_
    refine R_s (s_istore dX11_free_24 (Nat.le_of_ble_eq_true rfl)) ?_
    refine R_s (s_iconst dX11_free_26 kci_m1) ?_
    refine R_s (s_istore dX11_free_27 (Nat.le_of_ble_eq_true rfl)) ?_
    refine R_s (s_iconst dX11_free_29 kci_0) ?_
    refine R_s (s_istore dX11_free_30 (Nat.le_of_ble_eq_true rfl)) ?_
    refine R_s (s_iconst dX11_free_32 kci_0) ?_
    refine R_s (s_istore dX11_free_33 (Nat.le_of_ble_eq_true rfl)) ?_
    refine R_wk (okL_X11_free_35 ho4 ?_ 4000 0 (-1) 0 0) (le_o (le_o (le_s rfl (le_s rfl (le_s rfl (le_s rfl (le_s rfl (le_s rfl (le_s rfl le_n)))))))))
    intro x5_22 x6_23
    refine R_s (s_iload_n dX11_free_93 rfl rfl) ?_
    refine R_ite (fun h24 => ?_) (fun h24 => ?_)
    · refine R_s (s_if_eq_f dX11_free_94 rfl (gx_bt h24)) ?_
      refine R_s (s_iload dX11_free_97 rfl) ?_
      refine R_s (s_goto dX11_free_99 rfl) ?_
      exact R_r (r := x6_23) (f_int (ty := .int) dX11_free_104 rfl rfl)
    · refine R_s (s_if_eq_t dX11_free_94 rfl (gx_bf h24)) ?_
      refine R_s (s_iload dX11_free_102 rfl) ?_
      exact R_r (r := x5_22) (f_int (ty := .int) dX11_free_104 rfl rfl)
  · refine R_s (s_if_ne_f dX11_free_6 rfl (gx_bf h2)) ?_
    refine R_s (s_bipush dX11_free_9 kcb_m2) ?_
    exact R_r (r := (-2)) (f_int (ty := .int) dX11_free_11 rfl rfl)

def f_X11_tin (p1 : Int32) (p2 : Int32) (p3 : Int32) (p4 : Bool) (μ : gx_M) : Option Int64 := if (f_X11_isAmong p1 0 10) = true then if (f_X11_isAmong p2 0 10) = true then if (f_X11_isAmong p3 0 11) = true then gx_br (f_X11_waysLeft p1 p2 p3 μ) (fun (r4 : Int64) => gx_br (f_X11_power 10 p1 μ) (fun (r5 : Int64) => gx_br (f_X11_lowest r4 r5 p4 μ) (fun (r6 : Int64) => some r6))) else some (-1) else some (-1) else some (-1)
theorem ev_X11_tin {E : gx_E} {l : Launch} (p1 : Int32) (p2 : Int32) (p3 : Int32) (p4 : Bool) (μ : gx_M) {r : Int64} (hr : f_X11_tin p1 p2 p3 p4 μ = some r) : gEv E l 2 Y_X11_tin [.ref (E.2.2.1 + 0), .int p1, .int p2, .int p3, .int (gx_bi p4)] gx_G1 μ (gx_eL r) gx_G1 μ := by
  refine R_ev (by decide) (Nat.le_of_ble_eq_true rfl) (em := gx_eL) (T := f_X11_tin p1 p2 p3 p4 μ) ?_ hr
  show GoR E l Y_X11_tin 2 gx_eL 0 (gx_el [.ref (E.2.2.1 + 0), .int p1, .int p2, .int p3, .int (gx_bi p4)]) [] μ (f_X11_tin p1 p2 p3 p4 μ)
  unfold f_X11_tin
  refine R_s (s_iload_n dX11_tin_0 rfl rfl) ?_
  refine R_s (s_iconst dX11_tin_1 kci_0) ?_
  refine R_s (s_bipush dX11_tin_2 kcb_10) ?_
  refine R_s (s_callS (As := [.int _, .int _, .int _]) dX11_tin_4 Lk_RX11_137 rfl (Nat.le_of_ble_eq_true rfl) (Nat.le_of_ble_eq_true rfl) (ev_X11_isAmong p1 0 10 μ)) ?_
  refine R_ite (fun h1 => ?_) (fun h1 => ?_)
  · refine R_s (s_if_eq_f dX11_tin_7 rfl (gx_bt h1)) ?_
    refine R_s (s_iload_n dX11_tin_10 rfl rfl) ?_
    refine R_s (s_iconst dX11_tin_11 kci_0) ?_
    refine R_s (s_bipush dX11_tin_12 kcb_10) ?_
    refine R_s (s_callS (As := [.int _, .int _, .int _]) dX11_tin_14 Lk_RX11_137 rfl (Nat.le_of_ble_eq_true rfl) (Nat.le_of_ble_eq_true rfl) (ev_X11_isAmong p2 0 10 μ)) ?_
    refine R_ite (fun h2 => ?_) (fun h2 => ?_)
    · refine R_s (s_if_eq_f dX11_tin_17 rfl (gx_bt h2)) ?_
      refine R_s (s_iload_n dX11_tin_20 rfl rfl) ?_
      refine R_s (s_iconst dX11_tin_21 kci_0) ?_
      refine R_s (s_bipush dX11_tin_22 kcb_11) ?_
      refine R_s (s_callS (As := [.int _, .int _, .int _]) dX11_tin_24 Lk_RX11_137 rfl (Nat.le_of_ble_eq_true rfl) (Nat.le_of_ble_eq_true rfl) (ev_X11_isAmong p3 0 11 μ)) ?_
      refine R_ite (fun h3 => ?_) (fun h3 => ?_)
      · refine R_s (s_if_ne_t dX11_tin_27 rfl (gx_bt h3)) ?_
        refine R_s (s_iload_n dX11_tin_34 rfl rfl) ?_
        refine R_s (s_iload_n dX11_tin_35 rfl rfl) ?_
        refine R_s (s_iload_n dX11_tin_36 rfl rfl) ?_
        refine R_br (ec := gx_eL) (fun r_ hr_ => s_callS (As := [.int _, .int _, .int _]) dX11_tin_37 Lk_RX11_293 rfl (Nat.le_of_ble_eq_true rfl) (Nat.le_of_ble_eq_true rfl) (ev_X11_waysLeft p1 p2 p3 μ hr_)) (fun r4 => ?_)
        refine R_s (s_ldc2 dX11_tin_40 kw_RX11_297) ?_
        refine R_s (s_iload_n dX11_tin_43 rfl rfl) ?_
        refine R_br (ec := gx_eL) (fun r_ hr_ => s_callS (As := [.long _, .int _]) dX11_tin_44 Lk_RX11_299 rfl (Nat.le_of_ble_eq_true rfl) (Nat.le_of_ble_eq_true rfl) (ev_X11_power 10 p1 μ hr_)) (fun r5 => ?_)
        refine R_s (s_iload dX11_tin_47 rfl) ?_
        refine R_br (ec := gx_eL) (fun r_ hr_ => s_callS (As := [.long _, .long _, .int _]) dX11_tin_49 Lk_RX11_303 rfl (Nat.le_of_ble_eq_true rfl) (Nat.le_of_ble_eq_true rfl) (ev_X11_lowest r4 r5 p4 μ hr_)) (fun r6 => ?_)
        exact R_r (r := r6) (f_long dX11_tin_52 rfl)
      · refine R_s (s_if_ne_f dX11_tin_27 rfl (gx_bf h3)) ?_
        refine R_s (s_ldc2 dX11_tin_30 kw_RX11_250) ?_
        exact R_r (r := (-1)) (f_long dX11_tin_33 rfl)
    · refine R_s (s_if_eq_t dX11_tin_17 rfl (gx_bf h2)) ?_
      refine R_s (s_ldc2 dX11_tin_30 kw_RX11_250) ?_
      exact R_r (r := (-1)) (f_long dX11_tin_33 rfl)
  · refine R_s (s_if_eq_t dX11_tin_7 rfl (gx_bf h1)) ?_
    refine R_s (s_ldc2 dX11_tin_30 kw_RX11_250) ?_
    exact R_r (r := (-1)) (f_long dX11_tin_33 rfl)

def L_X11_enough_24 (p1 : Int32) (p2 : Int32) (μ : gx_M) (k4 : Option Int32) : Nat → Int32 → Option Int32
  | 0, _ => none
  | n + 1, v3_3 => if 9 < v3_3 then k4 else gx_br (f_X11_waysLeft v3_3 p1 p2 μ) (fun (r6 : Int64) => gx_br (f_X11_power 10 v3_3 μ) (fun (r7 : Int64) => if (r6 * 10) < (r7 * 9) then L_X11_enough_24 p1 p2 μ k4 n (v3_3 + 1) else some v3_3))
def f_X11_enough (p1 : Int32) (p2 : Int32) (μ : gx_M) : Option Int32 := if (f_X11_isAmong p1 1 9) = true then if (f_X11_isAmong p2 0 11) = true then L_X11_enough_24 p1 p2 μ (some (-1)) 4000 p1 else some (-1) else some (-1)
theorem okL_X11_enough_24 {E : gx_E} {l : Launch} {p1 : Int32} {p2 : Int32} {μ : gx_M} {k4 : Option Int32} (hk : GoR E l Y_X11_enough 2 gx_eI 63 [] [] μ (k4)) : ∀ (n : Nat) (v3_3 : Int32), GoR E l Y_X11_enough 2 gx_eI 24 [none, some (.int p1), some (.int p2), some (.int v3_3)] [] μ (L_X11_enough_24 p1 p2 μ k4 n v3_3) := by
  intro n
  induction n with
  | zero => intros; exact R_no
  | succ n ih =>
    intro v3_3
    rw [L_X11_enough_24.eq_2]
    refine R_s (s_iload_n dX11_enough_24 rfl rfl) ?_
    refine R_s (s_bipush dX11_enough_25 kcb_9) ?_
    refine R_ite (fun h5 => ?_) (fun h5 => ?_)
    · refine R_s (s_icmp_gt_t dX11_enough_27 rfl h5) ?_
      exact R_wk (hk) le_n
    · refine R_s (s_icmp_gt_f dX11_enough_27 rfl h5) ?_
      refine R_s (s_iload_n dX11_enough_30 rfl rfl) ?_
      refine R_s (s_iload_n dX11_enough_31 rfl rfl) ?_
      refine R_s (s_iload_n dX11_enough_32 rfl rfl) ?_
      refine R_br (ec := gx_eL) (fun r_ hr_ => s_callS (As := [.int _, .int _, .int _]) dX11_enough_33 Lk_RX11_293 rfl (Nat.le_of_ble_eq_true rfl) (Nat.le_of_ble_eq_true rfl) (ev_X11_waysLeft v3_3 p1 p2 μ hr_)) (fun r6 => ?_)
      refine R_s (s_ldc2 dX11_enough_36 kw_RX11_297) ?_
      refine R_s (s_lmul dX11_enough_39) ?_
      refine R_s (s_ldc2 dX11_enough_40 kw_RX11_297) ?_
      refine R_s (s_iload_n dX11_enough_43 rfl rfl) ?_
      refine R_br (ec := gx_eL) (fun r_ hr_ => s_callS (As := [.long _, .int _]) dX11_enough_44 Lk_RX11_299 rfl (Nat.le_of_ble_eq_true rfl) (Nat.le_of_ble_eq_true rfl) (ev_X11_power 10 v3_3 μ hr_)) (fun r7 => ?_)
      refine R_s (s_ldc2 dX11_enough_47 kw_RX11_307) ?_
      refine R_s (s_lmul dX11_enough_50) ?_
      refine R_s (s_lcmp dX11_enough_51) ?_
      refine R_ite (fun h8 => ?_) (fun h8 => ?_)
      · refine R_s (s_if_lt_t dX11_enough_52 rfl ((lgc_lt (r6 * 10) (r7 * 9)).mpr h8)) ?_
        refine R_s (s_iinc dX11_enough_57 rfl (kinc_1 v3_3) (Nat.le_of_ble_eq_true rfl)) ?_
        refine R_s (s_goto dX11_enough_60 rfl) ?_
        exact R_wk (ih (v3_3 + 1)) (le_o (le_s rfl (le_s rfl (le_s rfl le_n))))
      · refine R_s (s_if_lt_f dX11_enough_52 rfl (fun hc => h8 ((lgc_lt (r6 * 10) (r7 * 9)).mp hc))) ?_
        refine R_s (s_iload_n dX11_enough_55 rfl rfl) ?_
        exact R_r (r := v3_3) (f_int (ty := .int) dX11_enough_56 rfl rfl)
theorem ev_X11_enough {E : gx_E} {l : Launch} (p1 : Int32) (p2 : Int32) (μ : gx_M) {r : Int32} (hr : f_X11_enough p1 p2 μ = some r) : gEv E l 2 Y_X11_enough [.ref (E.2.2.1 + 0), .int p1, .int p2] gx_G1 μ (gx_eI r) gx_G1 μ := by
  refine R_ev (by decide) (Nat.le_of_ble_eq_true rfl) (em := gx_eI) (T := f_X11_enough p1 p2 μ) ?_ hr
  show GoR E l Y_X11_enough 2 gx_eI 0 (gx_el [.ref (E.2.2.1 + 0), .int p1, .int p2]) [] μ (f_X11_enough p1 p2 μ)
  unfold f_X11_enough
  refine R_s (s_iload_n dX11_enough_0 rfl rfl) ?_
  refine R_s (s_iconst dX11_enough_1 kci_1) ?_
  refine R_s (s_bipush dX11_enough_2 kcb_9) ?_
  refine R_s (s_callS (As := [.int _, .int _, .int _]) dX11_enough_4 Lk_RX11_137 rfl (Nat.le_of_ble_eq_true rfl) (Nat.le_of_ble_eq_true rfl) (ev_X11_isAmong p1 1 9 μ)) ?_
  refine R_ite (fun h1 => ?_) (fun h1 => ?_)
  · refine R_s (s_if_eq_f dX11_enough_7 rfl (gx_bt h1)) ?_
    refine R_s (s_iload_n dX11_enough_10 rfl rfl) ?_
    refine R_s (s_iconst dX11_enough_11 kci_0) ?_
    refine R_s (s_bipush dX11_enough_12 kcb_11) ?_
    refine R_s (s_callS (As := [.int _, .int _, .int _]) dX11_enough_14 Lk_RX11_137 rfl (Nat.le_of_ble_eq_true rfl) (Nat.le_of_ble_eq_true rfl) (ev_X11_isAmong p2 0 11 μ)) ?_
    refine R_ite (fun h2 => ?_) (fun h2 => ?_)
    · refine R_s (s_if_ne_t dX11_enough_17 rfl (gx_bt h2)) ?_
      refine R_s (s_iload_n dX11_enough_22 rfl rfl) ?_
      refine R_s (s_istore_n dX11_enough_23 rfl (Nat.le_of_ble_eq_true rfl)) ?_
      refine R_wk (okL_X11_enough_24 ?_ 4000 p1) (le_o (le_s rfl (le_s rfl (le_s rfl le_n))))
      refine R_s (s_iconst dX11_enough_63 kci_m1) ?_
      exact R_r (r := (-1)) (f_int (ty := .int) dX11_enough_64 rfl rfl)
    · refine R_s (s_if_ne_f dX11_enough_17 rfl (gx_bf h2)) ?_
      refine R_s (s_iconst dX11_enough_20 kci_m1) ?_
      exact R_r (r := (-1)) (f_int (ty := .int) dX11_enough_21 rfl rfl)
  · refine R_s (s_if_eq_t dX11_enough_7 rfl (gx_bf h1)) ?_
    refine R_s (s_iconst dX11_enough_20 kci_m1) ?_
    exact R_r (r := (-1)) (f_int (ty := .int) dX11_enough_21 rfl rfl)

def L_X11_waits_28 (p1 : Int32) (μ : gx_M) (k5 : Int64 → Option Int64) : Nat → Int64 → Int32 → Option Int64
  | 0, _, _ => none
  | n + 1, v3_3, v5_4 => if (p1 - 1) ≤ v5_4 then k5 v3_3 else gx_br (f_X11_power 10 v5_4 μ) (fun (r7 : Int64) => gx_br (f_X11_dayBefore v3_3 r7 μ) (fun (r8 : Int64) => L_X11_waits_28 p1 μ k5 n r8 (v5_4 + 1)))
def f_X11_waits (p1 : Int32) (p2 : Int32) (μ : gx_M) : Option Int64 := if (f_X11_isAmong p1 1 9) = true then if (f_X11_isAmong p2 0 3) = true then L_X11_waits_28 p1 μ (fun (x3_10 : Int64) => gx_br (f_X11_power 10 (p1 - 1) μ) (fun (r11 : Int64) => if p2 = 2 then gx_br (f_X11_leastTaken x3_10 r11 μ) (fun (r18 : Int32) => some ((r18 : Int32).toInt64)) else gx_br (f_X11_dayBefore x3_10 r11 μ) (fun (r13 : Int64) => gx_lt (fun (j0_16 : Bool) => gx_br (f_X11_lowest r13 (r11 * 10) j0_16 μ) (fun (r17 : Int64) => some r17)) (fun J14 => if p2 = 1 then J14 true else J14 false)))) 4000 0 0 else some (-1) else some (-1)
theorem okL_X11_waits_28 {E : gx_E} {l : Launch} {p1 : Int32} {μ : gx_M} {p2 : Int32} {k5 : Int64 → Option Int64} (hk : ∀ (w9 : Int64), GoR E l Y_X11_waits 2 gx_eL 55 [none, some (.int p1), some (.int p2), some (.long w9)] [] μ (k5 w9)) : ∀ (n : Nat) (v3_3 : Int64) (v5_4 : Int32), GoR E l Y_X11_waits 2 gx_eL 28 [none, some (.int p1), some (.int p2), some (.long v3_3), none, some (.int v5_4)] [] μ (L_X11_waits_28 p1 μ k5 n v3_3 v5_4) := by
  intro n
  induction n with
  | zero => intros; exact R_no
  | succ n ih =>
    intro v3_3 v5_4
    rw [L_X11_waits_28.eq_2]
    refine R_s (s_iload dX11_waits_28 rfl) ?_
    refine R_s (s_iload_n dX11_waits_30 rfl rfl) ?_
    refine R_s (s_iconst dX11_waits_31 kci_1) ?_
    refine R_s (s_isub dX11_waits_32) ?_
    refine R_ite (fun h6 => ?_) (fun h6 => ?_)
    · refine R_s (s_icmp_ge_t dX11_waits_33 rfl h6) ?_
      exact R_wk (hk v3_3) (le_o (le_s rfl (le_s rfl (le_s rfl le_n))))
    · refine R_s (s_icmp_ge_f dX11_waits_33 rfl h6) ?_
      refine R_s (s_lload_n dX11_waits_36 rfl rfl) ?_
      refine R_s (s_ldc2 dX11_waits_37 kw_RX11_297) ?_
      refine R_s (s_iload dX11_waits_40 rfl) ?_
      refine R_br (ec := gx_eL) (fun r_ hr_ => s_callS (As := [.long _, .int _]) dX11_waits_42 Lk_RX11_299 rfl (Nat.le_of_ble_eq_true rfl) (Nat.le_of_ble_eq_true rfl) (ev_X11_power 10 v5_4 μ hr_)) (fun r7 => ?_)
      refine R_br (ec := gx_eL) (fun r_ hr_ => s_callS (As := [.long _, .long _]) dX11_waits_45 Lk_RX11_317 rfl (Nat.le_of_ble_eq_true rfl) (Nat.le_of_ble_eq_true rfl) (ev_X11_dayBefore v3_3 r7 μ hr_)) (fun r8 => ?_)
      refine R_s (s_lstore_n dX11_waits_48 rfl (Nat.le_of_ble_eq_true rfl)) ?_
      refine R_s (s_iinc dX11_waits_49 rfl (kinc_1 v5_4) (Nat.le_of_ble_eq_true rfl)) ?_
      refine R_s (s_goto dX11_waits_52 rfl) ?_
      exact R_wk (ih r8 (v5_4 + 1)) (le_o (le_s rfl (le_s rfl (le_s rfl (le_o (le_s rfl le_n))))))
theorem ev_X11_waits {E : gx_E} {l : Launch} (p1 : Int32) (p2 : Int32) (μ : gx_M) {r : Int64} (hr : f_X11_waits p1 p2 μ = some r) : gEv E l 2 Y_X11_waits [.ref (E.2.2.1 + 0), .int p1, .int p2] gx_G1 μ (gx_eL r) gx_G1 μ := by
  refine R_ev (by decide) (Nat.le_of_ble_eq_true rfl) (em := gx_eL) (T := f_X11_waits p1 p2 μ) ?_ hr
  show GoR E l Y_X11_waits 2 gx_eL 0 (gx_el [.ref (E.2.2.1 + 0), .int p1, .int p2]) [] μ (f_X11_waits p1 p2 μ)
  unfold f_X11_waits
  refine R_s (s_iload_n dX11_waits_0 rfl rfl) ?_
  refine R_s (s_iconst dX11_waits_1 kci_1) ?_
  refine R_s (s_bipush dX11_waits_2 kcb_9) ?_
  refine R_s (s_callS (As := [.int _, .int _, .int _]) dX11_waits_4 Lk_RX11_137 rfl (Nat.le_of_ble_eq_true rfl) (Nat.le_of_ble_eq_true rfl) (ev_X11_isAmong p1 1 9 μ)) ?_
  refine R_ite (fun h1 => ?_) (fun h1 => ?_)
  · refine R_s (s_if_eq_f dX11_waits_7 rfl (gx_bt h1)) ?_
    refine R_s (s_iload_n dX11_waits_10 rfl rfl) ?_
    refine R_s (s_iconst dX11_waits_11 kci_0) ?_
    refine R_s (s_iconst dX11_waits_12 kci_3) ?_
    refine R_s (s_callS (As := [.int _, .int _, .int _]) dX11_waits_13 Lk_RX11_137 rfl (Nat.le_of_ble_eq_true rfl) (Nat.le_of_ble_eq_true rfl) (ev_X11_isAmong p2 0 3 μ)) ?_
    refine R_ite (fun h2 => ?_) (fun h2 => ?_)
    · refine R_s (s_if_ne_t dX11_waits_16 rfl (gx_bt h2)) ?_
      refine R_s (s_lconst dX11_waits_23 kcl_0) ?_
      refine R_s (s_lstore_n dX11_waits_24 rfl (Nat.le_of_ble_eq_true rfl)) ?_
      refine R_s (s_iconst dX11_waits_25 kci_0) ?_
      refine R_s (s_istore dX11_waits_26 (Nat.le_of_ble_eq_true rfl)) ?_
      refine R_wk (okL_X11_waits_28 ?_ 4000 0 0) (le_o (le_s rfl (le_s rfl (le_s rfl (le_o (le_s rfl le_n))))))
      intro x3_10
      refine R_s (s_ldc2 dX11_waits_55 kw_RX11_297) ?_
      refine R_s (s_iload_n dX11_waits_58 rfl rfl) ?_
      refine R_s (s_iconst dX11_waits_59 kci_1) ?_
      refine R_s (s_isub dX11_waits_60) ?_
      refine R_br (ec := gx_eL) (fun r_ hr_ => s_callS (As := [.long _, .int _]) dX11_waits_61 Lk_RX11_299 rfl (Nat.le_of_ble_eq_true rfl) (Nat.le_of_ble_eq_true rfl) (ev_X11_power 10 (p1 - 1) μ hr_)) (fun r11 => ?_)
      refine R_s (s_lstore dX11_waits_64 (Nat.le_of_ble_eq_true rfl)) ?_
      refine R_s (s_iload_n dX11_waits_66 rfl rfl) ?_
      refine R_s (s_iconst dX11_waits_67 kci_2) ?_
      refine R_ite (fun h12 => ?_) (fun h12 => ?_)
      · refine R_s (s_icmp_ne_f dX11_waits_68 rfl h12) ?_
        refine R_s (s_lload_n dX11_waits_71 rfl rfl) ?_
        refine R_s (s_lload dX11_waits_72 rfl) ?_
        refine R_br (ec := gx_eI) (fun r_ hr_ => s_callS (As := [.long _, .long _]) dX11_waits_74 Lk_RX11_320 rfl (Nat.le_of_ble_eq_true rfl) (Nat.le_of_ble_eq_true rfl) (ev_X11_leastTaken x3_10 r11 μ hr_)) (fun r18 => ?_)
        refine R_s (s_i2l dX11_waits_77) ?_
        exact R_r (r := (r18 : Int32).toInt64) (f_long dX11_waits_78 rfl)
      · refine R_s (s_icmp_ne_t dX11_waits_68 rfl h12) ?_
        refine R_s (s_lload_n dX11_waits_79 rfl rfl) ?_
        refine R_s (s_lload dX11_waits_80 rfl) ?_
        refine R_br (ec := gx_eL) (fun r_ hr_ => s_callS (As := [.long _, .long _]) dX11_waits_82 Lk_RX11_317 rfl (Nat.le_of_ble_eq_true rfl) (Nat.le_of_ble_eq_true rfl) (ev_X11_dayBefore x3_10 r11 μ hr_)) (fun r13 => ?_)
        refine R_s (s_lload dX11_waits_85 rfl) ?_
        refine R_s (s_ldc2 dX11_waits_87 kw_RX11_297) ?_
        refine R_s (s_lmul dX11_waits_90) ?_
        refine R_s (s_iload_n dX11_waits_91 rfl rfl) ?_
        refine R_s (s_iconst dX11_waits_92 kci_1) ?_
        refine R_fun (fun J => ∀ (j0_16 : Bool), GoR E l Y_X11_waits 2 gx_eL 101 [] [.int (gx_bi j0_16), .long (r11 * 10), .long r13] μ (J j0_16)) ?_ (fun J14 hJ14 => ?_)
        · intro j0_16
          refine R_br (ec := gx_eL) (fun r_ hr_ => s_callS (As := [.long _, .long _, .int _]) dX11_waits_101 Lk_RX11_303 rfl (Nat.le_of_ble_eq_true rfl) (Nat.le_of_ble_eq_true rfl) (ev_X11_lowest r13 (r11 * 10) j0_16 μ hr_)) (fun r17 => ?_)
          exact R_r (r := r17) (f_long dX11_waits_104 rfl)
        · skip
          refine R_ite (fun h15 => ?_) (fun h15 => ?_)
          · refine R_s (s_icmp_ne_f dX11_waits_93 rfl h15) ?_
            refine R_s (s_iconst dX11_waits_96 kci_1) ?_
            refine R_s (s_goto dX11_waits_97 rfl) ?_
            exact R_wk (hJ14 true) le_n
          · refine R_s (s_icmp_ne_t dX11_waits_93 rfl h15) ?_
            refine R_s (s_iconst dX11_waits_100 kci_0) ?_
            exact R_wk (hJ14 false) le_n
    · refine R_s (s_if_ne_f dX11_waits_16 rfl (gx_bf h2)) ?_
      refine R_s (s_ldc2 dX11_waits_19 kw_RX11_250) ?_
      exact R_r (r := (-1)) (f_long dX11_waits_22 rfl)
  · refine R_s (s_if_eq_t dX11_waits_7 rfl (gx_bf h1)) ?_
    refine R_s (s_ldc2 dX11_waits_19 kw_RX11_250) ?_
    exact R_r (r := (-1)) (f_long dX11_waits_22 rfl)

def f_J1_charAt_3b067 (i0 : Nat) (p1 : Int32) (μ : gx_M) : Option Int32 := gx_br (f_J0_checkIndex_df160 p1 (gx_sl i0) μ) (fun (r1 : Unit) => gx_ck (gx_six i0 p1 = true) (some ((gx_sc i0 p1.toNatClampNeg) &&& 255)))
theorem ev_J1_charAt_3b067 {E : gx_E} {l : Launch} {fk : Nat} {uq : Option Nat} {adK adV : Nat → Nat} (hE : gx_EX E fk uq adK adV) (i0 : Nat) (p1 : Int32) (hi0 : i0 < 28) (μ : gx_M) {r : Int32} (hr : f_J1_charAt_3b067 i0 p1 μ = some r) : gEv E l 2 Y_J1_charAt_3b067 [.ref (adV i0), .int p1] gx_G1 μ (gx_eC r) gx_G1 μ := by
  refine R_ev (by decide) (Nat.le_of_ble_eq_true rfl) (em := gx_eC) (T := f_J1_charAt_3b067 i0 p1 μ) ?_ hr
  show GoR E l Y_J1_charAt_3b067 2 gx_eC 0 (gx_el [.ref (adV i0), .int p1]) [] μ (f_J1_charAt_3b067 i0 p1 μ)
  unfold f_J1_charAt_3b067
  refine R_s (s_iload_n dJ1_charAt_3b067_0 rfl rfl) ?_
  refine R_s (s_aload_n dJ1_charAt_3b067_1 rfl rfl) ?_
  refine R_s (s_svlen hE hi0 dJ1_charAt_3b067_2) ?_
  refine R_br (ec := gx_eV) (fun r_ hr_ => s_callS (As := [.int _, .int _]) dJ1_charAt_3b067_3 Lk_RJ1_9 rfl (Nat.le_of_ble_eq_true rfl) (Nat.le_of_ble_eq_true rfl) (ev_J0_checkIndex_df160 hE p1 (gx_sl i0) μ hr_)) (fun r1 => ?_)
  refine R_s (s_aload_n dJ1_charAt_3b067_6 rfl rfl) ?_
  refine R_s (s_iload_n dJ1_charAt_3b067_7 rfl rfl) ?_
  refine R_ck (fun h2 => ?_)
  refine R_s (s_svald hE hi0 dJ1_charAt_3b067_8 h2) ?_
  refine R_s (s_sipush dJ1_charAt_3b067_9 kcs_255) ?_
  refine R_s (s_iand dJ1_charAt_3b067_12) ?_
  refine R_s (s_i2c dJ1_charAt_3b067_13) ?_
  exact R_r (r := ((gx_sc i0 p1.toNatClampNeg) &&& 255)) (f_int (ty := .char) dJ1_charAt_3b067_14 rfl (gx_narc _))

def L_X0_rankOf_13 (μ : gx_M) (a1 : Nat) (r1 : Int32) (p2 : Int32) (k4 : Int32 → Option Int32) : Nat → Int32 → Int32 → Option Int32
  | 0, _, _ => none
  | n + 1, v4_2, v5_3 => if (μ.1 a1 2) ≤ v5_3 then k4 v4_2 else gx_br (f_X0_bestCost a1 v5_3 μ) (fun (r6 : Int32) => gx_lt (fun (j0_13 : Int32) => L_X0_rankOf_13 μ a1 r1 p2 k4 n j0_13 (v5_3 + 1)) (fun J7 => if r6 = (-1) then J7 v4_2 else gx_lt (J7 (v4_2 + 1)) (fun J9 => if r6 < r1 then J9 else if r6 = r1 then if p2 ≤ v5_3 then J7 v4_2 else J9 else J7 v4_2)))
def f_X0_rankOf (a1 : Nat) (p2 : Int32) (μ : gx_M) : Option Int32 := gx_br (f_X0_bestCost a1 p2 μ) (fun (r1 : Int32) => L_X0_rankOf_13 μ a1 r1 p2 (fun (x4_15 : Int32) => some x4_15) 4000 0 0)
theorem okL_X0_rankOf_13 {E : gx_E} {l : Launch} {μ : gx_M} {a1 : Nat} {r1 : Int32} {p2 : Int32} (ha1 : gx_St a1) {k4 : Int32 → Option Int32} (hk : ∀ (w14 : Int32), GoR E l Y_X0_rankOf 3 gx_eI 64 [none, none, none, none, some (.int w14)] [] μ (k4 w14)) : ∀ (n : Nat) (v4_2 : Int32) (v5_3 : Int32), GoR E l Y_X0_rankOf 3 gx_eI 13 [some (.ref (E.2.2.1 + 75)), some (.ref (E.2.2.1 + a1)), some (.int p2), some (.int r1), some (.int v4_2), some (.int v5_3)] [] μ (L_X0_rankOf_13 μ a1 r1 p2 k4 n v4_2 v5_3) := by
  intro n
  induction n with
  | zero => intros; exact R_no
  | succ n ih =>
    intro v4_2 v5_3
    rw [L_X0_rankOf_13.eq_2]
    refine R_s (s_iload dX0_rankOf_13 rfl) ?_
    refine R_s (s_aload_n dX0_rankOf_15 rfl rfl) ?_
    refine R_s (gfm_RX0_21 ha1 rfl dX0_rankOf_16) ?_
    refine R_ite (fun h5 => ?_) (fun h5 => ?_)
    · refine R_s (s_icmp_ge_t dX0_rankOf_19 rfl h5) ?_
      exact R_wk (hk v4_2) (le_o (le_o (le_o (le_o (le_s rfl le_n)))))
    · refine R_s (s_icmp_ge_f dX0_rankOf_19 rfl h5) ?_
      refine R_s (s_aload_n dX0_rankOf_22 rfl rfl) ?_
      refine R_s (s_aload_n dX0_rankOf_23 rfl rfl) ?_
      refine R_s (s_iload dX0_rankOf_24 rfl) ?_
      refine R_br (ec := gx_eI) (fun r_ hr_ => s_callV (As := [.ref _, .int _]) dX0_rankOf_26 Lk_RX0_62 rfl g_75 (by decide) rfl (Nat.le_of_ble_eq_true rfl) (Nat.le_of_ble_eq_true rfl) (ev_X0_bestCost a1 v5_3 ha1 μ hr_)) (fun r6 => ?_)
      refine R_s (s_istore dX0_rankOf_29 (Nat.le_of_ble_eq_true rfl)) ?_
      refine R_s (s_iload dX0_rankOf_31 rfl) ?_
      refine R_s (s_iconst dX0_rankOf_33 kci_m1) ?_
      refine R_fun (fun J => ∀ (j0_13 : Int32), GoR E l Y_X0_rankOf 3 gx_eI 58 [some (.ref (E.2.2.1 + 75)), some (.ref (E.2.2.1 + a1)), some (.int p2), some (.int r1), some (.int j0_13), some (.int v5_3)] [] μ (J j0_13)) ?_ (fun J7 hJ7 => ?_)
      · intro j0_13
        refine R_s (s_iinc dX0_rankOf_58 rfl (kinc_1 v5_3) (Nat.le_of_ble_eq_true rfl)) ?_
        refine R_s (s_goto dX0_rankOf_61 rfl) ?_
        exact R_wk (ih j0_13 (v5_3 + 1)) (le_s rfl (le_s rfl (le_s rfl (le_s rfl (le_s rfl (le_s rfl le_n))))))
      · skip
        refine R_ite (fun h8 => ?_) (fun h8 => ?_)
        · refine R_s (s_icmp_eq_t dX0_rankOf_34 rfl h8) ?_
          exact R_wk (hJ7 v4_2) (le_s rfl (le_s rfl (le_s rfl (le_s rfl (le_s rfl (le_s rfl le_n))))))
        · refine R_s (s_icmp_eq_f dX0_rankOf_34 rfl h8) ?_
          refine R_s (s_iload dX0_rankOf_37 rfl) ?_
          refine R_s (s_iload_n dX0_rankOf_39 rfl rfl) ?_
          refine R_fun (fun J => GoR E l Y_X0_rankOf 3 gx_eI 55 [some (.ref (E.2.2.1 + 75)), some (.ref (E.2.2.1 + a1)), some (.int p2), some (.int r1), some (.int v4_2), some (.int v5_3)] [] μ (J)) ?_ (fun J9 hJ9 => ?_)
          · skip
            refine R_s (s_iinc dX0_rankOf_55 rfl (kinc_1 v4_2) (Nat.le_of_ble_eq_true rfl)) ?_
            exact R_wk (hJ7 (v4_2 + 1)) (le_s rfl (le_s rfl (le_s rfl (le_s rfl (le_s rfl (le_s rfl le_n))))))
          · skip
            refine R_ite (fun h10 => ?_) (fun h10 => ?_)
            · refine R_s (s_icmp_lt_t dX0_rankOf_40 rfl h10) ?_
              exact R_wk (hJ9) (le_s rfl (le_s rfl (le_s rfl (le_s rfl (le_s rfl (le_s rfl le_n))))))
            · refine R_s (s_icmp_lt_f dX0_rankOf_40 rfl h10) ?_
              refine R_s (s_iload dX0_rankOf_43 rfl) ?_
              refine R_s (s_iload_n dX0_rankOf_45 rfl rfl) ?_
              refine R_ite (fun h11 => ?_) (fun h11 => ?_)
              · refine R_s (s_icmp_ne_f dX0_rankOf_46 rfl h11) ?_
                refine R_s (s_iload dX0_rankOf_49 rfl) ?_
                refine R_s (s_iload_n dX0_rankOf_51 rfl rfl) ?_
                refine R_ite (fun h12 => ?_) (fun h12 => ?_)
                · refine R_s (s_icmp_ge_t dX0_rankOf_52 rfl h12) ?_
                  exact R_wk (hJ7 v4_2) (le_s rfl (le_s rfl (le_s rfl (le_s rfl (le_s rfl (le_s rfl le_n))))))
                · refine R_s (s_icmp_ge_f dX0_rankOf_52 rfl h12) ?_
                  exact R_wk (hJ9) (le_s rfl (le_s rfl (le_s rfl (le_s rfl (le_s rfl (le_s rfl le_n))))))
              · refine R_s (s_icmp_ne_t dX0_rankOf_46 rfl h11) ?_
                exact R_wk (hJ7 v4_2) (le_s rfl (le_s rfl (le_s rfl (le_s rfl (le_s rfl (le_s rfl le_n))))))
theorem ev_X0_rankOf {E : gx_E} {l : Launch} (a1 : Nat) (p2 : Int32) (ha1 : gx_St a1) (μ : gx_M) {r : Int32} (hr : f_X0_rankOf a1 p2 μ = some r) : gEv E l 3 Y_X0_rankOf [.ref (E.2.2.1 + 75), .ref (E.2.2.1 + a1), .int p2] gx_G1 μ (gx_eI r) gx_G1 μ := by
  refine R_ev (by decide) (Nat.le_of_ble_eq_true rfl) (em := gx_eI) (T := f_X0_rankOf a1 p2 μ) ?_ hr
  show GoR E l Y_X0_rankOf 3 gx_eI 0 (gx_el [.ref (E.2.2.1 + 75), .ref (E.2.2.1 + a1), .int p2]) [] μ (f_X0_rankOf a1 p2 μ)
  unfold f_X0_rankOf
  refine R_s (s_aload_n dX0_rankOf_0 rfl rfl) ?_
  refine R_s (s_aload_n dX0_rankOf_1 rfl rfl) ?_
  refine R_s (s_iload_n dX0_rankOf_2 rfl rfl) ?_
  refine R_br (ec := gx_eI) (fun r_ hr_ => s_callV (As := [.ref _, .int _]) dX0_rankOf_3 Lk_RX0_62 rfl g_75 (by decide) rfl (Nat.le_of_ble_eq_true rfl) (Nat.le_of_ble_eq_true rfl) (ev_X0_bestCost a1 p2 ha1 μ hr_)) (fun r1 => ?_)
  refine R_s (s_istore_n dX0_rankOf_6 rfl (Nat.le_of_ble_eq_true rfl)) ?_
  refine R_s (s_iconst dX0_rankOf_7 kci_0) ?_
  refine R_s (s_istore dX0_rankOf_8 (Nat.le_of_ble_eq_true rfl)) ?_
  refine R_s (s_iconst dX0_rankOf_10 kci_0) ?_
  refine R_s (s_istore dX0_rankOf_11 (Nat.le_of_ble_eq_true rfl)) ?_
  refine R_wk (okL_X0_rankOf_13 ha1 ?_ 4000 0 0) (le_s rfl (le_s rfl (le_s rfl (le_s rfl (le_s rfl (le_s rfl le_n))))))
  intro x4_15
  refine R_s (s_iload dX0_rankOf_64 rfl) ?_
  exact R_r (r := x4_15) (f_int (ty := .int) dX0_rankOf_66 rfl rfl)

def L_X0_choose_31 (a1 : Nat) (p2 : Int32) (k9 : gx_M → Option (Unit × gx_M)) : Nat → Int32 → gx_M → Option (Unit × gx_M)
  | 0, _, _ => none
  | n + 1, v5_7, μ8 => if (f_X5_subsets a1 μ8) ≤ v5_7 then k9 μ8 else gx_br (f_X0_costOfSet a1 v5_7 μ8) (fun (r11 : Int32) => gx_lt (fun (μ19 : gx_M) => L_X0_choose_31 a1 p2 k9 n (v5_7 + 1) μ19) (fun J12 => if r11 = (-1) then J12 μ8 else gx_ck (gx_ix p2 4 = true) (if (μ8.1 (a1 + 1) p2.toNatClampNeg) < r11 then J12 μ8 else gx_br (f_X5_worthOfSet a1 v5_7 μ8) (fun (r16 : Int32) => gx_bd (f_X0_weighChoice v5_7 (r16 - r11) μ8) (fun (r17 : Unit) (μ18 : gx_M) => J12 μ18)))))
def f_X0_choose (a1 : Nat) (p2 : Int32) (p3 : Int64) (μ : gx_M) : Option (Unit × gx_M) := gx_bd (f_X0_weighRuns a1 p2 p3 μ) (fun (r1 : Unit) (μ2 : gx_M) => gx_bd (f_X0_arrange a1 ((f_X5_subsets a1 μ2) - 1) μ2) (fun (r3 : Unit) (μ4 : gx_M) => gx_lt (gx_uI μ4 75 3 0) (fun (μ5 : gx_M) => gx_lt (gx_uI μ5 75 4 0) (fun (μ6 : gx_M) => L_X0_choose_31 a1 p2 (fun (μ21 : gx_M) => some ((), μ21)) 4000 1 μ6))))
theorem okL_X0_choose_31 {E : gx_E} {l : Launch} {a1 : Nat} {p2 : Int32} (ha1 : gx_St a1) {k9 : gx_M → Option (Unit × gx_M)} (hk : ∀ (μ20 : gx_M), GoW E l Y_X0_choose 3 gx_eV 87 [] [] μ20 (k9 μ20)) : ∀ (n : Nat) (v5_7 : Int32) (μ8 : gx_M), GoW E l Y_X0_choose 3 gx_eV 31 [some (.ref (E.2.2.1 + 75)), some (.ref (E.2.2.1 + a1)), some (.int p2), none, none, some (.int v5_7)] [] μ8 (L_X0_choose_31 a1 p2 k9 n v5_7 μ8) := by
  intro n
  induction n with
  | zero => intros; exact W_no
  | succ n ih =>
    intro v5_7 μ8
    rw [L_X0_choose_31.eq_2]
    refine W_s (s_iload dX0_choose_31 rfl) ?_
    refine W_s (s_aload_n dX0_choose_33 rfl rfl) ?_
    refine W_s (s_callV (As := []) dX0_choose_34 Lk_RX0_75 rfl (St_0 ha1) (by decide) rfl (Nat.le_of_ble_eq_true rfl) (Nat.le_of_ble_eq_true rfl) (ev_X5_subsets a1 ha1 μ8)) ?_
    refine W_ite (fun h10 => ?_) (fun h10 => ?_)
    · refine W_s (s_icmp_ge_t dX0_choose_37 rfl h10) ?_
      exact W_wk (hk μ8) le_n
    · refine W_s (s_icmp_ge_f dX0_choose_37 rfl h10) ?_
      refine W_s (s_aload_n dX0_choose_40 rfl rfl) ?_
      refine W_s (s_aload_n dX0_choose_41 rfl rfl) ?_
      refine W_s (s_iload dX0_choose_42 rfl) ?_
      refine W_br (ec := gx_eI) (fun r_ hr_ => s_callV (As := [.ref _, .int _]) dX0_choose_44 Lk_RX0_113 rfl g_75 (by decide) rfl (Nat.le_of_ble_eq_true rfl) (Nat.le_of_ble_eq_true rfl) (ev_X0_costOfSet a1 v5_7 ha1 μ8 hr_)) (fun r11 => ?_)
      refine W_s (s_istore dX0_choose_47 (Nat.le_of_ble_eq_true rfl)) ?_
      refine W_s (s_iload dX0_choose_49 rfl) ?_
      refine W_s (s_iconst dX0_choose_51 kci_m1) ?_
      refine W_fun (fun J => ∀ (μ19 : gx_M), GoW E l Y_X0_choose 3 gx_eV 81 [some (.ref (E.2.2.1 + 75)), some (.ref (E.2.2.1 + a1)), some (.int p2), none, none, some (.int v5_7)] [] μ19 (J μ19)) ?_ (fun J12 hJ12 => ?_)
      · intro μ19
        refine W_s (s_iinc dX0_choose_81 rfl (kinc_1 v5_7) (Nat.le_of_ble_eq_true rfl)) ?_
        refine W_s (s_goto dX0_choose_84 rfl) ?_
        exact W_wk (ih (v5_7 + 1) μ19) (le_s rfl (le_s rfl (le_s rfl (le_o (le_o (le_s rfl le_n))))))
      · skip
        refine W_ite (fun h13 => ?_) (fun h13 => ?_)
        · refine W_s (s_icmp_eq_t dX0_choose_52 rfl h13) ?_
          exact W_wk (hJ12 μ8) (le_s rfl (le_s rfl (le_s rfl (le_o (le_o (le_s rfl le_n))))))
        · refine W_s (s_icmp_eq_f dX0_choose_52 rfl h13) ?_
          refine W_s (s_iload dX0_choose_55 rfl) ?_
          refine W_s (s_aload_n dX0_choose_57 rfl rfl) ?_
          refine W_s (gfm_RX0_116 ha1 rfl dX0_choose_58) ?_
          refine W_s (s_iload_n dX0_choose_61 rfl rfl) ?_
          refine W_ck (fun h14 => ?_)
          refine W_s (s_iald dX0_choose_62 (St_1 ha1) (gx_ixv h14)) ?_
          refine W_ite (fun h15 => ?_) (fun h15 => ?_)
          · refine W_s (s_icmp_gt_t dX0_choose_63 rfl h15) ?_
            exact W_wk (hJ12 μ8) (le_s rfl (le_s rfl (le_s rfl (le_o (le_o (le_s rfl le_n))))))
          · refine W_s (s_icmp_gt_f dX0_choose_63 rfl h15) ?_
            refine W_s (s_aload_n dX0_choose_66 rfl rfl) ?_
            refine W_s (s_iload dX0_choose_67 rfl) ?_
            refine W_s (s_aload_n dX0_choose_69 rfl rfl) ?_
            refine W_s (s_iload dX0_choose_70 rfl) ?_
            refine W_br (ec := gx_eI) (fun r_ hr_ => s_callV (As := [.int _]) dX0_choose_72 Lk_RX0_119 rfl (St_0 ha1) (by decide) rfl (Nat.le_of_ble_eq_true rfl) (Nat.le_of_ble_eq_true rfl) (ev_X5_worthOfSet a1 v5_7 ha1 μ8 hr_)) (fun r16 => ?_)
            refine W_s (s_iload dX0_choose_75 rfl) ?_
            refine W_s (s_isub dX0_choose_77) ?_
            refine W_bd (ec := gx_eV) (fun r_ μ_ hr_ => s_callV (As := [.int _, .int _]) dX0_choose_78 Lk_RX0_122 rfl g_75 (by decide) rfl (Nat.le_of_ble_eq_true rfl) (Nat.le_of_ble_eq_true rfl) (ev_X0_weighChoice v5_7 (r16 - r11) μ8 hr_)) (fun r17 μ18 => ?_)
            exact W_wk (hJ12 μ18) (le_s rfl (le_s rfl (le_s rfl (le_o (le_o (le_s rfl le_n))))))
theorem ev_X0_choose {E : gx_E} {l : Launch} (a1 : Nat) (p2 : Int32) (p3 : Int64) (ha1 : gx_St a1) (μ : gx_M) {r : Unit} {μ' : gx_M} (hr : f_X0_choose a1 p2 p3 μ = some (r, μ')) : gEv E l 3 Y_X0_choose [.ref (E.2.2.1 + 75), .ref (E.2.2.1 + a1), .int p2, .long p3] gx_G1 μ (gx_eV r) gx_G1 μ' := by
  refine W_ev (by decide) (Nat.le_of_ble_eq_true rfl) (em := gx_eV) (T := f_X0_choose a1 p2 p3 μ) ?_ hr
  show GoW E l Y_X0_choose 3 gx_eV 0 (gx_el [.ref (E.2.2.1 + 75), .ref (E.2.2.1 + a1), .int p2, .long p3]) [] μ (f_X0_choose a1 p2 p3 μ)
  unfold f_X0_choose
  refine W_s (s_aload_n dX0_choose_0 rfl rfl) ?_
  refine W_s (s_aload_n dX0_choose_1 rfl rfl) ?_
  refine W_s (s_iload_n dX0_choose_2 rfl rfl) ?_
  refine W_s (s_lload_n dX0_choose_3 rfl rfl) ?_
  refine W_bd (ec := gx_eV) (fun r_ μ_ hr_ => s_callV (As := [.ref _, .int _, .long _]) dX0_choose_4 Lk_RX0_99 rfl g_75 (by decide) rfl (Nat.le_of_ble_eq_true rfl) (Nat.le_of_ble_eq_true rfl) (ev_X0_weighRuns a1 p2 p3 ha1 μ hr_)) (fun r1 μ2 => ?_)
  refine W_s (s_aload_n dX0_choose_7 rfl rfl) ?_
  refine W_s (s_aload_n dX0_choose_8 rfl rfl) ?_
  refine W_s (s_aload_n dX0_choose_9 rfl rfl) ?_
  refine W_s (s_callV (As := []) dX0_choose_10 Lk_RX0_75 rfl (St_0 ha1) (by decide) rfl (Nat.le_of_ble_eq_true rfl) (Nat.le_of_ble_eq_true rfl) (ev_X5_subsets a1 ha1 μ2)) ?_
  refine W_s (s_iconst dX0_choose_13 kci_1) ?_
  refine W_s (s_isub dX0_choose_14) ?_
  refine W_bd (ec := gx_eV) (fun r_ μ_ hr_ => s_callV (As := [.ref _, .int _]) dX0_choose_15 Lk_RX0_103 rfl g_75 (by decide) rfl (Nat.le_of_ble_eq_true rfl) (Nat.le_of_ble_eq_true rfl) (ev_X0_arrange a1 ((f_X5_subsets a1 μ2) - 1) ha1 μ2 hr_)) (fun r3 μ4 => ?_)
  refine W_s (s_aload_n dX0_choose_18 rfl rfl) ?_
  refine W_s (s_iconst dX0_choose_19 kci_0) ?_
  refine W_s (pf_RX0_107 rfl dX0_choose_20) ?_
  refine W_letM (fun μ5 => ?_)
  refine W_s (s_aload_n dX0_choose_23 rfl rfl) ?_
  refine W_s (s_iconst dX0_choose_24 kci_0) ?_
  refine W_s (pf_RX0_110 rfl dX0_choose_25) ?_
  refine W_letM (fun μ6 => ?_)
  refine W_s (s_iconst dX0_choose_28 kci_1) ?_
  refine W_s (s_istore dX0_choose_29 (Nat.le_of_ble_eq_true rfl)) ?_
  refine W_wk (okL_X0_choose_31 ha1 ?_ 4000 1 μ6) (le_s rfl (le_s rfl (le_s rfl (le_o (le_o (le_s rfl le_n))))))
  intro μ21
  exact W_r (r := ()) (f_void dX0_choose_87 rfl)

def f_X0_give (a1 : Nat) (p2 : Int32) (p3 : Int32) (μ : gx_M) : Option (Unit × gx_M) := gx_br (f_X0_firstNotHis a1 p2 μ) (fun (r1 : Int32) => gx_lt (gx_uI μ 75 5 r1) (fun (μ2 : gx_M) => gx_lt (fun (j0_6 : Int32) (μ7 : gx_M) => gx_lt (gx_uI μ7 75 6 j0_6) (fun (μ8 : gx_M) => if (μ8.1 75 6) = (-1) then gx_lt (gx_uI μ8 75 5 (-1)) (fun (μ17 : gx_M) => some ((), μ17)) else gx_bd (f_X0_arrangeGiven a1 p2 p3 μ8) (fun (r10 : Unit) (μ11 : gx_M) => gx_ck (gx_ix (((μ11.1 a1 0) * 64) + p3) 2624 = true) (gx_lt (μ11.2 78 (((μ11.1 a1 0) * 64) + p3).toNatClampNeg) (fun (x13 : Int64) => if ((((μ11.1 75 6) : Int32).toInt64) <<< ((6 : Int32).toInt64 &&& 63)) ≤ x13 then some ((), μ11) else gx_lt (gx_uI μ11 75 5 (((x13 : Int64).toInt32) &&& 63)) (fun (μ15 : gx_M) => gx_lt (gx_uI μ15 75 6 (((x13 >>> ((6 : Int32).toInt64 &&& 63)) : Int64).toInt32)) (fun (μ16 : gx_M) => some ((), μ16)))))))) (fun J3 => if (μ2.1 75 5) = (-1) then J3 (-1) μ2 else gx_br (f_X0_costOfSet a1 p3 μ2) (fun (r5 : Int32) => J3 r5 μ2))))
theorem ev_X0_give {E : gx_E} {l : Launch} (a1 : Nat) (p2 : Int32) (p3 : Int32) (ha1 : gx_St a1) (μ : gx_M) {r : Unit} {μ' : gx_M} (hr : f_X0_give a1 p2 p3 μ = some (r, μ')) : gEv E l 3 Y_X0_give [.ref (E.2.2.1 + 75), .ref (E.2.2.1 + a1), .int p2, .int p3] gx_G1 μ (gx_eV r) gx_G1 μ' := by
  refine W_ev (by decide) (Nat.le_of_ble_eq_true rfl) (em := gx_eV) (T := f_X0_give a1 p2 p3 μ) ?_ hr
  show GoW E l Y_X0_give 3 gx_eV 0 (gx_el [.ref (E.2.2.1 + 75), .ref (E.2.2.1 + a1), .int p2, .int p3]) [] μ (f_X0_give a1 p2 p3 μ)
  unfold f_X0_give
  refine W_s (s_aload_n dX0_give_0 rfl rfl) ?_
  refine W_s (s_aload_n dX0_give_1 rfl rfl) ?_
  refine W_s (s_iload_n dX0_give_2 rfl rfl) ?_
  refine W_br (ec := gx_eI) (fun r_ hr_ => s_callS (As := [.ref _, .int _]) dX0_give_3 Lk_RX0_131 rfl (Nat.le_of_ble_eq_true rfl) (Nat.le_of_ble_eq_true rfl) (ev_X0_firstNotHis a1 p2 ha1 μ hr_)) (fun r1 => ?_)
  refine W_s (pf_RX0_134 rfl dX0_give_6) ?_
  refine W_letM (fun μ2 => ?_)
  refine W_s (s_aload_n dX0_give_9 rfl rfl) ?_
  refine W_s (s_aload_n dX0_give_10 rfl rfl) ?_
  refine W_s (gf_RX0_134 rfl dX0_give_11) ?_
  refine W_s (s_iconst dX0_give_14 kci_m1) ?_
  refine W_fun (fun J => ∀ (j0_6 : Int32) (μ7 : gx_M), GoW E l Y_X0_give 3 gx_eV 28 [some (.ref (E.2.2.1 + 75)), some (.ref (E.2.2.1 + a1)), some (.int p2), some (.int p3)] [.int j0_6, .ref (E.2.2.1 + 75)] μ7 (J j0_6 μ7)) ?_ (fun J3 hJ3 => ?_)
  · intro j0_6 μ7
    refine W_s (pf_RX0_137 rfl dX0_give_28) ?_
    refine W_letM (fun μ8 => ?_)
    refine W_s (s_aload_n dX0_give_31 rfl rfl) ?_
    refine W_s (gf_RX0_137 rfl dX0_give_32) ?_
    refine W_s (s_iconst dX0_give_35 kci_m1) ?_
    refine W_ite (fun h9 => ?_) (fun h9 => ?_)
    · refine W_s (s_icmp_ne_f dX0_give_36 rfl h9) ?_
      refine W_s (s_aload_n dX0_give_39 rfl rfl) ?_
      refine W_s (s_iconst dX0_give_40 kci_m1) ?_
      refine W_s (pf_RX0_134 rfl dX0_give_41) ?_
      refine W_letM (fun μ17 => ?_)
      exact W_r (r := ()) (f_void dX0_give_44 rfl)
    · refine W_s (s_icmp_ne_t dX0_give_36 rfl h9) ?_
      refine W_s (s_aload_n dX0_give_45 rfl rfl) ?_
      refine W_s (s_aload_n dX0_give_46 rfl rfl) ?_
      refine W_s (s_iload_n dX0_give_47 rfl rfl) ?_
      refine W_s (s_iload_n dX0_give_48 rfl rfl) ?_
      refine W_bd (ec := gx_eV) (fun r_ μ_ hr_ => s_callV (As := [.ref _, .int _, .int _]) dX0_give_49 Lk_RX0_140 rfl g_75 (by decide) rfl (Nat.le_of_ble_eq_true rfl) (Nat.le_of_ble_eq_true rfl) (ev_X0_arrangeGiven a1 p2 p3 ha1 μ8 hr_)) (fun r10 μ11 => ?_)
      refine W_s (s_aload_n dX0_give_52 rfl rfl) ?_
      refine W_s (gf_RX0_18 rfl dX0_give_53) ?_
      refine W_s (s_aload_n dX0_give_56 rfl rfl) ?_
      refine W_s (gfm_RX0_27 ha1 rfl dX0_give_57) ?_
      refine W_s (s_bipush dX0_give_60 kcb_64) ?_
      refine W_s (s_imul dX0_give_62) ?_
      refine W_s (s_iload_n dX0_give_63 rfl rfl) ?_
      refine W_s (s_iadd dX0_give_64) ?_
      refine W_ck (fun h12 => ?_)
      refine W_s (s_lald dX0_give_65 g_78 (gx_ixv h12)) ?_
      refine W_letL (fun x13 => ?_)
      refine W_s (s_lstore dX0_give_66 (Nat.le_of_ble_eq_true rfl)) ?_
      refine W_s (s_lload dX0_give_68 rfl) ?_
      refine W_s (s_aload_n dX0_give_70 rfl rfl) ?_
      refine W_s (gf_RX0_137 rfl dX0_give_71) ?_
      refine W_s (s_i2l dX0_give_74) ?_
      refine W_s (s_bipush dX0_give_75 kcb_6) ?_
      refine W_s (s_lshl dX0_give_77) ?_
      refine W_s (s_lcmp dX0_give_78) ?_
      refine W_ite (fun h14 => ?_) (fun h14 => ?_)
      · refine W_s (s_if_ge_t dX0_give_79 rfl ((lgc_ge x13 ((((μ11.1 75 6) : Int32).toInt64) <<< ((6 : Int32).toInt64 &&& 63))).mpr h14)) ?_
        exact W_r (r := ()) (f_void dX0_give_102 rfl)
      · refine W_s (s_if_ge_f dX0_give_79 rfl (fun hc => h14 ((lgc_ge x13 ((((μ11.1 75 6) : Int32).toInt64) <<< ((6 : Int32).toInt64 &&& 63))).mp hc))) ?_
        refine W_s (s_aload_n dX0_give_82 rfl rfl) ?_
        refine W_s (s_lload dX0_give_83 rfl) ?_
        refine W_s (s_l2i dX0_give_85) ?_
        refine W_s (s_bipush dX0_give_86 kcb_63) ?_
        refine W_s (s_iand dX0_give_88) ?_
        refine W_s (pf_RX0_134 rfl dX0_give_89) ?_
        refine W_letM (fun μ15 => ?_)
        refine W_s (s_aload_n dX0_give_92 rfl rfl) ?_
        refine W_s (s_lload dX0_give_93 rfl) ?_
        refine W_s (s_bipush dX0_give_95 kcb_6) ?_
        refine W_s (s_lshr dX0_give_97) ?_
        refine W_s (s_l2i dX0_give_98) ?_
        refine W_s (pf_RX0_137 rfl dX0_give_99) ?_
        refine W_letM (fun μ16 => ?_)
        exact W_r (r := ()) (f_void dX0_give_102 rfl)
  · skip
    refine W_ite (fun h4 => ?_) (fun h4 => ?_)
    · refine W_s (s_icmp_ne_f dX0_give_15 rfl h4) ?_
      refine W_s (s_iconst dX0_give_18 kci_m1) ?_
      refine W_s (s_goto dX0_give_19 rfl) ?_
      exact W_wk (hJ3 (-1) μ2) (le_s rfl (le_s rfl (le_s rfl (le_s rfl le_n))))
    · refine W_s (s_icmp_ne_t dX0_give_15 rfl h4) ?_
      refine W_s (s_aload_n dX0_give_22 rfl rfl) ?_
      refine W_s (s_aload_n dX0_give_23 rfl rfl) ?_
      refine W_s (s_iload_n dX0_give_24 rfl rfl) ?_
      refine W_br (ec := gx_eI) (fun r_ hr_ => s_callV (As := [.ref _, .int _]) dX0_give_25 Lk_RX0_113 rfl g_75 (by decide) rfl (Nat.le_of_ble_eq_true rfl) (Nat.le_of_ble_eq_true rfl) (ev_X0_costOfSet a1 p3 ha1 μ2 hr_)) (fun r5 => ?_)
      exact W_wk (hJ3 r5 μ2) (le_s rfl (le_s rfl (le_s rfl (le_s rfl le_n))))

def f_X3_goes (p1 : Int32) (p2 : Int32) (p3 : Int32) (p4 : Int32) (μ : gx_M) : Option (Bool × gx_M) := if p1 = 6 then gx_bd (f_X3_buys p2 p3 μ) (fun (r2 : Bool) (μ3 : gx_M) => some (r2, μ3)) else if p1 = 7 then gx_bd (f_X3_thinks p2 p3 μ) (fun (r5 : Bool) (μ6 : gx_M) => some (r5, μ6)) else if p1 = 8 then gx_bd (f_X3_steals p2 p3 μ) (fun (r8 : Bool) (μ9 : gx_M) => some (r8, μ9)) else if p1 = 9 then gx_bd (f_X3_sells p2 p3 μ) (fun (r11 : Bool) (μ12 : gx_M) => some (r11, μ12)) else if p1 = 10 then gx_bd (f_X3_does p2 p3 p4 μ) (fun (r14 : Bool) (μ15 : gx_M) => some (r14, μ15)) else if p1 = 11 then gx_bd (f_X3_changesPrice p2 1 μ) (fun (r17 : Bool) (μ18 : gx_M) => some (r17, μ18)) else if p1 = 12 then gx_bd (f_X3_changesPrice p2 (-1) μ) (fun (r20 : Bool) (μ21 : gx_M) => some (r20, μ21)) else some (false, μ)
theorem ev_X3_goes {E : gx_E} {l : Launch} (p1 : Int32) (p2 : Int32) (p3 : Int32) (p4 : Int32) (μ : gx_M) {r : Bool} {μ' : gx_M} (hr : f_X3_goes p1 p2 p3 p4 μ = some (r, μ')) : gEv E l 3 Y_X3_goes [.ref (E.2.2.1 + 62), .int p1, .int p2, .int p3, .int p4] gx_G1 μ (gx_eB r) gx_G1 μ' := by
  refine W_ev (by decide) (Nat.le_of_ble_eq_true rfl) (em := gx_eB) (T := f_X3_goes p1 p2 p3 p4 μ) ?_ hr
  show GoW E l Y_X3_goes 3 gx_eB 0 (gx_el [.ref (E.2.2.1 + 62), .int p1, .int p2, .int p3, .int p4]) [] μ (f_X3_goes p1 p2 p3 p4 μ)
  unfold f_X3_goes
  refine W_s (s_iload_n dX3_goes_0 rfl rfl) ?_
  refine W_ite (fun h1 => ?_) (fun h1 => ?_)
  · refine W_s (s_tsw_eq (c := 6) dX3_goes_1 h1 (by decide) (by decide) rfl rfl) ?_
    refine W_s (s_aload_n dX3_goes_44 rfl rfl) ?_
    refine W_s (s_iload_n dX3_goes_45 rfl rfl) ?_
    refine W_s (s_iload_n dX3_goes_46 rfl rfl) ?_
    refine W_bd (ec := gx_eB) (fun r_ μ_ hr_ => s_callV (As := [.int _, .int _]) dX3_goes_47 Lk_RX3_65 rfl g_62 (by decide) rfl (Nat.le_of_ble_eq_true rfl) (Nat.le_of_ble_eq_true rfl) (ev_X3_buys p2 p3 μ hr_)) (fun r2 μ3 => ?_)
    exact W_r (r := r2) (f_int (ty := .boolean) (x := gx_bi r2) dX3_goes_50 rfl (gx_bn r2))
  · skip
    refine W_ite (fun h4 => ?_) (fun h4 => ?_)
    · refine W_s (s_tsw_eq (c := 7) dX3_goes_1 h4 (by decide) (by decide) rfl rfl) ?_
      refine W_s (s_aload_n dX3_goes_58 rfl rfl) ?_
      refine W_s (s_iload_n dX3_goes_59 rfl rfl) ?_
      refine W_s (s_iload_n dX3_goes_60 rfl rfl) ?_
      refine W_bd (ec := gx_eB) (fun r_ μ_ hr_ => s_callV (As := [.int _, .int _]) dX3_goes_61 Lk_RX3_72 rfl g_62 (by decide) rfl (Nat.le_of_ble_eq_true rfl) (Nat.le_of_ble_eq_true rfl) (ev_X3_thinks p2 p3 μ hr_)) (fun r5 μ6 => ?_)
      exact W_r (r := r5) (f_int (ty := .boolean) (x := gx_bi r5) dX3_goes_64 rfl (gx_bn r5))
    · skip
      refine W_ite (fun h7 => ?_) (fun h7 => ?_)
      · refine W_s (s_tsw_eq (c := 8) dX3_goes_1 h7 (by decide) (by decide) rfl rfl) ?_
        refine W_s (s_aload_n dX3_goes_65 rfl rfl) ?_
        refine W_s (s_iload_n dX3_goes_66 rfl rfl) ?_
        refine W_s (s_iload_n dX3_goes_67 rfl rfl) ?_
        refine W_bd (ec := gx_eB) (fun r_ μ_ hr_ => s_callV (As := [.int _, .int _]) dX3_goes_68 Lk_RX3_75 rfl g_62 (by decide) rfl (Nat.le_of_ble_eq_true rfl) (Nat.le_of_ble_eq_true rfl) (ev_X3_steals p2 p3 μ hr_)) (fun r8 μ9 => ?_)
        exact W_r (r := r8) (f_int (ty := .boolean) (x := gx_bi r8) dX3_goes_71 rfl (gx_bn r8))
      · skip
        refine W_ite (fun h10 => ?_) (fun h10 => ?_)
        · refine W_s (s_tsw_eq (c := 9) dX3_goes_1 h10 (by decide) (by decide) rfl rfl) ?_
          refine W_s (s_aload_n dX3_goes_51 rfl rfl) ?_
          refine W_s (s_iload_n dX3_goes_52 rfl rfl) ?_
          refine W_s (s_iload_n dX3_goes_53 rfl rfl) ?_
          refine W_bd (ec := gx_eB) (fun r_ μ_ hr_ => s_callV (As := [.int _, .int _]) dX3_goes_54 Lk_RX3_69 rfl g_62 (by decide) rfl (Nat.le_of_ble_eq_true rfl) (Nat.le_of_ble_eq_true rfl) (ev_X3_sells p2 p3 μ hr_)) (fun r11 μ12 => ?_)
          exact W_r (r := r11) (f_int (ty := .boolean) (x := gx_bi r11) dX3_goes_57 rfl (gx_bn r11))
        · skip
          refine W_ite (fun h13 => ?_) (fun h13 => ?_)
          · refine W_s (s_tsw_eq (c := 10) dX3_goes_1 h13 (by decide) (by decide) rfl rfl) ?_
            refine W_s (s_aload_n dX3_goes_72 rfl rfl) ?_
            refine W_s (s_iload_n dX3_goes_73 rfl rfl) ?_
            refine W_s (s_iload_n dX3_goes_74 rfl rfl) ?_
            refine W_s (s_iload dX3_goes_75 rfl) ?_
            refine W_bd (ec := gx_eB) (fun r_ μ_ hr_ => s_callV (As := [.int _, .int _, .int _]) dX3_goes_77 Lk_RX3_78 rfl g_62 (by decide) rfl (Nat.le_of_ble_eq_true rfl) (Nat.le_of_ble_eq_true rfl) (ev_X3_does p2 p3 p4 μ hr_)) (fun r14 μ15 => ?_)
            exact W_r (r := r14) (f_int (ty := .boolean) (x := gx_bi r14) dX3_goes_80 rfl (gx_bn r14))
          · skip
            refine W_ite (fun h16 => ?_) (fun h16 => ?_)
            · refine W_s (s_tsw_eq (c := 11) dX3_goes_1 h16 (by decide) (by decide) rfl rfl) ?_
              refine W_s (s_aload_n dX3_goes_81 rfl rfl) ?_
              refine W_s (s_iload_n dX3_goes_82 rfl rfl) ?_
              refine W_s (s_iconst dX3_goes_83 kci_1) ?_
              refine W_bd (ec := gx_eB) (fun r_ μ_ hr_ => s_callV (As := [.int _, .int _]) dX3_goes_84 Lk_RX3_82 rfl g_62 (by decide) rfl (Nat.le_of_ble_eq_true rfl) (Nat.le_of_ble_eq_true rfl) (ev_X3_changesPrice p2 1 μ hr_)) (fun r17 μ18 => ?_)
              exact W_r (r := r17) (f_int (ty := .boolean) (x := gx_bi r17) dX3_goes_87 rfl (gx_bn r17))
            · skip
              refine W_ite (fun h19 => ?_) (fun h19 => ?_)
              · refine W_s (s_tsw_eq (c := 12) dX3_goes_1 h19 (by decide) (by decide) rfl rfl) ?_
                refine W_s (s_aload_n dX3_goes_88 rfl rfl) ?_
                refine W_s (s_iload_n dX3_goes_89 rfl rfl) ?_
                refine W_s (s_iconst dX3_goes_90 kci_m1) ?_
                refine W_bd (ec := gx_eB) (fun r_ μ_ hr_ => s_callV (As := [.int _, .int _]) dX3_goes_91 Lk_RX3_82 rfl g_62 (by decide) rfl (Nat.le_of_ble_eq_true rfl) (Nat.le_of_ble_eq_true rfl) (ev_X3_changesPrice p2 (-1) μ hr_)) (fun r20 μ21 => ?_)
                exact W_r (r := r20) (f_int (ty := .boolean) (x := gx_bi r20) dX3_goes_94 rfl (gx_bn r20))
              · skip
                refine W_s (s_tsw_out dX3_goes_1 (gx_out_6_7 h1 h4 h7 h10 h13 h16 h19) rfl) ?_
                refine W_s (s_iconst dX3_goes_95 kci_0) ?_
                exact W_r (r := false) (f_int (ty := .boolean) (x := gx_bi false) dX3_goes_96 rfl (gx_bn false))

def f_X3_drawDo (μ : gx_M) : Option (Unit × gx_M) := if (μ.1 63 2) = 0 then some ((), μ) else gx_bd (f_X3_draw (μ.1 63 1) μ) (fun (r2 : Int32) (μ3 : gx_M) => gx_bd (f_X3_draw (μ3.1 63 2) μ3) (fun (r4 : Int32) (μ5 : gx_M) => gx_bd (f_X3_draw (μ5.1 63 0) μ5) (fun (r6 : Int32) (μ7 : gx_M) => gx_bd (f_X3_does r2 r4 r6 μ7) (fun (r8 : Bool) (μ9 : gx_M) => some ((), μ9)))))
theorem ev_X3_drawDo {E : gx_E} {l : Launch} (μ : gx_M) {r : Unit} {μ' : gx_M} (hr : f_X3_drawDo μ = some (r, μ')) : gEv E l 3 Y_X3_drawDo [.ref (E.2.2.1 + 62)] gx_G1 μ (gx_eV r) gx_G1 μ' := by
  refine W_ev (by decide) (Nat.le_of_ble_eq_true rfl) (em := gx_eV) (T := f_X3_drawDo μ) ?_ hr
  show GoW E l Y_X3_drawDo 3 gx_eV 0 (gx_el [.ref (E.2.2.1 + 62)]) [] μ (f_X3_drawDo μ)
  unfold f_X3_drawDo
  refine W_s (s_aload_n dX3_drawDo_0 rfl rfl) ?_
  refine W_s (gf_RX3_12 rfl dX3_drawDo_1) ?_
  refine W_s (gfm_RX3_150 St_c_63 rfl dX3_drawDo_4) ?_
  refine W_ite (fun h1 => ?_) (fun h1 => ?_)
  · refine W_s (s_if_ne_f dX3_drawDo_7 rfl h1) ?_
    exact W_r (r := ()) (f_void dX3_drawDo_10 rfl)
  · refine W_s (s_if_ne_t dX3_drawDo_7 rfl h1) ?_
    refine W_s (s_aload_n dX3_drawDo_11 rfl rfl) ?_
    refine W_s (s_aload_n dX3_drawDo_12 rfl rfl) ?_
    refine W_s (gf_RX3_12 rfl dX3_drawDo_13) ?_
    refine W_s (gfm_RX3_147 St_c_63 rfl dX3_drawDo_16) ?_
    refine W_bd (ec := gx_eI) (fun r_ μ_ hr_ => s_callV (As := [.int _]) dX3_drawDo_19 Lk_RX3_137 rfl g_62 (by decide) rfl (Nat.le_of_ble_eq_true rfl) (Nat.le_of_ble_eq_true rfl) (ev_X3_draw (μ.1 63 1) μ hr_)) (fun r2 μ3 => ?_)
    refine W_s (s_istore_n dX3_drawDo_22 rfl (Nat.le_of_ble_eq_true rfl)) ?_
    refine W_s (s_aload_n dX3_drawDo_23 rfl rfl) ?_
    refine W_s (s_aload_n dX3_drawDo_24 rfl rfl) ?_
    refine W_s (gf_RX3_12 rfl dX3_drawDo_25) ?_
    refine W_s (gfm_RX3_150 St_c_63 rfl dX3_drawDo_28) ?_
    refine W_bd (ec := gx_eI) (fun r_ μ_ hr_ => s_callV (As := [.int _]) dX3_drawDo_31 Lk_RX3_137 rfl g_62 (by decide) rfl (Nat.le_of_ble_eq_true rfl) (Nat.le_of_ble_eq_true rfl) (ev_X3_draw (μ3.1 63 2) μ3 hr_)) (fun r4 μ5 => ?_)
    refine W_s (s_istore_n dX3_drawDo_34 rfl (Nat.le_of_ble_eq_true rfl)) ?_
    refine W_s (s_aload_n dX3_drawDo_35 rfl rfl) ?_
    refine W_s (s_iload_n dX3_drawDo_36 rfl rfl) ?_
    refine W_s (s_iload_n dX3_drawDo_37 rfl rfl) ?_
    refine W_s (s_aload_n dX3_drawDo_38 rfl rfl) ?_
    refine W_s (s_aload_n dX3_drawDo_39 rfl rfl) ?_
    refine W_s (gf_RX3_12 rfl dX3_drawDo_40) ?_
    refine W_s (gfm_RX3_128 St_c_63 rfl dX3_drawDo_43) ?_
    refine W_bd (ec := gx_eI) (fun r_ μ_ hr_ => s_callV (As := [.int _]) dX3_drawDo_46 Lk_RX3_137 rfl g_62 (by decide) rfl (Nat.le_of_ble_eq_true rfl) (Nat.le_of_ble_eq_true rfl) (ev_X3_draw (μ5.1 63 0) μ5 hr_)) (fun r6 μ7 => ?_)
    refine W_bd (ec := gx_eB) (fun r_ μ_ hr_ => s_callV (As := [.int _, .int _, .int _]) dX3_drawDo_49 Lk_RX3_78 rfl g_62 (by decide) rfl (Nat.le_of_ble_eq_true rfl) (Nat.le_of_ble_eq_true rfl) (ev_X3_does r2 r4 r6 μ7 hr_)) (fun r8 μ9 => ?_)
    refine W_s (s_pop dX3_drawDo_52 rfl) ?_
    exact W_r (r := ()) (f_void dX3_drawDo_53 rfl)

def f_X4_tellLine (p1 : Int32) (p2 : Int32) (μ : gx_M) : Option (Unit × gx_M) := if p1 = 0 then gx_bd (f_X4_tellStreet p2 μ) (fun (r2 : Unit) (μ3 : gx_M) => some ((), μ3)) else if p1 = 1 then gx_br (f_X4_numberOrNone p2 1 μ) (fun (r5 : Int32) => gx_br (f_X4_numberOrNone p2 2 μ) (fun (r6 : Int32) => gx_bd (f_X2_append 53 40 p2 (μ.1 61 0) r5 r6 μ) (fun (r7 : Unit) (μ8 : gx_M) => some ((), μ8)))) else if p1 = 2 then gx_bd (f_X2_append 56 8 p2 (μ.1 61 0) (-1) (-1) μ) (fun (r10 : Unit) (μ11 : gx_M) => some ((), μ11)) else gx_bd (f_X4_tellSwaps p2 μ) (fun (r12 : Unit) (μ13 : gx_M) => some ((), μ13))
theorem ev_X4_tellLine {E : gx_E} {l : Launch} {fk : Nat} {uq : Option Nat} {adK adV : Nat → Nat} (hE : gx_EX E fk uq adK adV) (p1 : Int32) (p2 : Int32) (μ : gx_M) {r : Unit} {μ' : gx_M} (hr : f_X4_tellLine p1 p2 μ = some (r, μ')) : gEv E l 3 Y_X4_tellLine [.ref (E.2.2.1 + 42), .int p1, .int p2] gx_G1 μ (gx_eV r) gx_G1 μ' := by
  refine W_ev (by decide) (Nat.le_of_ble_eq_true rfl) (em := gx_eV) (T := f_X4_tellLine p1 p2 μ) ?_ hr
  show GoW E l Y_X4_tellLine 3 gx_eV 0 (gx_el [.ref (E.2.2.1 + 42), .int p1, .int p2]) [] μ (f_X4_tellLine p1 p2 μ)
  unfold f_X4_tellLine
  refine W_s (s_iload_n dX4_tellLine_0 rfl rfl) ?_
  refine W_ite (fun h1 => ?_) (fun h1 => ?_)
  · refine W_s (s_tsw_eq (c := 0) dX4_tellLine_1 h1 (by decide) (by decide) rfl rfl) ?_
    refine W_s (s_aload_n dX4_tellLine_28 rfl rfl) ?_
    refine W_s (s_iload_n dX4_tellLine_29 rfl rfl) ?_
    refine W_bd (ec := gx_eV) (fun r_ μ_ hr_ => s_callV (As := [.int _]) dX4_tellLine_30 Lk_RX4_216 rfl g_42 (by decide) rfl (Nat.le_of_ble_eq_true rfl) (Nat.le_of_ble_eq_true rfl) (ev_X4_tellStreet p2 μ hr_)) (fun r2 μ3 => ?_)
    refine W_s (s_goto dX4_tellLine_33 rfl) ?_
    exact W_r (r := ()) (f_void dX4_tellLine_89 rfl)
  · skip
    refine W_ite (fun h4 => ?_) (fun h4 => ?_)
    · refine W_s (s_tsw_eq (c := 1) dX4_tellLine_1 h4 (by decide) (by decide) rfl rfl) ?_
      refine W_s (s_aload_n dX4_tellLine_36 rfl rfl) ?_
      refine W_s (gf_RX4_30 rfl dX4_tellLine_37) ?_
      refine W_s (s_iload_n dX4_tellLine_40 rfl rfl) ?_
      refine W_s (s_aload_n dX4_tellLine_41 rfl rfl) ?_
      refine W_s (gf_RX4_44 rfl dX4_tellLine_42) ?_
      refine W_s (s_iconst dX4_tellLine_45 kci_0) ?_
      refine W_s (s_ialdL (k := 0) dX4_tellLine_46 g_61 (gx_inl (by decide)) (by decide)) ?_
      refine W_s (s_aload_n dX4_tellLine_47 rfl rfl) ?_
      refine W_s (s_iload_n dX4_tellLine_48 rfl rfl) ?_
      refine W_s (s_iconst dX4_tellLine_49 kci_1) ?_
      refine W_br (ec := gx_eI) (fun r_ hr_ => s_callV (As := [.int _, .int _]) dX4_tellLine_50 Lk_RX4_219 rfl g_42 (by decide) rfl (Nat.le_of_ble_eq_true rfl) (Nat.le_of_ble_eq_true rfl) (ev_X4_numberOrNone hE p2 1 μ hr_)) (fun r5 => ?_)
      refine W_s (s_aload_n dX4_tellLine_53 rfl rfl) ?_
      refine W_s (s_iload_n dX4_tellLine_54 rfl rfl) ?_
      refine W_s (s_iconst dX4_tellLine_55 kci_2) ?_
      refine W_br (ec := gx_eI) (fun r_ hr_ => s_callV (As := [.int _, .int _]) dX4_tellLine_56 Lk_RX4_219 rfl g_42 (by decide) rfl (Nat.le_of_ble_eq_true rfl) (Nat.le_of_ble_eq_true rfl) (ev_X4_numberOrNone hE p2 2 μ hr_)) (fun r6 => ?_)
      refine W_bd (ec := gx_eV) (fun r_ μ_ hr_ => s_callV (As := [.int _, .int _, .int _, .int _]) dX4_tellLine_59 Lk_RX4_222 rfl (Ln_0 (Ln_c_53)) (by decide) rfl (Nat.le_of_ble_eq_true rfl) (Nat.le_of_ble_eq_true rfl) (ev_X2_append 53 40 p2 (μ.1 61 0) r5 r6 (Ln_c_53) μ hr_)) (fun r7 μ8 => ?_)
      refine W_s (s_goto dX4_tellLine_62 rfl) ?_
      exact W_r (r := ()) (f_void dX4_tellLine_89 rfl)
    · skip
      refine W_ite (fun h9 => ?_) (fun h9 => ?_)
      · refine W_s (s_tsw_eq (c := 2) dX4_tellLine_1 h9 (by decide) (by decide) rfl rfl) ?_
        refine W_s (s_aload_n dX4_tellLine_65 rfl rfl) ?_
        refine W_s (gf_RX4_34 rfl dX4_tellLine_66) ?_
        refine W_s (s_iload_n dX4_tellLine_69 rfl rfl) ?_
        refine W_s (s_aload_n dX4_tellLine_70 rfl rfl) ?_
        refine W_s (gf_RX4_44 rfl dX4_tellLine_71) ?_
        refine W_s (s_iconst dX4_tellLine_74 kci_0) ?_
        refine W_s (s_ialdL (k := 0) dX4_tellLine_75 g_61 (gx_inl (by decide)) (by decide)) ?_
        refine W_s (s_iconst dX4_tellLine_76 kci_m1) ?_
        refine W_s (s_iconst dX4_tellLine_77 kci_m1) ?_
        refine W_bd (ec := gx_eV) (fun r_ μ_ hr_ => s_callV (As := [.int _, .int _, .int _, .int _]) dX4_tellLine_78 Lk_RX4_222 rfl (Ln_0 (Ln_c_56)) (by decide) rfl (Nat.le_of_ble_eq_true rfl) (Nat.le_of_ble_eq_true rfl) (ev_X2_append 56 8 p2 (μ.1 61 0) (-1) (-1) (Ln_c_56) μ hr_)) (fun r10 μ11 => ?_)
        refine W_s (s_goto dX4_tellLine_81 rfl) ?_
        exact W_r (r := ()) (f_void dX4_tellLine_89 rfl)
      · skip
        refine W_s (s_tsw_out dX4_tellLine_1 (gx_out_0_3 h1 h4 h9) rfl) ?_
        refine W_s (s_aload_n dX4_tellLine_84 rfl rfl) ?_
        refine W_s (s_iload_n dX4_tellLine_85 rfl rfl) ?_
        refine W_bd (ec := gx_eV) (fun r_ μ_ hr_ => s_callV (As := [.int _]) dX4_tellLine_86 Lk_RX4_226 rfl g_42 (by decide) rfl (Nat.le_of_ble_eq_true rfl) (Nat.le_of_ble_eq_true rfl) (ev_X4_tellSwaps p2 μ hr_)) (fun r12 μ13 => ?_)
        exact W_r (r := ()) (f_void dX4_tellLine_89 rfl)

def L_X10_settle_17 (a1 : Nat) (k7 : gx_M → Option (Unit × gx_M)) : Nat → Int32 → Int32 → gx_M → Option (Unit × gx_M)
  | 0, _, _, _ => none
  | n + 1, v2_4, v3_5, μ6 => if 6 ≤ v3_5 then k7 μ6 else if (μ6.1 a1 0) ≤ v2_4 then k7 μ6 else gx_bd (f_X10_pointAll a1 μ6) (fun (r10 : Unit) (μ11 : gx_M) => gx_bd (f_X10_letGo a1 v3_5 μ11) (fun (r12 : Int32) (μ13 : gx_M) => gx_lt (v2_4 + r12) (fun (x14 : Int32) => gx_lt (gx_uI μ13 84 3 ((μ13.1 84 3) + 1)) (fun (μ15 : gx_M) => L_X10_settle_17 a1 k7 n x14 (v3_5 + 1) μ15))))
def f_X10_settle (a1 : Nat) (μ : gx_M) : Option (Unit × gx_M) := gx_bd (f_J7_fill_53178 86 6 (-1) μ) (fun (r1 : Unit) (μ2 : gx_M) => gx_lt (gx_uI μ2 84 3 0) (fun (μ3 : gx_M) => L_X10_settle_17 a1 (fun (μ17 : gx_M) => some ((), μ17)) 4000 0 0 μ3))
theorem okL_X10_settle_17 {E : gx_E} {l : Launch} {a1 : Nat} (ha1 : gx_Sw a1) {k7 : gx_M → Option (Unit × gx_M)} (hk : ∀ (μ16 : gx_M), GoW E l Y_X10_settle 3 gx_eV 61 [] [] μ16 (k7 μ16)) : ∀ (n : Nat) (v2_4 : Int32) (v3_5 : Int32) (μ6 : gx_M), GoW E l Y_X10_settle 3 gx_eV 17 [some (.ref (E.2.2.1 + 84)), some (.ref (E.2.2.1 + a1)), some (.int v2_4), some (.int v3_5)] [] μ6 (L_X10_settle_17 a1 k7 n v2_4 v3_5 μ6) := by
  intro n
  induction n with
  | zero => intros; exact W_no
  | succ n ih =>
    intro v2_4 v3_5 μ6
    rw [L_X10_settle_17.eq_2]
    refine W_s (s_iload_n dX10_settle_17 rfl rfl) ?_
    refine W_s (s_bipush dX10_settle_18 kcb_6) ?_
    refine W_ite (fun h8 => ?_) (fun h8 => ?_)
    · refine W_s (s_icmp_ge_t dX10_settle_20 rfl h8) ?_
      exact W_wk (hk μ6) le_n
    · refine W_s (s_icmp_ge_f dX10_settle_20 rfl h8) ?_
      refine W_s (s_iload_n dX10_settle_23 rfl rfl) ?_
      refine W_s (s_aload_n dX10_settle_24 rfl rfl) ?_
      refine W_s (gfm_RX10_31 ha1 rfl dX10_settle_25) ?_
      refine W_ite (fun h9 => ?_) (fun h9 => ?_)
      · refine W_s (s_icmp_ge_t dX10_settle_28 rfl h9) ?_
        exact W_wk (hk μ6) le_n
      · refine W_s (s_icmp_ge_f dX10_settle_28 rfl h9) ?_
        refine W_s (s_aload_n dX10_settle_31 rfl rfl) ?_
        refine W_s (s_aload_n dX10_settle_32 rfl rfl) ?_
        refine W_bd (ec := gx_eV) (fun r_ μ_ hr_ => s_callV (As := [.ref _]) dX10_settle_33 Lk_RX10_36 rfl g_84 (by decide) rfl (Nat.le_of_ble_eq_true rfl) (Nat.le_of_ble_eq_true rfl) (ev_X10_pointAll a1 ha1 μ6 hr_)) (fun r10 μ11 => ?_)
        refine W_s (s_iload_n dX10_settle_36 rfl rfl) ?_
        refine W_s (s_aload_n dX10_settle_37 rfl rfl) ?_
        refine W_s (s_aload_n dX10_settle_38 rfl rfl) ?_
        refine W_s (s_iload_n dX10_settle_39 rfl rfl) ?_
        refine W_bd (ec := gx_eI) (fun r_ μ_ hr_ => s_callV (As := [.ref _, .int _]) dX10_settle_40 Lk_RX10_40 rfl g_84 (by decide) rfl (Nat.le_of_ble_eq_true rfl) (Nat.le_of_ble_eq_true rfl) (ev_X10_letGo a1 v3_5 ha1 μ11 hr_)) (fun r12 μ13 => ?_)
        refine W_s (s_iadd dX10_settle_43) ?_
        refine W_letI (fun x14 => ?_)
        refine W_s (s_istore_n dX10_settle_44 rfl (Nat.le_of_ble_eq_true rfl)) ?_
        refine W_s (s_aload_n dX10_settle_45 rfl rfl) ?_
        refine W_s (s_dup dX10_settle_46 rfl) ?_
        refine W_s (gf_RX10_27 rfl dX10_settle_47) ?_
        refine W_s (s_iconst dX10_settle_50 kci_1) ?_
        refine W_s (s_iadd dX10_settle_51) ?_
        refine W_s (pf_RX10_27 rfl dX10_settle_52) ?_
        refine W_letM (fun μ15 => ?_)
        refine W_s (s_iinc dX10_settle_55 rfl (kinc_1 v3_5) (Nat.le_of_ble_eq_true rfl)) ?_
        refine W_s (s_goto dX10_settle_58 rfl) ?_
        exact W_wk (ih x14 (v3_5 + 1) μ15) (le_s rfl (le_s rfl (le_s rfl (le_s rfl le_n))))
theorem ev_X10_settle {E : gx_E} {l : Launch} (a1 : Nat) (ha1 : gx_Sw a1) (μ : gx_M) {r : Unit} {μ' : gx_M} (hr : f_X10_settle a1 μ = some (r, μ')) : gEv E l 3 Y_X10_settle [.ref (E.2.2.1 + 84), .ref (E.2.2.1 + a1)] gx_G1 μ (gx_eV r) gx_G1 μ' := by
  refine W_ev (by decide) (Nat.le_of_ble_eq_true rfl) (em := gx_eV) (T := f_X10_settle a1 μ) ?_ hr
  show GoW E l Y_X10_settle 3 gx_eV 0 (gx_el [.ref (E.2.2.1 + 84), .ref (E.2.2.1 + a1)]) [] μ (f_X10_settle a1 μ)
  unfold f_X10_settle
  refine W_s (s_aload_n dX10_settle_0 rfl rfl) ?_
  refine W_s (gf_RX10_15 rfl dX10_settle_1) ?_
  refine W_s (s_iconst dX10_settle_4 kci_m1) ?_
  refine W_bd (ec := gx_eV) (fun r_ μ_ hr_ => s_callS (As := [.ref _, .int _]) dX10_settle_5 Lk_RX10_21 rfl (Nat.le_of_ble_eq_true rfl) (Nat.le_of_ble_eq_true rfl) (ev_J7_fill_53178 86 6 (-1) g_86 μ hr_)) (fun r1 μ2 => ?_)
  refine W_s (s_aload_n dX10_settle_8 rfl rfl) ?_
  refine W_s (s_iconst dX10_settle_9 kci_0) ?_
  refine W_s (pf_RX10_27 rfl dX10_settle_10) ?_
  refine W_letM (fun μ3 => ?_)
  refine W_s (s_iconst dX10_settle_13 kci_0) ?_
  refine W_s (s_istore_n dX10_settle_14 rfl (Nat.le_of_ble_eq_true rfl)) ?_
  refine W_s (s_iconst dX10_settle_15 kci_0) ?_
  refine W_s (s_istore_n dX10_settle_16 rfl (Nat.le_of_ble_eq_true rfl)) ?_
  refine W_wk (okL_X10_settle_17 ha1 ?_ 4000 0 0 μ3) (le_s rfl (le_s rfl (le_s rfl (le_s rfl le_n))))
  intro μ17
  exact W_r (r := ()) (f_void dX10_settle_61 rfl)

def f_X11_image (p1 : Int32) (μ : gx_M) : Option (Bool × gx_M) := if p1 < 0 then some (false, μ) else if p1 < 3 then gx_ck (gx_ix p1 3 = true) (gx_lt (89 + 39 * p1.toNatClampNeg) (fun (o4 : Nat) => gx_bd (f_X9_copyFrom o4 1 μ) (fun (r5 : Unit) (μ6 : gx_M) => gx_lt (gx_uI μ6 41 p1.toNatClampNeg (gx_bi true)) (fun (μ7 : gx_M) => some (true, μ7))))) else some (false, μ)
theorem ev_X11_image {E : gx_E} {l : Launch} (p1 : Int32) (μ : gx_M) {r : Bool} {μ' : gx_M} (hr : f_X11_image p1 μ = some (r, μ')) : gEv E l 3 Y_X11_image [.ref (E.2.2.1 + 0), .int p1] gx_G1 μ (gx_eB r) gx_G1 μ' := by
  refine W_ev (by decide) (Nat.le_of_ble_eq_true rfl) (em := gx_eB) (T := f_X11_image p1 μ) ?_ hr
  show GoW E l Y_X11_image 3 gx_eB 0 (gx_el [.ref (E.2.2.1 + 0), .int p1]) [] μ (f_X11_image p1 μ)
  unfold f_X11_image
  refine W_s (s_iload_n dX11_image_0 rfl rfl) ?_
  refine W_ite (fun h1 => ?_) (fun h1 => ?_)
  · refine W_s (s_if_lt_t dX11_image_1 rfl h1) ?_
    refine W_s (s_iconst dX11_image_9 kci_0) ?_
    exact W_r (r := false) (f_int (ty := .boolean) (x := gx_bi false) dX11_image_10 rfl (gx_bn false))
  · refine W_s (s_if_lt_f dX11_image_1 rfl h1) ?_
    refine W_s (s_iload_n dX11_image_4 rfl rfl) ?_
    refine W_s (s_iconst dX11_image_5 kci_3) ?_
    refine W_ite (fun h2 => ?_) (fun h2 => ?_)
    · refine W_s (s_icmp_lt_t dX11_image_6 rfl h2) ?_
      refine W_s (s_aload_n dX11_image_11 rfl rfl) ?_
      refine W_s (gf_RX11_16 rfl dX11_image_12) ?_
      refine W_s (s_iload_n dX11_image_15 rfl rfl) ?_
      refine W_ck (fun h3 => ?_)
      refine W_s (aq_40 dX11_image_16 (gx_ixv h3)) ?_
      refine W_letA (C := fun x => gx_Td x) (aqh_40 (gx_ixv h3)) (fun o4 ho4 => ?_)
      refine W_s (s_aload_n dX11_image_17 rfl rfl) ?_
      refine W_s (gf_RX11_12 rfl dX11_image_18) ?_
      refine W_bd (ec := gx_eV) (fun r_ μ_ hr_ => s_callV (As := [.ref _]) dX11_image_21 Lk_RX11_101 rfl (Td_0 ho4) (by decide) rfl (Nat.le_of_ble_eq_true rfl) (Nat.le_of_ble_eq_true rfl) (ev_X9_copyFrom o4 1 ho4 Td_c_1 μ hr_)) (fun r5 μ6 => ?_)
      refine W_s (s_aload_n dX11_image_24 rfl rfl) ?_
      refine W_s (gf_RX11_20 rfl dX11_image_25) ?_
      refine W_s (s_iload_n dX11_image_28 rfl rfl) ?_
      refine W_s (s_iconst dX11_image_29 kci_1) ?_
      refine W_s (s_zastB (b := true) dX11_image_30 g_41 (gx_ixv h3)) ?_
      refine W_letM (fun μ7 => ?_)
      refine W_s (s_iconst dX11_image_31 kci_1) ?_
      exact W_r (r := true) (f_int (ty := .boolean) (x := gx_bi true) dX11_image_32 rfl (gx_bn true))
    · refine W_s (s_icmp_lt_f dX11_image_6 rfl h2) ?_
      refine W_s (s_iconst dX11_image_9 kci_0) ?_
      exact W_r (r := false) (f_int (ty := .boolean) (x := gx_bi false) dX11_image_10 rfl (gx_bn false))

def f_X11_again (p1 : Int32) (μ : gx_M) : Option (Bool × gx_M) := if p1 < 0 then some (false, μ) else if 3 ≤ p1 then some (false, μ) else gx_ck (gx_ix p1 3 = true) (if (μ.1 41 p1.toNatClampNeg) = 0 then some (false, μ) else gx_lt (89 + 39 * p1.toNatClampNeg) (fun (o5 : Nat) => gx_bd (f_X9_copyFrom 1 o5 μ) (fun (r6 : Unit) (μ7 : gx_M) => some (true, μ7))))
theorem ev_X11_again {E : gx_E} {l : Launch} (p1 : Int32) (μ : gx_M) {r : Bool} {μ' : gx_M} (hr : f_X11_again p1 μ = some (r, μ')) : gEv E l 3 Y_X11_again [.ref (E.2.2.1 + 0), .int p1] gx_G1 μ (gx_eB r) gx_G1 μ' := by
  refine W_ev (by decide) (Nat.le_of_ble_eq_true rfl) (em := gx_eB) (T := f_X11_again p1 μ) ?_ hr
  show GoW E l Y_X11_again 3 gx_eB 0 (gx_el [.ref (E.2.2.1 + 0), .int p1]) [] μ (f_X11_again p1 μ)
  unfold f_X11_again
  refine W_s (s_iload_n dX11_again_0 rfl rfl) ?_
  refine W_ite (fun h1 => ?_) (fun h1 => ?_)
  · refine W_s (s_if_lt_t dX11_again_1 rfl h1) ?_
    refine W_s (s_iconst dX11_again_18 kci_0) ?_
    exact W_r (r := false) (f_int (ty := .boolean) (x := gx_bi false) dX11_again_19 rfl (gx_bn false))
  · refine W_s (s_if_lt_f dX11_again_1 rfl h1) ?_
    refine W_s (s_iload_n dX11_again_4 rfl rfl) ?_
    refine W_s (s_iconst dX11_again_5 kci_3) ?_
    refine W_ite (fun h2 => ?_) (fun h2 => ?_)
    · refine W_s (s_icmp_ge_t dX11_again_6 rfl h2) ?_
      refine W_s (s_iconst dX11_again_18 kci_0) ?_
      exact W_r (r := false) (f_int (ty := .boolean) (x := gx_bi false) dX11_again_19 rfl (gx_bn false))
    · refine W_s (s_icmp_ge_f dX11_again_6 rfl h2) ?_
      refine W_s (s_aload_n dX11_again_9 rfl rfl) ?_
      refine W_s (gf_RX11_20 rfl dX11_again_10) ?_
      refine W_s (s_iload_n dX11_again_13 rfl rfl) ?_
      refine W_ck (fun h3 => ?_)
      refine W_s (s_zald dX11_again_14 g_41 (gx_ixv h3)) ?_
      refine W_ite (fun h4 => ?_) (fun h4 => ?_)
      · refine W_s (s_if_ne_f dX11_again_15 rfl h4) ?_
        refine W_s (s_iconst dX11_again_18 kci_0) ?_
        exact W_r (r := false) (f_int (ty := .boolean) (x := gx_bi false) dX11_again_19 rfl (gx_bn false))
      · refine W_s (s_if_ne_t dX11_again_15 rfl h4) ?_
        refine W_s (s_aload_n dX11_again_20 rfl rfl) ?_
        refine W_s (gf_RX11_12 rfl dX11_again_21) ?_
        refine W_s (s_aload_n dX11_again_24 rfl rfl) ?_
        refine W_s (gf_RX11_16 rfl dX11_again_25) ?_
        refine W_s (s_iload_n dX11_again_28 rfl rfl) ?_
        refine W_s (aq_40 dX11_again_29 (gx_ixv h3)) ?_
        refine W_letA (C := fun x => gx_Td x) (aqh_40 (gx_ixv h3)) (fun o5 ho5 => ?_)
        refine W_bd (ec := gx_eV) (fun r_ μ_ hr_ => s_callV (As := [.ref _]) dX11_again_30 Lk_RX11_101 rfl g_1 (by decide) rfl (Nat.le_of_ble_eq_true rfl) (Nat.le_of_ble_eq_true rfl) (ev_X9_copyFrom 1 o5 Td_c_1 ho5 μ hr_)) (fun r6 μ7 => ?_)
        refine W_s (s_iconst dX11_again_33 kci_1) ?_
        exact W_r (r := true) (f_int (ty := .boolean) (x := gx_bi true) dX11_again_34 rfl (gx_bn true))

def f_X11_run (p1 : Int32) (p2 : Int32) (p3 : Int32) (p4 : Bool) (μ : gx_M) : Option (Int32 × gx_M) := gx_br (f_X11_hasPerson p1 p2 μ) (fun (r1 : Bool) => if r1 = true then gx_ck (gx_ix p1 2 = true) (gx_lt (8 + 16 * p1.toNatClampNeg) (fun (o4 : Nat) => if (f_X5_hasBusiness o4 p3 μ) = true then gx_lt (8 + 16 * p1.toNatClampNeg) (fun (o6 : Nat) => gx_bd (f_X0_weighRuns o6 p2 1099511627775 μ) (fun (r7 : Unit) (μ8 : gx_M) => if p4 = true then gx_br (f_X0_bestCost o6 p3 μ8) (fun (r10 : Int32) => some (r10, μ8)) else gx_br (f_X0_bestFirst o6 p3 μ8) (fun (r11 : Int32) => some (r11, μ8)))) else some ((-1), μ))) else some ((-1), μ))
theorem ev_X11_run {E : gx_E} {l : Launch} (p1 : Int32) (p2 : Int32) (p3 : Int32) (p4 : Bool) (μ : gx_M) {r : Int32} {μ' : gx_M} (hr : f_X11_run p1 p2 p3 p4 μ = some (r, μ')) : gEv E l 3 Y_X11_run [.ref (E.2.2.1 + 0), .int p1, .int p2, .int p3, .int (gx_bi p4)] gx_G1 μ (gx_eI r) gx_G1 μ' := by
  refine W_ev (by decide) (Nat.le_of_ble_eq_true rfl) (em := gx_eI) (T := f_X11_run p1 p2 p3 p4 μ) ?_ hr
  show GoW E l Y_X11_run 3 gx_eI 0 (gx_el [.ref (E.2.2.1 + 0), .int p1, .int p2, .int p3, .int (gx_bi p4)]) [] μ (f_X11_run p1 p2 p3 p4 μ)
  unfold f_X11_run
  refine W_s (s_aload_n dX11_run_0 rfl rfl) ?_
  refine W_s (s_iload_n dX11_run_1 rfl rfl) ?_
  refine W_s (s_iload_n dX11_run_2 rfl rfl) ?_
  refine W_br (ec := gx_eB) (fun r_ hr_ => s_callV (As := [.int _, .int _]) dX11_run_3 Lk_RX11_118 rfl g_0 (by decide) rfl (Nat.le_of_ble_eq_true rfl) (Nat.le_of_ble_eq_true rfl) (ev_X11_hasPerson p1 p2 μ hr_)) (fun r1 => ?_)
  refine W_ite (fun h2 => ?_) (fun h2 => ?_)
  · refine W_s (s_if_eq_f dX11_run_6 rfl (gx_bt h2)) ?_
    refine W_s (s_aload_n dX11_run_9 rfl rfl) ?_
    refine W_s (gf_RX11_12 rfl dX11_run_10) ?_
    refine W_s (gf_RX11_109 rfl dX11_run_13) ?_
    refine W_s (s_iload_n dX11_run_16 rfl rfl) ?_
    refine W_ck (fun h3 => ?_)
    refine W_s (aq_3 dX11_run_17 (gx_ixv h3)) ?_
    refine W_letA (C := fun x => gx_St x) (aqh_3 (gx_ixv h3)) (fun o4 ho4 => ?_)
    refine W_s (s_iload_n dX11_run_18 rfl rfl) ?_
    refine W_s (s_callV (As := [.int _]) dX11_run_19 Lk_RX11_209 rfl (St_0 ho4) (by decide) rfl (Nat.le_of_ble_eq_true rfl) (Nat.le_of_ble_eq_true rfl) (ev_X5_hasBusiness o4 p3 ho4 μ)) ?_
    refine W_ite (fun h5 => ?_) (fun h5 => ?_)
    · refine W_s (s_if_ne_t dX11_run_22 rfl (gx_bt h5)) ?_
      refine W_s (s_aload_n dX11_run_27 rfl rfl) ?_
      refine W_s (gf_RX11_12 rfl dX11_run_28) ?_
      refine W_s (gf_RX11_109 rfl dX11_run_31) ?_
      refine W_s (s_iload_n dX11_run_34 rfl rfl) ?_
      refine W_s (aq_3 dX11_run_35 (gx_ixv h3)) ?_
      refine W_letA (C := fun x => gx_St x) (aqh_3 (gx_ixv h3)) (fun o6 ho6 => ?_)
      refine W_s (s_astore dX11_run_36 (Nat.le_of_ble_eq_true rfl)) ?_
      refine W_s (s_aload_n dX11_run_38 rfl rfl) ?_
      refine W_s (gf_RX11_41 rfl dX11_run_39) ?_
      refine W_s (s_aload dX11_run_42 rfl) ?_
      refine W_s (s_iload_n dX11_run_44 rfl rfl) ?_
      refine W_s (s_ldc2 dX11_run_45 kw_RX11_212) ?_
      refine W_bd (ec := gx_eV) (fun r_ μ_ hr_ => s_callV (As := [.ref _, .int _, .long _]) dX11_run_48 Lk_RX11_214 rfl g_75 (by decide) rfl (Nat.le_of_ble_eq_true rfl) (Nat.le_of_ble_eq_true rfl) (ev_X0_weighRuns o6 p2 1099511627775 ho6 μ hr_)) (fun r7 μ8 => ?_)
      refine W_s (s_iload dX11_run_51 rfl) ?_
      refine W_ite (fun h9 => ?_) (fun h9 => ?_)
      · refine W_s (s_if_eq_f dX11_run_53 rfl (gx_bt h9)) ?_
        refine W_s (s_aload_n dX11_run_56 rfl rfl) ?_
        refine W_s (gf_RX11_41 rfl dX11_run_57) ?_
        refine W_s (s_aload dX11_run_60 rfl) ?_
        refine W_s (s_iload_n dX11_run_62 rfl rfl) ?_
        refine W_br (ec := gx_eI) (fun r_ hr_ => s_callV (As := [.ref _, .int _]) dX11_run_63 Lk_RX11_218 rfl g_75 (by decide) rfl (Nat.le_of_ble_eq_true rfl) (Nat.le_of_ble_eq_true rfl) (ev_X0_bestCost o6 p3 ho6 μ8 hr_)) (fun r10 => ?_)
        refine W_s (s_goto dX11_run_66 rfl) ?_
        exact W_r (r := r10) (f_int (ty := .int) dX11_run_79 rfl rfl)
      · refine W_s (s_if_eq_t dX11_run_53 rfl (gx_bf h9)) ?_
        refine W_s (s_aload_n dX11_run_69 rfl rfl) ?_
        refine W_s (gf_RX11_41 rfl dX11_run_70) ?_
        refine W_s (s_aload dX11_run_73 rfl) ?_
        refine W_s (s_iload_n dX11_run_75 rfl rfl) ?_
        refine W_br (ec := gx_eI) (fun r_ hr_ => s_callV (As := [.ref _, .int _]) dX11_run_76 Lk_RX11_221 rfl g_75 (by decide) rfl (Nat.le_of_ble_eq_true rfl) (Nat.le_of_ble_eq_true rfl) (ev_X0_bestFirst o6 p3 ho6 μ8 hr_)) (fun r11 => ?_)
        exact W_r (r := r11) (f_int (ty := .int) dX11_run_79 rfl rfl)
    · refine W_s (s_if_ne_f dX11_run_22 rfl (gx_bf h5)) ?_
      refine W_s (s_iconst dX11_run_25 kci_m1) ?_
      exact W_r (r := (-1)) (f_int (ty := .int) dX11_run_26 rfl rfl)
  · refine W_s (s_if_eq_t dX11_run_6 rfl (gx_bf h2)) ?_
    refine W_s (s_iconst dX11_run_25 kci_m1) ?_
    exact W_r (r := (-1)) (f_int (ty := .int) dX11_run_26 rfl rfl)

def f_X11_errands (p1 : Int32) (p2 : Int32) (p3 : Int32) (p4 : Int32) (μ : gx_M) : Option (Int32 × gx_M) := gx_br (f_X11_hasPersonAndSet p1 p2 p3 μ) (fun (r1 : Bool) => if r1 = true then gx_ck (gx_ix p1 2 = true) (gx_lt (8 + 16 * p1.toNatClampNeg) (fun (o4 : Nat) => gx_bd (f_X0_weighRuns o4 p2 1099511627775 μ) (fun (r5 : Unit) (μ6 : gx_M) => gx_bd (f_X0_arrange o4 p3 μ6) (fun (r7 : Unit) (μ8 : gx_M) => if p4 = (-1) then gx_br (f_X0_costOfSet o4 p3 μ8) (fun (r11 : Int32) => some (r11, μ8)) else gx_br (f_X0_firstMinuteIn o4 p3 p4 μ8) (fun (r10 : Int32) => some (r10, μ8)))))) else some ((-1), μ))
theorem ev_X11_errands {E : gx_E} {l : Launch} (p1 : Int32) (p2 : Int32) (p3 : Int32) (p4 : Int32) (μ : gx_M) {r : Int32} {μ' : gx_M} (hr : f_X11_errands p1 p2 p3 p4 μ = some (r, μ')) : gEv E l 3 Y_X11_errands [.ref (E.2.2.1 + 0), .int p1, .int p2, .int p3, .int p4] gx_G1 μ (gx_eI r) gx_G1 μ' := by
  refine W_ev (by decide) (Nat.le_of_ble_eq_true rfl) (em := gx_eI) (T := f_X11_errands p1 p2 p3 p4 μ) ?_ hr
  show GoW E l Y_X11_errands 3 gx_eI 0 (gx_el [.ref (E.2.2.1 + 0), .int p1, .int p2, .int p3, .int p4]) [] μ (f_X11_errands p1 p2 p3 p4 μ)
  unfold f_X11_errands
  refine W_s (s_aload_n dX11_errands_0 rfl rfl) ?_
  refine W_s (s_iload_n dX11_errands_1 rfl rfl) ?_
  refine W_s (s_iload_n dX11_errands_2 rfl rfl) ?_
  refine W_s (s_iload_n dX11_errands_3 rfl rfl) ?_
  refine W_br (ec := gx_eB) (fun r_ hr_ => s_callV (As := [.int _, .int _, .int _]) dX11_errands_4 Lk_RX11_224 rfl g_0 (by decide) rfl (Nat.le_of_ble_eq_true rfl) (Nat.le_of_ble_eq_true rfl) (ev_X11_hasPersonAndSet p1 p2 p3 μ hr_)) (fun r1 => ?_)
  refine W_ite (fun h2 => ?_) (fun h2 => ?_)
  · refine W_s (s_if_ne_t dX11_errands_7 rfl (gx_bt h2)) ?_
    refine W_s (s_aload_n dX11_errands_12 rfl rfl) ?_
    refine W_s (gf_RX11_12 rfl dX11_errands_13) ?_
    refine W_s (gf_RX11_109 rfl dX11_errands_16) ?_
    refine W_s (s_iload_n dX11_errands_19 rfl rfl) ?_
    refine W_ck (fun h3 => ?_)
    refine W_s (aq_3 dX11_errands_20 (gx_ixv h3)) ?_
    refine W_letA (C := fun x => gx_St x) (aqh_3 (gx_ixv h3)) (fun o4 ho4 => ?_)
    refine W_s (s_astore dX11_errands_21 (Nat.le_of_ble_eq_true rfl)) ?_
    refine W_s (s_aload_n dX11_errands_23 rfl rfl) ?_
    refine W_s (gf_RX11_41 rfl dX11_errands_24) ?_
    refine W_s (s_aload dX11_errands_27 rfl) ?_
    refine W_s (s_iload_n dX11_errands_29 rfl rfl) ?_
    refine W_s (s_ldc2 dX11_errands_30 kw_RX11_212) ?_
    refine W_bd (ec := gx_eV) (fun r_ μ_ hr_ => s_callV (As := [.ref _, .int _, .long _]) dX11_errands_33 Lk_RX11_214 rfl g_75 (by decide) rfl (Nat.le_of_ble_eq_true rfl) (Nat.le_of_ble_eq_true rfl) (ev_X0_weighRuns o4 p2 1099511627775 ho4 μ hr_)) (fun r5 μ6 => ?_)
    refine W_s (s_aload_n dX11_errands_36 rfl rfl) ?_
    refine W_s (gf_RX11_41 rfl dX11_errands_37) ?_
    refine W_s (s_aload dX11_errands_40 rfl) ?_
    refine W_s (s_iload_n dX11_errands_42 rfl rfl) ?_
    refine W_bd (ec := gx_eV) (fun r_ μ_ hr_ => s_callV (As := [.ref _, .int _]) dX11_errands_43 Lk_RX11_227 rfl g_75 (by decide) rfl (Nat.le_of_ble_eq_true rfl) (Nat.le_of_ble_eq_true rfl) (ev_X0_arrange o4 p3 ho4 μ6 hr_)) (fun r7 μ8 => ?_)
    refine W_s (s_iload dX11_errands_46 rfl) ?_
    refine W_s (s_iconst dX11_errands_48 kci_m1) ?_
    refine W_ite (fun h9 => ?_) (fun h9 => ?_)
    · refine W_s (s_icmp_ne_f dX11_errands_49 rfl h9) ?_
      refine W_s (s_aload_n dX11_errands_52 rfl rfl) ?_
      refine W_s (gf_RX11_41 rfl dX11_errands_53) ?_
      refine W_s (s_aload dX11_errands_56 rfl) ?_
      refine W_s (s_iload_n dX11_errands_58 rfl rfl) ?_
      refine W_br (ec := gx_eI) (fun r_ hr_ => s_callV (As := [.ref _, .int _]) dX11_errands_59 Lk_RX11_231 rfl g_75 (by decide) rfl (Nat.le_of_ble_eq_true rfl) (Nat.le_of_ble_eq_true rfl) (ev_X0_costOfSet o4 p3 ho4 μ8 hr_)) (fun r11 => ?_)
      exact W_r (r := r11) (f_int (ty := .int) dX11_errands_62 rfl rfl)
    · refine W_s (s_icmp_ne_t dX11_errands_49 rfl h9) ?_
      refine W_s (s_aload_n dX11_errands_63 rfl rfl) ?_
      refine W_s (gf_RX11_41 rfl dX11_errands_64) ?_
      refine W_s (s_aload dX11_errands_67 rfl) ?_
      refine W_s (s_iload_n dX11_errands_69 rfl rfl) ?_
      refine W_s (s_iload dX11_errands_70 rfl) ?_
      refine W_br (ec := gx_eI) (fun r_ hr_ => s_callV (As := [.ref _, .int _, .int _]) dX11_errands_72 Lk_RX11_234 rfl g_75 (by decide) rfl (Nat.le_of_ble_eq_true rfl) (Nat.le_of_ble_eq_true rfl) (ev_X0_firstMinuteIn o4 p3 p4 ho4 μ8 hr_)) (fun r10 => ?_)
      exact W_r (r := r10) (f_int (ty := .int) dX11_errands_75 rfl rfl)
  · refine W_s (s_if_ne_f dX11_errands_7 rfl (gx_bf h2)) ?_
    refine W_s (s_iconst dX11_errands_10 kci_m1) ?_
    exact W_r (r := (-1)) (f_int (ty := .int) dX11_errands_11 rfl rfl)

def f_X11_early (p1 : Int32) (p2 : Int32) (p3 : Int32) (μ : gx_M) : Option (Int32 × gx_M) := gx_br (f_X11_hasPersonAndSet p1 p2 p3 μ) (fun (r1 : Bool) => if r1 = true then gx_ck (gx_ix p1 2 = true) (gx_lt (8 + 16 * p1.toNatClampNeg) (fun (o4 : Nat) => gx_br (f_X5_held o4 p2 μ) (fun (r5 : Int64) => gx_bd (f_X0_weighRuns o4 p2 r5 μ) (fun (r6 : Unit) (μ7 : gx_M) => gx_bd (f_X0_arrange o4 p3 μ7) (fun (r8 : Unit) (μ9 : gx_M) => gx_br (f_X0_lastUsed o4 p3 μ9) (fun (r10 : Int32) => some (r10, μ9))))))) else some ((-1), μ))
theorem ev_X11_early {E : gx_E} {l : Launch} (p1 : Int32) (p2 : Int32) (p3 : Int32) (μ : gx_M) {r : Int32} {μ' : gx_M} (hr : f_X11_early p1 p2 p3 μ = some (r, μ')) : gEv E l 3 Y_X11_early [.ref (E.2.2.1 + 0), .int p1, .int p2, .int p3] gx_G1 μ (gx_eI r) gx_G1 μ' := by
  refine W_ev (by decide) (Nat.le_of_ble_eq_true rfl) (em := gx_eI) (T := f_X11_early p1 p2 p3 μ) ?_ hr
  show GoW E l Y_X11_early 3 gx_eI 0 (gx_el [.ref (E.2.2.1 + 0), .int p1, .int p2, .int p3]) [] μ (f_X11_early p1 p2 p3 μ)
  unfold f_X11_early
  refine W_s (s_aload_n dX11_early_0 rfl rfl) ?_
  refine W_s (s_iload_n dX11_early_1 rfl rfl) ?_
  refine W_s (s_iload_n dX11_early_2 rfl rfl) ?_
  refine W_s (s_iload_n dX11_early_3 rfl rfl) ?_
  refine W_br (ec := gx_eB) (fun r_ hr_ => s_callV (As := [.int _, .int _, .int _]) dX11_early_4 Lk_RX11_224 rfl g_0 (by decide) rfl (Nat.le_of_ble_eq_true rfl) (Nat.le_of_ble_eq_true rfl) (ev_X11_hasPersonAndSet p1 p2 p3 μ hr_)) (fun r1 => ?_)
  refine W_ite (fun h2 => ?_) (fun h2 => ?_)
  · refine W_s (s_if_ne_t dX11_early_7 rfl (gx_bt h2)) ?_
    refine W_s (s_aload_n dX11_early_12 rfl rfl) ?_
    refine W_s (gf_RX11_12 rfl dX11_early_13) ?_
    refine W_s (gf_RX11_109 rfl dX11_early_16) ?_
    refine W_s (s_iload_n dX11_early_19 rfl rfl) ?_
    refine W_ck (fun h3 => ?_)
    refine W_s (aq_3 dX11_early_20 (gx_ixv h3)) ?_
    refine W_letA (C := fun x => gx_St x) (aqh_3 (gx_ixv h3)) (fun o4 ho4 => ?_)
    refine W_s (s_astore dX11_early_21 (Nat.le_of_ble_eq_true rfl)) ?_
    refine W_s (s_aload_n dX11_early_23 rfl rfl) ?_
    refine W_s (gf_RX11_41 rfl dX11_early_24) ?_
    refine W_s (s_aload dX11_early_27 rfl) ?_
    refine W_s (s_iload_n dX11_early_29 rfl rfl) ?_
    refine W_s (s_aload dX11_early_30 rfl) ?_
    refine W_s (s_iload_n dX11_early_32 rfl rfl) ?_
    refine W_br (ec := gx_eL) (fun r_ hr_ => s_callV (As := [.int _]) dX11_early_33 Lk_RX11_261 rfl (St_0 ho4) (by decide) rfl (Nat.le_of_ble_eq_true rfl) (Nat.le_of_ble_eq_true rfl) (ev_X5_held o4 p2 ho4 μ hr_)) (fun r5 => ?_)
    refine W_bd (ec := gx_eV) (fun r_ μ_ hr_ => s_callV (As := [.ref _, .int _, .long _]) dX11_early_36 Lk_RX11_214 rfl g_75 (by decide) rfl (Nat.le_of_ble_eq_true rfl) (Nat.le_of_ble_eq_true rfl) (ev_X0_weighRuns o4 p2 r5 ho4 μ hr_)) (fun r6 μ7 => ?_)
    refine W_s (s_aload_n dX11_early_39 rfl rfl) ?_
    refine W_s (gf_RX11_41 rfl dX11_early_40) ?_
    refine W_s (s_aload dX11_early_43 rfl) ?_
    refine W_s (s_iload_n dX11_early_45 rfl rfl) ?_
    refine W_bd (ec := gx_eV) (fun r_ μ_ hr_ => s_callV (As := [.ref _, .int _]) dX11_early_46 Lk_RX11_227 rfl g_75 (by decide) rfl (Nat.le_of_ble_eq_true rfl) (Nat.le_of_ble_eq_true rfl) (ev_X0_arrange o4 p3 ho4 μ7 hr_)) (fun r8 μ9 => ?_)
    refine W_s (s_aload_n dX11_early_49 rfl rfl) ?_
    refine W_s (gf_RX11_41 rfl dX11_early_50) ?_
    refine W_s (s_aload dX11_early_53 rfl) ?_
    refine W_s (s_iload_n dX11_early_55 rfl rfl) ?_
    refine W_br (ec := gx_eI) (fun r_ hr_ => s_callV (As := [.ref _, .int _]) dX11_early_56 Lk_RX11_265 rfl g_75 (by decide) rfl (Nat.le_of_ble_eq_true rfl) (Nat.le_of_ble_eq_true rfl) (ev_X0_lastUsed o4 p3 ho4 μ9 hr_)) (fun r10 => ?_)
    exact W_r (r := r10) (f_int (ty := .int) dX11_early_59 rfl rfl)
  · refine W_s (s_if_ne_f dX11_early_7 rfl (gx_bf h2)) ?_
    refine W_s (s_iconst dX11_early_10 kci_m1) ?_
    exact W_r (r := (-1)) (f_int (ty := .int) dX11_early_11 rfl rfl)

def f_X11_fits (p1 : Int32) (p2 : Int32) (μ : gx_M) : Option (Int32 × gx_M) := gx_br (f_X11_hasLog p1 μ) (fun (r1 : Bool) => if r1 = true then gx_ck (gx_ix p1 2 = true) (gx_lt (19 + 16 * p1.toNatClampNeg) (fun (o4 : Nat) => gx_bd (f_X7_look o4 8 μ) (fun (r5 : Unit) (μ6 : gx_M) => if p2 = 0 then some ((μ6.1 82 3), μ6) else if p2 = 1 then some ((μ6.1 82 4), μ6) else if p2 = 2 then some ((μ6.1 82 5), μ6) else if p2 = 3 then gx_br (f_X7_seek μ6) (fun (r11 : Int32) => some (r11, μ6)) else if p2 < 10 then some ((-2), μ6) else gx_br (f_X7_codeAt (p2 - 10) μ6) (fun (r13 : Int32) => some (r13, μ6))))) else some ((-2), μ))
theorem ev_X11_fits {E : gx_E} {l : Launch} (p1 : Int32) (p2 : Int32) (μ : gx_M) {r : Int32} {μ' : gx_M} (hr : f_X11_fits p1 p2 μ = some (r, μ')) : gEv E l 3 Y_X11_fits [.ref (E.2.2.1 + 0), .int p1, .int p2] gx_G1 μ (gx_eI r) gx_G1 μ' := by
  refine W_ev (by decide) (Nat.le_of_ble_eq_true rfl) (em := gx_eI) (T := f_X11_fits p1 p2 μ) ?_ hr
  show GoW E l Y_X11_fits 3 gx_eI 0 (gx_el [.ref (E.2.2.1 + 0), .int p1, .int p2]) [] μ (f_X11_fits p1 p2 μ)
  unfold f_X11_fits
  refine W_s (s_aload_n dX11_fits_0 rfl rfl) ?_
  refine W_s (s_iload_n dX11_fits_1 rfl rfl) ?_
  refine W_br (ec := gx_eB) (fun r_ hr_ => s_callV (As := [.int _]) dX11_fits_2 Lk_RX11_329 rfl g_0 (by decide) rfl (Nat.le_of_ble_eq_true rfl) (Nat.le_of_ble_eq_true rfl) (ev_X11_hasLog p1 μ hr_)) (fun r1 => ?_)
  refine W_ite (fun h2 => ?_) (fun h2 => ?_)
  · refine W_s (s_if_ne_t dX11_fits_5 rfl (gx_bt h2)) ?_
    refine W_s (s_aload_n dX11_fits_11 rfl rfl) ?_
    refine W_s (gf_RX11_55 rfl dX11_fits_12) ?_
    refine W_s (s_aload_n dX11_fits_15 rfl rfl) ?_
    refine W_s (gf_RX11_12 rfl dX11_fits_16) ?_
    refine W_s (gf_RX11_332 rfl dX11_fits_19) ?_
    refine W_s (s_iload_n dX11_fits_22 rfl rfl) ?_
    refine W_ck (fun h3 => ?_)
    refine W_s (aq_5 dX11_fits_23 (gx_ixv h3)) ?_
    refine W_letA (C := fun x => gx_Ln x 8) (aqh_5 (gx_ixv h3)) (fun o4 ho4 => ?_)
    refine W_bd (ec := gx_eV) (fun r_ μ_ hr_ => s_callV (As := [.ref _]) dX11_fits_24 Lk_RX11_335 rfl g_82 (by decide) rfl (Nat.le_of_ble_eq_true rfl) (Nat.le_of_ble_eq_true rfl) (ev_X7_look o4 8 ho4 μ hr_)) (fun r5 μ6 => ?_)
    refine W_s (s_iload_n dX11_fits_27 rfl rfl) ?_
    refine W_ite (fun h7 => ?_) (fun h7 => ?_)
    · refine W_s (s_tsw_eq (c := 0) dX11_fits_28 h7 (by decide) (by decide) rfl rfl) ?_
      refine W_s (s_aload_n dX11_fits_60 rfl rfl) ?_
      refine W_s (gf_RX11_55 rfl dX11_fits_61) ?_
      refine W_s (gf_RX11_339 rfl dX11_fits_64) ?_
      exact W_r (r := (μ6.1 82 3)) (f_int (ty := .int) dX11_fits_67 rfl rfl)
    · skip
      refine W_ite (fun h8 => ?_) (fun h8 => ?_)
      · refine W_s (s_tsw_eq (c := 1) dX11_fits_28 h8 (by decide) (by decide) rfl rfl) ?_
        refine W_s (s_aload_n dX11_fits_68 rfl rfl) ?_
        refine W_s (gf_RX11_55 rfl dX11_fits_69) ?_
        refine W_s (gf_RX11_340 rfl dX11_fits_72) ?_
        exact W_r (r := (μ6.1 82 4)) (f_int (ty := .int) dX11_fits_75 rfl rfl)
      · skip
        refine W_ite (fun h9 => ?_) (fun h9 => ?_)
        · refine W_s (s_tsw_eq (c := 2) dX11_fits_28 h9 (by decide) (by decide) rfl rfl) ?_
          refine W_s (s_aload_n dX11_fits_76 rfl rfl) ?_
          refine W_s (gf_RX11_55 rfl dX11_fits_77) ?_
          refine W_s (gf_RX11_343 rfl dX11_fits_80) ?_
          exact W_r (r := (μ6.1 82 5)) (f_int (ty := .int) dX11_fits_83 rfl rfl)
        · skip
          refine W_ite (fun h10 => ?_) (fun h10 => ?_)
          · refine W_s (s_tsw_eq (c := 3) dX11_fits_28 h10 (by decide) (by decide) rfl rfl) ?_
            refine W_s (s_aload_n dX11_fits_84 rfl rfl) ?_
            refine W_s (gf_RX11_55 rfl dX11_fits_85) ?_
            refine W_br (ec := gx_eI) (fun r_ hr_ => s_callV (As := []) dX11_fits_88 Lk_RX11_346 rfl g_82 (by decide) rfl (Nat.le_of_ble_eq_true rfl) (Nat.le_of_ble_eq_true rfl) (ev_X7_seek μ6 hr_)) (fun r11 => ?_)
            exact W_r (r := r11) (f_int (ty := .int) dX11_fits_91 rfl rfl)
          · skip
            refine W_s (s_tsw_out dX11_fits_28 (gx_out_0_4 h7 h8 h9 h10) rfl) ?_
            refine W_s (s_iload_n dX11_fits_92 rfl rfl) ?_
            refine W_s (s_bipush dX11_fits_93 kcb_10) ?_
            refine W_ite (fun h12 => ?_) (fun h12 => ?_)
            · refine W_s (s_icmp_lt_t dX11_fits_95 rfl h12) ?_
              refine W_s (s_bipush dX11_fits_112 kcb_m2) ?_
              exact W_r (r := (-2)) (f_int (ty := .int) dX11_fits_114 rfl rfl)
            · refine W_s (s_icmp_lt_f dX11_fits_95 rfl h12) ?_
              refine W_s (s_aload_n dX11_fits_98 rfl rfl) ?_
              refine W_s (gf_RX11_55 rfl dX11_fits_99) ?_
              refine W_s (s_iload_n dX11_fits_102 rfl rfl) ?_
              refine W_s (s_bipush dX11_fits_103 kcb_10) ?_
              refine W_s (s_isub dX11_fits_105) ?_
              refine W_br (ec := gx_eI) (fun r_ hr_ => s_callV (As := [.int _]) dX11_fits_106 Lk_RX11_349 rfl g_82 (by decide) rfl (Nat.le_of_ble_eq_true rfl) (Nat.le_of_ble_eq_true rfl) (ev_X7_codeAt (p2 - 10) μ6 hr_)) (fun r13 => ?_)
              refine W_s (s_goto dX11_fits_109 rfl) ?_
              exact W_r (r := r13) (f_int (ty := .int) dX11_fits_114 rfl rfl)
  · refine W_s (s_if_ne_f dX11_fits_5 rfl (gx_bf h2)) ?_
    refine W_s (s_bipush dX11_fits_8 kcb_m2) ?_
    exact W_r (r := (-2)) (f_int (ty := .int) dX11_fits_10 rfl rfl)

def f_X11_span (p1 : Int32) (p2 : Int32) (μ : gx_M) : Option (Int32 × gx_M) := gx_br (f_X11_hasLog p1 μ) (fun (r1 : Bool) => if r1 = true then gx_ck (gx_ix p1 2 = true) (gx_lt (19 + 16 * p1.toNatClampNeg) (fun (o4 : Nat) => gx_bd (f_X7_look o4 8 μ) (fun (r5 : Unit) (μ6 : gx_M) => if (μ6.1 82 3) = 0 then some ((-1), μ6) else if p2 = 0 then some ((μ6.1 82 6), μ6) else if p2 = 1 then some ((μ6.1 82 7), μ6) else if p2 = 2 then gx_br (f_X7_minutesIn (μ6.1 82 3) μ6) (fun (r11 : Int32) => some (r11, μ6)) else if p2 = 3 then gx_br (f_X7_minutesIn 0 μ6) (fun (r13 : Int32) => some (r13, μ6)) else some ((-1), μ6)))) else some ((-1), μ))
theorem ev_X11_span {E : gx_E} {l : Launch} (p1 : Int32) (p2 : Int32) (μ : gx_M) {r : Int32} {μ' : gx_M} (hr : f_X11_span p1 p2 μ = some (r, μ')) : gEv E l 3 Y_X11_span [.ref (E.2.2.1 + 0), .int p1, .int p2] gx_G1 μ (gx_eI r) gx_G1 μ' := by
  refine W_ev (by decide) (Nat.le_of_ble_eq_true rfl) (em := gx_eI) (T := f_X11_span p1 p2 μ) ?_ hr
  show GoW E l Y_X11_span 3 gx_eI 0 (gx_el [.ref (E.2.2.1 + 0), .int p1, .int p2]) [] μ (f_X11_span p1 p2 μ)
  unfold f_X11_span
  refine W_s (s_aload_n dX11_span_0 rfl rfl) ?_
  refine W_s (s_iload_n dX11_span_1 rfl rfl) ?_
  refine W_br (ec := gx_eB) (fun r_ hr_ => s_callV (As := [.int _]) dX11_span_2 Lk_RX11_329 rfl g_0 (by decide) rfl (Nat.le_of_ble_eq_true rfl) (Nat.le_of_ble_eq_true rfl) (ev_X11_hasLog p1 μ hr_)) (fun r1 => ?_)
  refine W_ite (fun h2 => ?_) (fun h2 => ?_)
  · refine W_s (s_if_ne_t dX11_span_5 rfl (gx_bt h2)) ?_
    refine W_s (s_aload_n dX11_span_10 rfl rfl) ?_
    refine W_s (gf_RX11_55 rfl dX11_span_11) ?_
    refine W_s (s_aload_n dX11_span_14 rfl rfl) ?_
    refine W_s (gf_RX11_12 rfl dX11_span_15) ?_
    refine W_s (gf_RX11_332 rfl dX11_span_18) ?_
    refine W_s (s_iload_n dX11_span_21 rfl rfl) ?_
    refine W_ck (fun h3 => ?_)
    refine W_s (aq_5 dX11_span_22 (gx_ixv h3)) ?_
    refine W_letA (C := fun x => gx_Ln x 8) (aqh_5 (gx_ixv h3)) (fun o4 ho4 => ?_)
    refine W_bd (ec := gx_eV) (fun r_ μ_ hr_ => s_callV (As := [.ref _]) dX11_span_23 Lk_RX11_335 rfl g_82 (by decide) rfl (Nat.le_of_ble_eq_true rfl) (Nat.le_of_ble_eq_true rfl) (ev_X7_look o4 8 ho4 μ hr_)) (fun r5 μ6 => ?_)
    refine W_s (s_aload_n dX11_span_26 rfl rfl) ?_
    refine W_s (gf_RX11_55 rfl dX11_span_27) ?_
    refine W_s (gf_RX11_339 rfl dX11_span_30) ?_
    refine W_ite (fun h7 => ?_) (fun h7 => ?_)
    · refine W_s (s_if_ne_f dX11_span_33 rfl h7) ?_
      refine W_s (s_iconst dX11_span_36 kci_m1) ?_
      exact W_r (r := (-1)) (f_int (ty := .int) dX11_span_37 rfl rfl)
    · refine W_s (s_if_ne_t dX11_span_33 rfl h7) ?_
      refine W_s (s_iload_n dX11_span_38 rfl rfl) ?_
      refine W_ite (fun h8 => ?_) (fun h8 => ?_)
      · refine W_s (s_tsw_eq (c := 0) dX11_span_39 h8 (by decide) (by decide) rfl rfl) ?_
        refine W_s (s_aload_n dX11_span_68 rfl rfl) ?_
        refine W_s (gf_RX11_55 rfl dX11_span_69) ?_
        refine W_s (gf_RX11_352 rfl dX11_span_72) ?_
        exact W_r (r := (μ6.1 82 6)) (f_int (ty := .int) dX11_span_75 rfl rfl)
      · skip
        refine W_ite (fun h9 => ?_) (fun h9 => ?_)
        · refine W_s (s_tsw_eq (c := 1) dX11_span_39 h9 (by decide) (by decide) rfl rfl) ?_
          refine W_s (s_aload_n dX11_span_76 rfl rfl) ?_
          refine W_s (gf_RX11_55 rfl dX11_span_77) ?_
          refine W_s (gf_RX11_355 rfl dX11_span_80) ?_
          exact W_r (r := (μ6.1 82 7)) (f_int (ty := .int) dX11_span_83 rfl rfl)
        · skip
          refine W_ite (fun h10 => ?_) (fun h10 => ?_)
          · refine W_s (s_tsw_eq (c := 2) dX11_span_39 h10 (by decide) (by decide) rfl rfl) ?_
            refine W_s (s_aload_n dX11_span_84 rfl rfl) ?_
            refine W_s (gf_RX11_55 rfl dX11_span_85) ?_
            refine W_s (s_aload_n dX11_span_88 rfl rfl) ?_
            refine W_s (gf_RX11_55 rfl dX11_span_89) ?_
            refine W_s (gf_RX11_339 rfl dX11_span_92) ?_
            refine W_br (ec := gx_eI) (fun r_ hr_ => s_callV (As := [.int _]) dX11_span_95 Lk_RX11_358 rfl g_82 (by decide) rfl (Nat.le_of_ble_eq_true rfl) (Nat.le_of_ble_eq_true rfl) (ev_X7_minutesIn (μ6.1 82 3) μ6 hr_)) (fun r11 => ?_)
            exact W_r (r := r11) (f_int (ty := .int) dX11_span_98 rfl rfl)
          · skip
            refine W_ite (fun h12 => ?_) (fun h12 => ?_)
            · refine W_s (s_tsw_eq (c := 3) dX11_span_39 h12 (by decide) (by decide) rfl rfl) ?_
              refine W_s (s_aload_n dX11_span_99 rfl rfl) ?_
              refine W_s (gf_RX11_55 rfl dX11_span_100) ?_
              refine W_s (s_iconst dX11_span_103 kci_0) ?_
              refine W_br (ec := gx_eI) (fun r_ hr_ => s_callV (As := [.int _]) dX11_span_104 Lk_RX11_358 rfl g_82 (by decide) rfl (Nat.le_of_ble_eq_true rfl) (Nat.le_of_ble_eq_true rfl) (ev_X7_minutesIn 0 μ6 hr_)) (fun r13 => ?_)
              exact W_r (r := r13) (f_int (ty := .int) dX11_span_107 rfl rfl)
            · skip
              refine W_s (s_tsw_out dX11_span_39 (gx_out_0_4 h8 h9 h10 h12) rfl) ?_
              refine W_s (s_iconst dX11_span_108 kci_m1) ?_
              exact W_r (r := (-1)) (f_int (ty := .int) dX11_span_109 rfl rfl)
  · refine W_s (s_if_ne_f dX11_span_5 rfl (gx_bf h2)) ?_
    refine W_s (s_iconst dX11_span_8 kci_m1) ?_
    exact W_r (r := (-1)) (f_int (ty := .int) dX11_span_9 rfl rfl)

def f_J0_charAt_5068e (i0 : Nat) (p1 : Int32) (μ : gx_M) : Option Int32 := if (f_J0_isLatin1_aae02 i0) = true then gx_br (f_J1_charAt_3b067 i0 p1 μ) (fun (r2 : Int32) => some r2) else none
theorem ev_J0_charAt_5068e {E : gx_E} {l : Launch} {fk : Nat} {uq : Option Nat} {adK adV : Nat → Nat} (hE : gx_EX E fk uq adK adV) (i0 : Nat) (p1 : Int32) (hi0 : i0 < 28) (μ : gx_M) {r : Int32} (hr : f_J0_charAt_5068e i0 p1 μ = some r) : gEv E l 3 Y_J0_charAt_5068e [.ref (adK i0), .int p1] gx_G1 μ (gx_eC r) gx_G1 μ := by
  refine R_ev (by decide) (Nat.le_of_ble_eq_true rfl) (em := gx_eC) (T := f_J0_charAt_5068e i0 p1 μ) ?_ hr
  show GoR E l Y_J0_charAt_5068e 3 gx_eC 0 (gx_el [.ref (adK i0), .int p1]) [] μ (f_J0_charAt_5068e i0 p1 μ)
  unfold f_J0_charAt_5068e
  refine R_s (s_aload_n dJ0_charAt_5068e_0 rfl rfl) ?_
  refine R_s (s_callStr hE hi0 (As := []) dJ0_charAt_5068e_1 Lk_RJ0_492 rfl rfl (Nat.le_of_ble_eq_true rfl) (Nat.le_of_ble_eq_true rfl) (ev_J0_isLatin1_aae02 hE i0 hi0 μ)) ?_
  refine R_ite (fun h1 => ?_) (fun h1 => ?_)
  · refine R_s (s_if_eq_f dJ0_charAt_5068e_4 rfl (gx_bt h1)) ?_
    refine R_s (s_aload_n dJ0_charAt_5068e_7 rfl rfl) ?_
    refine R_s (ss_RJ0_9 hE hi0 rfl dJ0_charAt_5068e_8) ?_
    refine R_s (s_iload_n dJ0_charAt_5068e_11 rfl rfl) ?_
    refine R_br (ec := gx_eC) (fun r_ hr_ => s_callS (As := [.ref _, .int _]) dJ0_charAt_5068e_12 Lk_RJ0_495 rfl (Nat.le_of_ble_eq_true rfl) (Nat.le_of_ble_eq_true rfl) (ev_J1_charAt_3b067 hE i0 p1 hi0 μ hr_)) (fun r2 => ?_)
    exact R_r (r := r2) (f_int (ty := .char) dJ0_charAt_5068e_15 rfl (gx_narc _))
  · refine R_s (s_if_eq_t dJ0_charAt_5068e_4 rfl (gx_bf h1)) ?_
    refine R_s (s_aload_n dJ0_charAt_5068e_16 rfl rfl) ?_
    refine R_s (ss_RJ0_9 hE hi0 rfl dJ0_charAt_5068e_17) ?_
    refine R_s (s_iload_n dJ0_charAt_5068e_20 rfl rfl) ?_
    exact R_no

def L_X0_atRank_2 (μ : gx_M) (a1 : Nat) (p2 : Int32) (k2 : Option Int32) : Nat → Int32 → Option Int32
  | 0, _ => none
  | n + 1, v3_1 => if (μ.1 a1 2) ≤ v3_1 then k2 else gx_br (f_X0_bestCost a1 v3_1 μ) (fun (r4 : Int32) => gx_lt (L_X0_atRank_2 μ a1 p2 k2 n (v3_1 + 1)) (fun J5 => if r4 = (-1) then J5 else gx_br (f_X0_rankOf a1 v3_1 μ) (fun (r7 : Int32) => if r7 = p2 then some v3_1 else J5)))
def f_X0_atRank (a1 : Nat) (p2 : Int32) (μ : gx_M) : Option Int32 := L_X0_atRank_2 μ a1 p2 (some (-1)) 4000 0
theorem okL_X0_atRank_2 {E : gx_E} {l : Launch} {μ : gx_M} {a1 : Nat} {p2 : Int32} (ha1 : gx_St a1) {k2 : Option Int32} (hk : GoR E l Y_X0_atRank 4 gx_eI 38 [] [] μ (k2)) : ∀ (n : Nat) (v3_1 : Int32), GoR E l Y_X0_atRank 4 gx_eI 2 [some (.ref (E.2.2.1 + 75)), some (.ref (E.2.2.1 + a1)), some (.int p2), some (.int v3_1)] [] μ (L_X0_atRank_2 μ a1 p2 k2 n v3_1) := by
  intro n
  induction n with
  | zero => intros; exact R_no
  | succ n ih =>
    intro v3_1
    rw [L_X0_atRank_2.eq_2]
    refine R_s (s_iload_n dX0_atRank_2 rfl rfl) ?_
    refine R_s (s_aload_n dX0_atRank_3 rfl rfl) ?_
    refine R_s (gfm_RX0_21 ha1 rfl dX0_atRank_4) ?_
    refine R_ite (fun h3 => ?_) (fun h3 => ?_)
    · refine R_s (s_icmp_ge_t dX0_atRank_7 rfl h3) ?_
      exact R_wk (hk) le_n
    · refine R_s (s_icmp_ge_f dX0_atRank_7 rfl h3) ?_
      refine R_s (s_aload_n dX0_atRank_10 rfl rfl) ?_
      refine R_s (s_aload_n dX0_atRank_11 rfl rfl) ?_
      refine R_s (s_iload_n dX0_atRank_12 rfl rfl) ?_
      refine R_br (ec := gx_eI) (fun r_ hr_ => s_callV (As := [.ref _, .int _]) dX0_atRank_13 Lk_RX0_62 rfl g_75 (by decide) rfl (Nat.le_of_ble_eq_true rfl) (Nat.le_of_ble_eq_true rfl) (ev_X0_bestCost a1 v3_1 ha1 μ hr_)) (fun r4 => ?_)
      refine R_s (s_iconst dX0_atRank_16 kci_m1) ?_
      refine R_fun (fun J => GoR E l Y_X0_atRank 4 gx_eI 32 [some (.ref (E.2.2.1 + 75)), some (.ref (E.2.2.1 + a1)), some (.int p2), some (.int v3_1)] [] μ (J)) ?_ (fun J5 hJ5 => ?_)
      · skip
        refine R_s (s_iinc dX0_atRank_32 rfl (kinc_1 v3_1) (Nat.le_of_ble_eq_true rfl)) ?_
        refine R_s (s_goto dX0_atRank_35 rfl) ?_
        exact R_wk (ih (v3_1 + 1)) (le_s rfl (le_s rfl (le_s rfl (le_s rfl le_n))))
      · skip
        refine R_ite (fun h6 => ?_) (fun h6 => ?_)
        · refine R_s (s_icmp_eq_t dX0_atRank_17 rfl h6) ?_
          exact R_wk (hJ5) (le_s rfl (le_s rfl (le_s rfl (le_s rfl le_n))))
        · refine R_s (s_icmp_eq_f dX0_atRank_17 rfl h6) ?_
          refine R_s (s_aload_n dX0_atRank_20 rfl rfl) ?_
          refine R_s (s_aload_n dX0_atRank_21 rfl rfl) ?_
          refine R_s (s_iload_n dX0_atRank_22 rfl rfl) ?_
          refine R_br (ec := gx_eI) (fun r_ hr_ => s_callV (As := [.ref _, .int _]) dX0_atRank_23 Lk_RX0_66 rfl g_75 (by decide) rfl (Nat.le_of_ble_eq_true rfl) (Nat.le_of_ble_eq_true rfl) (ev_X0_rankOf a1 v3_1 ha1 μ hr_)) (fun r7 => ?_)
          refine R_s (s_iload_n dX0_atRank_26 rfl rfl) ?_
          refine R_ite (fun h8 => ?_) (fun h8 => ?_)
          · refine R_s (s_icmp_ne_f dX0_atRank_27 rfl h8) ?_
            refine R_s (s_iload_n dX0_atRank_30 rfl rfl) ?_
            exact R_r (r := v3_1) (f_int (ty := .int) dX0_atRank_31 rfl rfl)
          · refine R_s (s_icmp_ne_t dX0_atRank_27 rfl h8) ?_
            exact R_wk (hJ5) (le_s rfl (le_s rfl (le_s rfl (le_s rfl le_n))))
theorem ev_X0_atRank {E : gx_E} {l : Launch} (a1 : Nat) (p2 : Int32) (ha1 : gx_St a1) (μ : gx_M) {r : Int32} (hr : f_X0_atRank a1 p2 μ = some r) : gEv E l 4 Y_X0_atRank [.ref (E.2.2.1 + 75), .ref (E.2.2.1 + a1), .int p2] gx_G1 μ (gx_eI r) gx_G1 μ := by
  refine R_ev (by decide) (Nat.le_of_ble_eq_true rfl) (em := gx_eI) (T := f_X0_atRank a1 p2 μ) ?_ hr
  show GoR E l Y_X0_atRank 4 gx_eI 0 (gx_el [.ref (E.2.2.1 + 75), .ref (E.2.2.1 + a1), .int p2]) [] μ (f_X0_atRank a1 p2 μ)
  unfold f_X0_atRank
  refine R_s (s_iconst dX0_atRank_0 kci_0) ?_
  refine R_s (s_istore_n dX0_atRank_1 rfl (Nat.le_of_ble_eq_true rfl)) ?_
  refine R_wk (okL_X0_atRank_2 ha1 ?_ 4000 0) (le_s rfl (le_s rfl (le_s rfl (le_s rfl le_n))))
  refine R_s (s_iconst dX0_atRank_38 kci_m1) ?_
  exact R_r (r := (-1)) (f_int (ty := .int) dX0_atRank_39 rfl rfl)

def L_X3_live_8 (p3 : Int32) (a2 : Nat) (n2 : Nat) (k5 : gx_M → Option (Int32 × gx_M)) : Nat → Int32 → gx_M → Option (Int32 × gx_M)
  | 0, _, _ => none
  | n + 1, v4_3, μ4 => if p3 ≤ v4_3 then k5 μ4 else if (μ4.1 a2 3) ≤ v4_3 then k5 μ4 else gx_ck (gx_ix v4_3 n2 = true) (gx_br (f_X2_number a2 n2 v4_3 0 μ4) (fun (r9 : Int32) => gx_br (f_X2_number a2 n2 v4_3 1 μ4) (fun (r10 : Int32) => gx_br (f_X2_number a2 n2 v4_3 2 μ4) (fun (r11 : Int32) => gx_bd (f_X3_goes (μ4.1 (a2 + 1) v4_3.toNatClampNeg) r9 r10 r11 μ4) (fun (r12 : Bool) (μ13 : gx_M) => if r12 = true then L_X3_live_8 p3 a2 n2 k5 n (v4_3 + 1) μ13 else some (v4_3, μ13))))))
def f_X3_live (a1 : Nat) (a2 : Nat) (n2 : Nat) (p3 : Int32) (μ : gx_M) : Option (Int32 × gx_M) := gx_bd (f_X3_begin a1 μ) (fun (r1 : Unit) (μ2 : gx_M) => L_X3_live_8 p3 a2 n2 (fun (μ16 : gx_M) => some (p3, μ16)) 4000 0 μ2)
theorem okL_X3_live_8 {E : gx_E} {l : Launch} {p3 : Int32} {a2 : Nat} {n2 : Nat} {a1 : Nat} (ha1 : gx_St a1) (ha2 : gx_Ln a2 n2) {k5 : gx_M → Option (Int32 × gx_M)} (hk : ∀ (μ15 : gx_M), GoW E l Y_X3_live 4 gx_eI 67 [none, none, none, some (.int p3)] [] μ15 (k5 μ15)) : ∀ (n : Nat) (v4_3 : Int32) (μ4 : gx_M), GoW E l Y_X3_live 4 gx_eI 8 [some (.ref (E.2.2.1 + 62)), none, some (.ref (E.2.2.1 + a2)), some (.int p3), some (.int v4_3)] [] μ4 (L_X3_live_8 p3 a2 n2 k5 n v4_3 μ4) := by
  intro n
  induction n with
  | zero => intros; exact W_no
  | succ n ih =>
    intro v4_3 μ4
    rw [L_X3_live_8.eq_2]
    refine W_s (s_iload dX3_live_8 rfl) ?_
    refine W_s (s_iload_n dX3_live_10 rfl rfl) ?_
    refine W_ite (fun h6 => ?_) (fun h6 => ?_)
    · refine W_s (s_icmp_ge_t dX3_live_11 rfl h6) ?_
      exact W_wk (hk μ4) (le_o (le_o (le_o (le_s rfl le_n))))
    · refine W_s (s_icmp_ge_f dX3_live_11 rfl h6) ?_
      refine W_s (s_iload dX3_live_14 rfl) ?_
      refine W_s (s_aload_n dX3_live_16 rfl rfl) ?_
      refine W_s (gfm_RX3_49 ha2 rfl dX3_live_17) ?_
      refine W_ite (fun h7 => ?_) (fun h7 => ?_)
      · refine W_s (s_icmp_ge_t dX3_live_20 rfl h7) ?_
        exact W_wk (hk μ4) (le_o (le_o (le_o (le_s rfl le_n))))
      · refine W_s (s_icmp_ge_f dX3_live_20 rfl h7) ?_
        refine W_s (s_aload_n dX3_live_23 rfl rfl) ?_
        refine W_s (s_aload_n dX3_live_24 rfl rfl) ?_
        refine W_s (gfm_RX3_54 ha2 rfl dX3_live_25) ?_
        refine W_s (s_iload dX3_live_28 rfl) ?_
        refine W_ck (fun h8 => ?_)
        refine W_s (s_iald dX3_live_30 (Ln_1 ha2) (gx_ixv h8)) ?_
        refine W_s (s_aload_n dX3_live_31 rfl rfl) ?_
        refine W_s (s_iload dX3_live_32 rfl) ?_
        refine W_s (s_iconst dX3_live_34 kci_0) ?_
        refine W_br (ec := gx_eI) (fun r_ hr_ => s_callV (As := [.int _, .int _]) dX3_live_35 Lk_RX3_57 rfl (Ln_0 ha2) (by decide) rfl (Nat.le_of_ble_eq_true rfl) (Nat.le_of_ble_eq_true rfl) (ev_X2_number a2 n2 v4_3 0 ha2 μ4 hr_)) (fun r9 => ?_)
        refine W_s (s_aload_n dX3_live_38 rfl rfl) ?_
        refine W_s (s_iload dX3_live_39 rfl) ?_
        refine W_s (s_iconst dX3_live_41 kci_1) ?_
        refine W_br (ec := gx_eI) (fun r_ hr_ => s_callV (As := [.int _, .int _]) dX3_live_42 Lk_RX3_57 rfl (Ln_0 ha2) (by decide) rfl (Nat.le_of_ble_eq_true rfl) (Nat.le_of_ble_eq_true rfl) (ev_X2_number a2 n2 v4_3 1 ha2 μ4 hr_)) (fun r10 => ?_)
        refine W_s (s_aload_n dX3_live_45 rfl rfl) ?_
        refine W_s (s_iload dX3_live_46 rfl) ?_
        refine W_s (s_iconst dX3_live_48 kci_2) ?_
        refine W_br (ec := gx_eI) (fun r_ hr_ => s_callV (As := [.int _, .int _]) dX3_live_49 Lk_RX3_57 rfl (Ln_0 ha2) (by decide) rfl (Nat.le_of_ble_eq_true rfl) (Nat.le_of_ble_eq_true rfl) (ev_X2_number a2 n2 v4_3 2 ha2 μ4 hr_)) (fun r11 => ?_)
        refine W_bd (ec := gx_eB) (fun r_ μ_ hr_ => s_callV (As := [.int _, .int _, .int _, .int _]) dX3_live_52 Lk_RX3_61 rfl g_62 (by decide) rfl (Nat.le_of_ble_eq_true rfl) (Nat.le_of_ble_eq_true rfl) (ev_X3_goes (μ4.1 (a2 + 1) v4_3.toNatClampNeg) r9 r10 r11 μ4 hr_)) (fun r12 μ13 => ?_)
        refine W_ite (fun h14 => ?_) (fun h14 => ?_)
        · refine W_s (s_if_ne_t dX3_live_55 rfl (gx_bt h14)) ?_
          refine W_s (s_iinc dX3_live_61 rfl (kinc_1 v4_3) (Nat.le_of_ble_eq_true rfl)) ?_
          refine W_s (s_goto dX3_live_64 rfl) ?_
          exact W_wk (ih (v4_3 + 1) μ13) (le_s rfl (le_o (le_s rfl (le_s rfl (le_s rfl le_n)))))
        · refine W_s (s_if_ne_f dX3_live_55 rfl (gx_bf h14)) ?_
          refine W_s (s_iload dX3_live_58 rfl) ?_
          exact W_r (r := v4_3) (f_int (ty := .int) dX3_live_60 rfl rfl)
theorem ev_X3_live {E : gx_E} {l : Launch} (a1 : Nat) (a2 : Nat) (n2 : Nat) (p3 : Int32) (ha1 : gx_St a1) (ha2 : gx_Ln a2 n2) (μ : gx_M) {r : Int32} {μ' : gx_M} (hr : f_X3_live a1 a2 n2 p3 μ = some (r, μ')) : gEv E l 4 Y_X3_live [.ref (E.2.2.1 + 62), .ref (E.2.2.1 + a1), .ref (E.2.2.1 + a2), .int p3] gx_G1 μ (gx_eI r) gx_G1 μ' := by
  refine W_ev (by decide) (Nat.le_of_ble_eq_true rfl) (em := gx_eI) (T := f_X3_live a1 a2 n2 p3 μ) ?_ hr
  show GoW E l Y_X3_live 4 gx_eI 0 (gx_el [.ref (E.2.2.1 + 62), .ref (E.2.2.1 + a1), .ref (E.2.2.1 + a2), .int p3]) [] μ (f_X3_live a1 a2 n2 p3 μ)
  unfold f_X3_live
  refine W_s (s_aload_n dX3_live_0 rfl rfl) ?_
  refine W_s (s_aload_n dX3_live_1 rfl rfl) ?_
  refine W_bd (ec := gx_eV) (fun r_ μ_ hr_ => s_callV (As := [.ref _]) dX3_live_2 Lk_RX3_46 rfl g_62 (by decide) rfl (Nat.le_of_ble_eq_true rfl) (Nat.le_of_ble_eq_true rfl) (ev_X3_begin a1 ha1 μ hr_)) (fun r1 μ2 => ?_)
  refine W_s (s_iconst dX3_live_5 kci_0) ?_
  refine W_s (s_istore dX3_live_6 (Nat.le_of_ble_eq_true rfl)) ?_
  refine W_wk (okL_X3_live_8 ha1 ha2 ?_ 4000 0 μ2) (le_s rfl (le_o (le_s rfl (le_s rfl (le_s rfl le_n)))))
  intro μ16
  refine W_s (s_iload_n dX3_live_67 rfl rfl) ?_
  exact W_r (r := p3) (f_int (ty := .int) dX3_live_68 rfl rfl)

def f_X3_drawDeed (μ : gx_M) : Option (Unit × gx_M) := gx_bd (f_X3_draw 8 μ) (fun (r1 : Int32) (μ2 : gx_M) => gx_lt (f_X3_kindDrawn r1) (fun (x3 : Int32) => if x3 = 10 then gx_bd (f_X3_drawDo μ2) (fun (r22 : Unit) (μ23 : gx_M) => some ((), μ23)) else if x3 = 11 then gx_bd (f_X3_draw 2 μ2) (fun (r12 : Int32) (μ13 : gx_M) => gx_lt (fun (j0_16 : Int32) (μ17 : gx_M) => gx_bd (f_X3_draw (μ17.1 63 0) μ17) (fun (r18 : Int32) (μ19 : gx_M) => gx_bd (f_X3_changesPrice r18 j0_16 μ19) (fun (r20 : Bool) (μ21 : gx_M) => some ((), μ21)))) (fun J14 => if r12 = 0 then J14 1 μ13 else J14 (-1) μ13)) else gx_bd (f_X3_draw (μ2.1 63 1) μ2) (fun (r6 : Int32) (μ7 : gx_M) => gx_bd (f_X3_draw (μ7.1 63 0) μ7) (fun (r8 : Int32) (μ9 : gx_M) => gx_bd (f_X3_goes x3 r6 r8 (-1) μ9) (fun (r10 : Bool) (μ11 : gx_M) => some ((), μ11))))))
theorem ev_X3_drawDeed {E : gx_E} {l : Launch} (μ : gx_M) {r : Unit} {μ' : gx_M} (hr : f_X3_drawDeed μ = some (r, μ')) : gEv E l 4 Y_X3_drawDeed [.ref (E.2.2.1 + 62)] gx_G1 μ (gx_eV r) gx_G1 μ' := by
  refine W_ev (by decide) (Nat.le_of_ble_eq_true rfl) (em := gx_eV) (T := f_X3_drawDeed μ) ?_ hr
  show GoW E l Y_X3_drawDeed 4 gx_eV 0 (gx_el [.ref (E.2.2.1 + 62)]) [] μ (f_X3_drawDeed μ)
  unfold f_X3_drawDeed
  refine W_s (s_aload_n dX3_drawDeed_0 rfl rfl) ?_
  refine W_s (s_bipush dX3_drawDeed_1 kcb_8) ?_
  refine W_bd (ec := gx_eI) (fun r_ μ_ hr_ => s_callV (As := [.int _]) dX3_drawDeed_3 Lk_RX3_137 rfl g_62 (by decide) rfl (Nat.le_of_ble_eq_true rfl) (Nat.le_of_ble_eq_true rfl) (ev_X3_draw 8 μ hr_)) (fun r1 μ2 => ?_)
  refine W_s (s_callS (As := [.int _]) dX3_drawDeed_6 Lk_RX3_141 rfl (Nat.le_of_ble_eq_true rfl) (Nat.le_of_ble_eq_true rfl) (ev_X3_kindDrawn r1 μ2)) ?_
  refine W_letI (fun x3 => ?_)
  refine W_s (s_istore_n dX3_drawDeed_9 rfl (Nat.le_of_ble_eq_true rfl)) ?_
  refine W_s (s_iload_n dX3_drawDeed_10 rfl rfl) ?_
  refine W_s (s_bipush dX3_drawDeed_11 kcb_10) ?_
  refine W_ite (fun h4 => ?_) (fun h4 => ?_)
  · refine W_s (s_icmp_ne_f dX3_drawDeed_13 rfl h4) ?_
    refine W_s (s_aload_n dX3_drawDeed_16 rfl rfl) ?_
    refine W_bd (ec := gx_eV) (fun r_ μ_ hr_ => s_callV (As := []) dX3_drawDeed_17 Lk_RX3_144 rfl g_62 (by decide) rfl (Nat.le_of_ble_eq_true rfl) (Nat.le_of_ble_eq_true rfl) (ev_X3_drawDo μ2 hr_)) (fun r22 μ23 => ?_)
    refine W_s (s_goto dX3_drawDeed_20 rfl) ?_
    exact W_r (r := ()) (f_void dX3_drawDeed_94 rfl)
  · refine W_s (s_icmp_ne_t dX3_drawDeed_13 rfl h4) ?_
    refine W_s (s_iload_n dX3_drawDeed_23 rfl rfl) ?_
    refine W_s (s_bipush dX3_drawDeed_24 kcb_11) ?_
    refine W_ite (fun h5 => ?_) (fun h5 => ?_)
    · refine W_s (s_icmp_ne_f dX3_drawDeed_26 rfl h5) ?_
      refine W_s (s_aload_n dX3_drawDeed_29 rfl rfl) ?_
      refine W_s (s_iconst dX3_drawDeed_30 kci_2) ?_
      refine W_bd (ec := gx_eI) (fun r_ μ_ hr_ => s_callV (As := [.int _]) dX3_drawDeed_31 Lk_RX3_137 rfl g_62 (by decide) rfl (Nat.le_of_ble_eq_true rfl) (Nat.le_of_ble_eq_true rfl) (ev_X3_draw 2 μ2 hr_)) (fun r12 μ13 => ?_)
      refine W_fun (fun J => ∀ (j0_16 : Int32) (μ17 : gx_M), GoW E l Y_X3_drawDeed 4 gx_eV 42 [some (.ref (E.2.2.1 + 62))] [.int j0_16] μ17 (J j0_16 μ17)) ?_ (fun J14 hJ14 => ?_)
      · intro j0_16 μ17
        refine W_s (s_istore_n dX3_drawDeed_42 rfl (Nat.le_of_ble_eq_true rfl)) ?_
        refine W_s (s_aload_n dX3_drawDeed_43 rfl rfl) ?_
        refine W_s (s_aload_n dX3_drawDeed_44 rfl rfl) ?_
        refine W_s (s_aload_n dX3_drawDeed_45 rfl rfl) ?_
        refine W_s (gf_RX3_12 rfl dX3_drawDeed_46) ?_
        refine W_s (gfm_RX3_128 St_c_63 rfl dX3_drawDeed_49) ?_
        refine W_bd (ec := gx_eI) (fun r_ μ_ hr_ => s_callV (As := [.int _]) dX3_drawDeed_52 Lk_RX3_137 rfl g_62 (by decide) rfl (Nat.le_of_ble_eq_true rfl) (Nat.le_of_ble_eq_true rfl) (ev_X3_draw (μ17.1 63 0) μ17 hr_)) (fun r18 μ19 => ?_)
        refine W_s (s_iload_n dX3_drawDeed_55 rfl rfl) ?_
        refine W_bd (ec := gx_eB) (fun r_ μ_ hr_ => s_callV (As := [.int _, .int _]) dX3_drawDeed_56 Lk_RX3_82 rfl g_62 (by decide) rfl (Nat.le_of_ble_eq_true rfl) (Nat.le_of_ble_eq_true rfl) (ev_X3_changesPrice r18 j0_16 μ19 hr_)) (fun r20 μ21 => ?_)
        refine W_s (s_pop dX3_drawDeed_59 rfl) ?_
        refine W_s (s_goto dX3_drawDeed_60 rfl) ?_
        exact W_r (r := ()) (f_void dX3_drawDeed_94 rfl)
      · skip
        refine W_ite (fun h15 => ?_) (fun h15 => ?_)
        · refine W_s (s_if_ne_f dX3_drawDeed_34 rfl h15) ?_
          refine W_s (s_iconst dX3_drawDeed_37 kci_1) ?_
          refine W_s (s_goto dX3_drawDeed_38 rfl) ?_
          exact W_wk (hJ14 1 μ13) (le_s rfl le_n)
        · refine W_s (s_if_ne_t dX3_drawDeed_34 rfl h15) ?_
          refine W_s (s_iconst dX3_drawDeed_41 kci_m1) ?_
          exact W_wk (hJ14 (-1) μ13) (le_s rfl le_n)
    · refine W_s (s_icmp_ne_t dX3_drawDeed_26 rfl h5) ?_
      refine W_s (s_aload_n dX3_drawDeed_63 rfl rfl) ?_
      refine W_s (s_aload_n dX3_drawDeed_64 rfl rfl) ?_
      refine W_s (gf_RX3_12 rfl dX3_drawDeed_65) ?_
      refine W_s (gfm_RX3_147 St_c_63 rfl dX3_drawDeed_68) ?_
      refine W_bd (ec := gx_eI) (fun r_ μ_ hr_ => s_callV (As := [.int _]) dX3_drawDeed_71 Lk_RX3_137 rfl g_62 (by decide) rfl (Nat.le_of_ble_eq_true rfl) (Nat.le_of_ble_eq_true rfl) (ev_X3_draw (μ2.1 63 1) μ2 hr_)) (fun r6 μ7 => ?_)
      refine W_s (s_istore_n dX3_drawDeed_74 rfl (Nat.le_of_ble_eq_true rfl)) ?_
      refine W_s (s_aload_n dX3_drawDeed_75 rfl rfl) ?_
      refine W_s (s_iload_n dX3_drawDeed_76 rfl rfl) ?_
      refine W_s (s_iload_n dX3_drawDeed_77 rfl rfl) ?_
      refine W_s (s_aload_n dX3_drawDeed_78 rfl rfl) ?_
      refine W_s (s_aload_n dX3_drawDeed_79 rfl rfl) ?_
      refine W_s (gf_RX3_12 rfl dX3_drawDeed_80) ?_
      refine W_s (gfm_RX3_128 St_c_63 rfl dX3_drawDeed_83) ?_
      refine W_bd (ec := gx_eI) (fun r_ μ_ hr_ => s_callV (As := [.int _]) dX3_drawDeed_86 Lk_RX3_137 rfl g_62 (by decide) rfl (Nat.le_of_ble_eq_true rfl) (Nat.le_of_ble_eq_true rfl) (ev_X3_draw (μ7.1 63 0) μ7 hr_)) (fun r8 μ9 => ?_)
      refine W_s (s_iconst dX3_drawDeed_89 kci_m1) ?_
      refine W_bd (ec := gx_eB) (fun r_ μ_ hr_ => s_callV (As := [.int _, .int _, .int _, .int _]) dX3_drawDeed_90 Lk_RX3_61 rfl g_62 (by decide) rfl (Nat.le_of_ble_eq_true rfl) (Nat.le_of_ble_eq_true rfl) (ev_X3_goes x3 r6 r8 (-1) μ9 hr_)) (fun r10 μ11 => ?_)
      refine W_s (s_pop dX3_drawDeed_93 rfl) ?_
      exact W_r (r := ()) (f_void dX3_drawDeed_94 rfl)

def L_X8_isWord_28 (i1 : Nat) (μ : gx_M) (k4 : Option Bool) : Nat → Int32 → Option Bool
  | 0, _ => none
  | n + 1, v2_3 => if (f_J0_length_8abf5 i1) ≤ v2_3 then k4 else gx_ck (gx_ix ((μ.1 43 4) + v2_3) 600 = true) (gx_br (f_J0_charAt_5068e i1 v2_3 μ) (fun (r7 : Int32) => if (μ.1 44 ((μ.1 43 4) + v2_3).toNatClampNeg) = (gx_nc r7) then L_X8_isWord_28 i1 μ k4 n (v2_3 + 1) else some false))
def f_X8_isWord (i1 : Nat) (μ : gx_M) : Option Bool := if (μ.1 43 3) = 1 then if (f_J0_length_8abf5 i1) = ((μ.1 43 2) - (μ.1 43 4)) then L_X8_isWord_28 i1 μ (some true) 4000 0 else some false else some false
theorem okL_X8_isWord_28 {E : gx_E} {l : Launch} {fk : Nat} {uq : Option Nat} {adK adV : Nat → Nat} (hE : gx_EX E fk uq adK adV) {i1 : Nat} {μ : gx_M} (hi1 : i1 < 28) {k4 : Option Bool} (hk : GoR E l Y_X8_isWord 4 gx_eB 63 [] [] μ (k4)) : ∀ (n : Nat) (v2_3 : Int32), GoR E l Y_X8_isWord 4 gx_eB 28 [some (.ref (E.2.2.1 + 43)), some (.ref (adK i1)), some (.int v2_3)] [] μ (L_X8_isWord_28 i1 μ k4 n v2_3) := by
  intro n
  induction n with
  | zero => intros; exact R_no
  | succ n ih =>
    intro v2_3
    rw [L_X8_isWord_28.eq_2]
    refine R_s (s_iload_n dX8_isWord_28 rfl rfl) ?_
    refine R_s (s_aload_n dX8_isWord_29 rfl rfl) ?_
    refine R_s (s_callStr hE hi1 (As := []) dX8_isWord_30 Lk_RX8_56 rfl rfl (Nat.le_of_ble_eq_true rfl) (Nat.le_of_ble_eq_true rfl) (ev_J0_length_8abf5 hE i1 hi1 μ)) ?_
    refine R_ite (fun h5 => ?_) (fun h5 => ?_)
    · refine R_s (s_icmp_ge_t dX8_isWord_33 rfl h5) ?_
      exact R_wk (hk) le_n
    · refine R_s (s_icmp_ge_f dX8_isWord_33 rfl h5) ?_
      refine R_s (s_aload_n dX8_isWord_36 rfl rfl) ?_
      refine R_s (gf_RX8_9 rfl dX8_isWord_37) ?_
      refine R_s (s_aload_n dX8_isWord_40 rfl rfl) ?_
      refine R_s (gf_RX8_34 rfl dX8_isWord_41) ?_
      refine R_s (s_iload_n dX8_isWord_44 rfl rfl) ?_
      refine R_s (s_iadd dX8_isWord_45) ?_
      refine R_ck (fun h6 => ?_)
      refine R_s (s_bald dX8_isWord_46 g_44 (gx_ixv h6)) ?_
      refine R_s (s_aload_n dX8_isWord_47 rfl rfl) ?_
      refine R_s (s_iload_n dX8_isWord_48 rfl rfl) ?_
      refine R_br (ec := gx_eC) (fun r_ hr_ => s_callStr hE hi1 (As := [.int _]) dX8_isWord_49 Lk_RX8_61 rfl rfl (Nat.le_of_ble_eq_true rfl) (Nat.le_of_ble_eq_true rfl) (ev_J0_charAt_5068e hE i1 v2_3 hi1 μ hr_)) (fun r7 => ?_)
      refine R_ite (fun h8 => ?_) (fun h8 => ?_)
      · refine R_s (s_icmp_eq_t dX8_isWord_52 rfl h8) ?_
        refine R_s (s_iinc dX8_isWord_57 rfl (kinc_1 v2_3) (Nat.le_of_ble_eq_true rfl)) ?_
        refine R_s (s_goto dX8_isWord_60 rfl) ?_
        exact R_wk (ih (v2_3 + 1)) (le_s rfl (le_s rfl (le_s rfl le_n)))
      · refine R_s (s_icmp_eq_f dX8_isWord_52 rfl h8) ?_
        refine R_s (s_iconst dX8_isWord_55 kci_0) ?_
        exact R_r (r := false) (f_int (ty := .boolean) (x := gx_bi false) dX8_isWord_56 rfl (gx_bn false))
theorem ev_X8_isWord {E : gx_E} {l : Launch} {fk : Nat} {uq : Option Nat} {adK adV : Nat → Nat} (hE : gx_EX E fk uq adK adV) (i1 : Nat) (hi1 : i1 < 28) (μ : gx_M) {r : Bool} (hr : f_X8_isWord i1 μ = some r) : gEv E l 4 Y_X8_isWord [.ref (E.2.2.1 + 43), .ref (adK i1)] gx_G1 μ (gx_eB r) gx_G1 μ := by
  refine R_ev (by decide) (Nat.le_of_ble_eq_true rfl) (em := gx_eB) (T := f_X8_isWord i1 μ) ?_ hr
  show GoR E l Y_X8_isWord 4 gx_eB 0 (gx_el [.ref (E.2.2.1 + 43), .ref (adK i1)]) [] μ (f_X8_isWord i1 μ)
  unfold f_X8_isWord
  refine R_s (s_aload_n dX8_isWord_0 rfl rfl) ?_
  refine R_s (gf_RX8_37 rfl dX8_isWord_1) ?_
  refine R_s (s_iconst dX8_isWord_4 kci_1) ?_
  refine R_ite (fun h1 => ?_) (fun h1 => ?_)
  · refine R_s (s_icmp_ne_f dX8_isWord_5 rfl h1) ?_
    refine R_s (s_aload_n dX8_isWord_8 rfl rfl) ?_
    refine R_s (s_callStr hE hi1 (As := []) dX8_isWord_9 Lk_RX8_56 rfl rfl (Nat.le_of_ble_eq_true rfl) (Nat.le_of_ble_eq_true rfl) (ev_J0_length_8abf5 hE i1 hi1 μ)) ?_
    refine R_s (s_aload_n dX8_isWord_12 rfl rfl) ?_
    refine R_s (gf_RX8_31 rfl dX8_isWord_13) ?_
    refine R_s (s_aload_n dX8_isWord_16 rfl rfl) ?_
    refine R_s (gf_RX8_34 rfl dX8_isWord_17) ?_
    refine R_s (s_isub dX8_isWord_20) ?_
    refine R_ite (fun h2 => ?_) (fun h2 => ?_)
    · refine R_s (s_icmp_eq_t dX8_isWord_21 rfl h2) ?_
      refine R_s (s_iconst dX8_isWord_26 kci_0) ?_
      refine R_s (s_istore_n dX8_isWord_27 rfl (Nat.le_of_ble_eq_true rfl)) ?_
      refine R_wk (okL_X8_isWord_28 hE hi1 ?_ 4000 0) (le_s rfl (le_s rfl (le_s rfl le_n)))
      refine R_s (s_iconst dX8_isWord_63 kci_1) ?_
      exact R_r (r := true) (f_int (ty := .boolean) (x := gx_bi true) dX8_isWord_64 rfl (gx_bn true))
    · refine R_s (s_icmp_eq_f dX8_isWord_21 rfl h2) ?_
      refine R_s (s_iconst dX8_isWord_24 kci_0) ?_
      exact R_r (r := false) (f_int (ty := .boolean) (x := gx_bi false) dX8_isWord_25 rfl (gx_bn false))
  · refine R_s (s_icmp_ne_t dX8_isWord_5 rfl h1) ?_
    refine R_s (s_iconst dX8_isWord_24 kci_0) ?_
    exact R_r (r := false) (f_int (ty := .boolean) (x := gx_bi false) dX8_isWord_25 rfl (gx_bn false))

def f_X11_plan (p1 : Int32) (p2 : Int32) (p3 : Bool) (μ : gx_M) : Option (Int32 × gx_M) := gx_br (f_X11_hasPerson p1 p2 μ) (fun (r1 : Bool) => if r1 = true then gx_ck (gx_ix p1 2 = true) (gx_lt (8 + 16 * p1.toNatClampNeg) (fun (o4 : Nat) => gx_bd (f_X0_choose o4 p2 1099511627775 μ) (fun (r5 : Unit) (μ6 : gx_M) => if p3 = true then some ((μ6.1 75 4), μ6) else some ((μ6.1 75 3), μ6)))) else some ((-1), μ))
theorem ev_X11_plan {E : gx_E} {l : Launch} (p1 : Int32) (p2 : Int32) (p3 : Bool) (μ : gx_M) {r : Int32} {μ' : gx_M} (hr : f_X11_plan p1 p2 p3 μ = some (r, μ')) : gEv E l 4 Y_X11_plan [.ref (E.2.2.1 + 0), .int p1, .int p2, .int (gx_bi p3)] gx_G1 μ (gx_eI r) gx_G1 μ' := by
  refine W_ev (by decide) (Nat.le_of_ble_eq_true rfl) (em := gx_eI) (T := f_X11_plan p1 p2 p3 μ) ?_ hr
  show GoW E l Y_X11_plan 4 gx_eI 0 (gx_el [.ref (E.2.2.1 + 0), .int p1, .int p2, .int (gx_bi p3)]) [] μ (f_X11_plan p1 p2 p3 μ)
  unfold f_X11_plan
  refine W_s (s_aload_n dX11_plan_0 rfl rfl) ?_
  refine W_s (s_iload_n dX11_plan_1 rfl rfl) ?_
  refine W_s (s_iload_n dX11_plan_2 rfl rfl) ?_
  refine W_br (ec := gx_eB) (fun r_ hr_ => s_callV (As := [.int _, .int _]) dX11_plan_3 Lk_RX11_118 rfl g_0 (by decide) rfl (Nat.le_of_ble_eq_true rfl) (Nat.le_of_ble_eq_true rfl) (ev_X11_hasPerson p1 p2 μ hr_)) (fun r1 => ?_)
  refine W_ite (fun h2 => ?_) (fun h2 => ?_)
  · refine W_s (s_if_ne_t dX11_plan_6 rfl (gx_bt h2)) ?_
    refine W_s (s_aload_n dX11_plan_11 rfl rfl) ?_
    refine W_s (gf_RX11_41 rfl dX11_plan_12) ?_
    refine W_s (s_aload_n dX11_plan_15 rfl rfl) ?_
    refine W_s (gf_RX11_12 rfl dX11_plan_16) ?_
    refine W_s (gf_RX11_109 rfl dX11_plan_19) ?_
    refine W_s (s_iload_n dX11_plan_22 rfl rfl) ?_
    refine W_ck (fun h3 => ?_)
    refine W_s (aq_3 dX11_plan_23 (gx_ixv h3)) ?_
    refine W_letA (C := fun x => gx_St x) (aqh_3 (gx_ixv h3)) (fun o4 ho4 => ?_)
    refine W_s (s_iload_n dX11_plan_24 rfl rfl) ?_
    refine W_s (s_ldc2 dX11_plan_25 kw_RX11_212) ?_
    refine W_bd (ec := gx_eV) (fun r_ μ_ hr_ => s_callV (As := [.ref _, .int _, .long _]) dX11_plan_28 Lk_RX11_238 rfl g_75 (by decide) rfl (Nat.le_of_ble_eq_true rfl) (Nat.le_of_ble_eq_true rfl) (ev_X0_choose o4 p2 1099511627775 ho4 μ hr_)) (fun r5 μ6 => ?_)
    refine W_s (s_iload_n dX11_plan_31 rfl rfl) ?_
    refine W_ite (fun h7 => ?_) (fun h7 => ?_)
    · refine W_s (s_if_eq_f dX11_plan_32 rfl (gx_bt h7)) ?_
      refine W_s (s_aload_n dX11_plan_35 rfl rfl) ?_
      refine W_s (gf_RX11_41 rfl dX11_plan_36) ?_
      refine W_s (gf_RX11_241 rfl dX11_plan_39) ?_
      refine W_s (s_goto dX11_plan_42 rfl) ?_
      exact W_r (r := (μ6.1 75 4)) (f_int (ty := .int) dX11_plan_52 rfl rfl)
    · refine W_s (s_if_eq_t dX11_plan_32 rfl (gx_bf h7)) ?_
      refine W_s (s_aload_n dX11_plan_45 rfl rfl) ?_
      refine W_s (gf_RX11_41 rfl dX11_plan_46) ?_
      refine W_s (gf_RX11_244 rfl dX11_plan_49) ?_
      exact W_r (r := (μ6.1 75 3)) (f_int (ty := .int) dX11_plan_52 rfl rfl)
  · refine W_s (s_if_ne_f dX11_plan_6 rfl (gx_bf h2)) ?_
    refine W_s (s_iconst dX11_plan_9 kci_m1) ?_
    exact W_r (r := (-1)) (f_int (ty := .int) dX11_plan_10 rfl rfl)

def f_X11_left (p1 : Int32) (p2 : Int32) (μ : gx_M) : Option (Int32 × gx_M) := gx_br (f_X11_hasPerson p1 p2 μ) (fun (r1 : Bool) => if r1 = true then gx_ck (gx_ix p1 2 = true) (gx_lt (8 + 16 * p1.toNatClampNeg) (fun (o4 : Nat) => gx_bd (f_X0_choose o4 p2 1099511627775 μ) (fun (r5 : Unit) (μ6 : gx_M) => gx_ck (gx_ix p2 4 = true) (some (((μ6.1 (o4 + 1) p2.toNatClampNeg) + (μ6.1 75 4)), μ6))))) else some ((-1), μ))
theorem ev_X11_left {E : gx_E} {l : Launch} (p1 : Int32) (p2 : Int32) (μ : gx_M) {r : Int32} {μ' : gx_M} (hr : f_X11_left p1 p2 μ = some (r, μ')) : gEv E l 4 Y_X11_left [.ref (E.2.2.1 + 0), .int p1, .int p2] gx_G1 μ (gx_eI r) gx_G1 μ' := by
  refine W_ev (by decide) (Nat.le_of_ble_eq_true rfl) (em := gx_eI) (T := f_X11_left p1 p2 μ) ?_ hr
  show GoW E l Y_X11_left 4 gx_eI 0 (gx_el [.ref (E.2.2.1 + 0), .int p1, .int p2]) [] μ (f_X11_left p1 p2 μ)
  unfold f_X11_left
  refine W_s (s_aload_n dX11_left_0 rfl rfl) ?_
  refine W_s (s_iload_n dX11_left_1 rfl rfl) ?_
  refine W_s (s_iload_n dX11_left_2 rfl rfl) ?_
  refine W_br (ec := gx_eB) (fun r_ hr_ => s_callV (As := [.int _, .int _]) dX11_left_3 Lk_RX11_118 rfl g_0 (by decide) rfl (Nat.le_of_ble_eq_true rfl) (Nat.le_of_ble_eq_true rfl) (ev_X11_hasPerson p1 p2 μ hr_)) (fun r1 => ?_)
  refine W_ite (fun h2 => ?_) (fun h2 => ?_)
  · refine W_s (s_if_ne_t dX11_left_6 rfl (gx_bt h2)) ?_
    refine W_s (s_aload_n dX11_left_11 rfl rfl) ?_
    refine W_s (gf_RX11_12 rfl dX11_left_12) ?_
    refine W_s (gf_RX11_109 rfl dX11_left_15) ?_
    refine W_s (s_iload_n dX11_left_18 rfl rfl) ?_
    refine W_ck (fun h3 => ?_)
    refine W_s (aq_3 dX11_left_19 (gx_ixv h3)) ?_
    refine W_letA (C := fun x => gx_St x) (aqh_3 (gx_ixv h3)) (fun o4 ho4 => ?_)
    refine W_s (s_astore_n dX11_left_20 rfl (Nat.le_of_ble_eq_true rfl)) ?_
    refine W_s (s_aload_n dX11_left_21 rfl rfl) ?_
    refine W_s (gf_RX11_41 rfl dX11_left_22) ?_
    refine W_s (s_aload_n dX11_left_25 rfl rfl) ?_
    refine W_s (s_iload_n dX11_left_26 rfl rfl) ?_
    refine W_s (s_ldc2 dX11_left_27 kw_RX11_212) ?_
    refine W_bd (ec := gx_eV) (fun r_ μ_ hr_ => s_callV (As := [.ref _, .int _, .long _]) dX11_left_30 Lk_RX11_238 rfl g_75 (by decide) rfl (Nat.le_of_ble_eq_true rfl) (Nat.le_of_ble_eq_true rfl) (ev_X0_choose o4 p2 1099511627775 ho4 μ hr_)) (fun r5 μ6 => ?_)
    refine W_s (s_aload_n dX11_left_33 rfl rfl) ?_
    refine W_s (gfm_RX11_141 ho4 rfl dX11_left_34) ?_
    refine W_s (s_iload_n dX11_left_37 rfl rfl) ?_
    refine W_ck (fun h7 => ?_)
    refine W_s (s_iald dX11_left_38 (St_1 ho4) (gx_ixv h7)) ?_
    refine W_s (s_aload_n dX11_left_39 rfl rfl) ?_
    refine W_s (gf_RX11_41 rfl dX11_left_40) ?_
    refine W_s (gf_RX11_241 rfl dX11_left_43) ?_
    refine W_s (s_iadd dX11_left_46) ?_
    exact W_r (r := ((μ6.1 (o4 + 1) p2.toNatClampNeg) + (μ6.1 75 4))) (f_int (ty := .int) dX11_left_47 rfl rfl)
  · refine W_s (s_if_ne_f dX11_left_6 rfl (gx_bf h2)) ?_
    refine W_s (s_iconst dX11_left_9 kci_m1) ?_
    exact W_r (r := (-1)) (f_int (ty := .int) dX11_left_10 rfl rfl)

def f_X11_missed (p1 : Int32) (p2 : Int32) (p3 : Int32) (μ : gx_M) : Option (Int32 × gx_M) := gx_br (f_X11_hasPerson p1 p2 μ) (fun (r1 : Bool) => if r1 = true then gx_ck (gx_ix p1 2 = true) (gx_lt (8 + 16 * p1.toNatClampNeg) (fun (o4 : Nat) => if (f_X5_hasMinute o4 p3 μ) = true then gx_lt (8 + 16 * p1.toNatClampNeg) (fun (o6 : Nat) => gx_bd (f_X0_choose o6 p2 1099511627775 μ) (fun (r7 : Unit) (μ8 : gx_M) => gx_lt (μ8.1 75 4) (fun (x9 : Int32) => gx_bd (f_X0_choose o6 p2 ((1099511627775 : Int64) &&& (((1 : Int64) <<< ((p3 : Int32).toInt64 &&& 63)) ^^^ (-1))) μ8) (fun (r10 : Unit) (μ11 : gx_M) => some ((x9 - (μ11.1 75 4)), μ11))))) else some ((-1), μ))) else some ((-1), μ))
theorem ev_X11_missed {E : gx_E} {l : Launch} (p1 : Int32) (p2 : Int32) (p3 : Int32) (μ : gx_M) {r : Int32} {μ' : gx_M} (hr : f_X11_missed p1 p2 p3 μ = some (r, μ')) : gEv E l 4 Y_X11_missed [.ref (E.2.2.1 + 0), .int p1, .int p2, .int p3] gx_G1 μ (gx_eI r) gx_G1 μ' := by
  refine W_ev (by decide) (Nat.le_of_ble_eq_true rfl) (em := gx_eI) (T := f_X11_missed p1 p2 p3 μ) ?_ hr
  show GoW E l Y_X11_missed 4 gx_eI 0 (gx_el [.ref (E.2.2.1 + 0), .int p1, .int p2, .int p3]) [] μ (f_X11_missed p1 p2 p3 μ)
  unfold f_X11_missed
  refine W_s (s_aload_n dX11_missed_0 rfl rfl) ?_
  refine W_s (s_iload_n dX11_missed_1 rfl rfl) ?_
  refine W_s (s_iload_n dX11_missed_2 rfl rfl) ?_
  refine W_br (ec := gx_eB) (fun r_ hr_ => s_callV (As := [.int _, .int _]) dX11_missed_3 Lk_RX11_118 rfl g_0 (by decide) rfl (Nat.le_of_ble_eq_true rfl) (Nat.le_of_ble_eq_true rfl) (ev_X11_hasPerson p1 p2 μ hr_)) (fun r1 => ?_)
  refine W_ite (fun h2 => ?_) (fun h2 => ?_)
  · refine W_s (s_if_eq_f dX11_missed_6 rfl (gx_bt h2)) ?_
    refine W_s (s_aload_n dX11_missed_9 rfl rfl) ?_
    refine W_s (gf_RX11_12 rfl dX11_missed_10) ?_
    refine W_s (gf_RX11_109 rfl dX11_missed_13) ?_
    refine W_s (s_iload_n dX11_missed_16 rfl rfl) ?_
    refine W_ck (fun h3 => ?_)
    refine W_s (aq_3 dX11_missed_17 (gx_ixv h3)) ?_
    refine W_letA (C := fun x => gx_St x) (aqh_3 (gx_ixv h3)) (fun o4 ho4 => ?_)
    refine W_s (s_iload_n dX11_missed_18 rfl rfl) ?_
    refine W_s (s_callV (As := [.int _]) dX11_missed_19 Lk_RX11_247 rfl (St_0 ho4) (by decide) rfl (Nat.le_of_ble_eq_true rfl) (Nat.le_of_ble_eq_true rfl) (ev_X5_hasMinute o4 p3 ho4 μ)) ?_
    refine W_ite (fun h5 => ?_) (fun h5 => ?_)
    · refine W_s (s_if_ne_t dX11_missed_22 rfl (gx_bt h5)) ?_
      refine W_s (s_aload_n dX11_missed_27 rfl rfl) ?_
      refine W_s (gf_RX11_12 rfl dX11_missed_28) ?_
      refine W_s (gf_RX11_109 rfl dX11_missed_31) ?_
      refine W_s (s_iload_n dX11_missed_34 rfl rfl) ?_
      refine W_s (aq_3 dX11_missed_35 (gx_ixv h3)) ?_
      refine W_letA (C := fun x => gx_St x) (aqh_3 (gx_ixv h3)) (fun o6 ho6 => ?_)
      refine W_s (s_astore dX11_missed_36 (Nat.le_of_ble_eq_true rfl)) ?_
      refine W_s (s_aload_n dX11_missed_38 rfl rfl) ?_
      refine W_s (gf_RX11_41 rfl dX11_missed_39) ?_
      refine W_s (s_aload dX11_missed_42 rfl) ?_
      refine W_s (s_iload_n dX11_missed_44 rfl rfl) ?_
      refine W_s (s_ldc2 dX11_missed_45 kw_RX11_212) ?_
      refine W_bd (ec := gx_eV) (fun r_ μ_ hr_ => s_callV (As := [.ref _, .int _, .long _]) dX11_missed_48 Lk_RX11_238 rfl g_75 (by decide) rfl (Nat.le_of_ble_eq_true rfl) (Nat.le_of_ble_eq_true rfl) (ev_X0_choose o6 p2 1099511627775 ho6 μ hr_)) (fun r7 μ8 => ?_)
      refine W_s (s_aload_n dX11_missed_51 rfl rfl) ?_
      refine W_s (gf_RX11_41 rfl dX11_missed_52) ?_
      refine W_s (gf_RX11_241 rfl dX11_missed_55) ?_
      refine W_letI (fun x9 => ?_)
      refine W_s (s_istore dX11_missed_58 (Nat.le_of_ble_eq_true rfl)) ?_
      refine W_s (s_aload_n dX11_missed_60 rfl rfl) ?_
      refine W_s (gf_RX11_41 rfl dX11_missed_61) ?_
      refine W_s (s_aload dX11_missed_64 rfl) ?_
      refine W_s (s_iload_n dX11_missed_66 rfl rfl) ?_
      refine W_s (s_ldc2 dX11_missed_67 kw_RX11_212) ?_
      refine W_s (s_lconst dX11_missed_70 kcl_1) ?_
      refine W_s (s_iload_n dX11_missed_71 rfl rfl) ?_
      refine W_s (s_lshl dX11_missed_72) ?_
      refine W_s (s_ldc2 dX11_missed_73 kw_RX11_250) ?_
      refine W_s (s_lxor dX11_missed_76) ?_
      refine W_s (s_land dX11_missed_77) ?_
      refine W_bd (ec := gx_eV) (fun r_ μ_ hr_ => s_callV (As := [.ref _, .int _, .long _]) dX11_missed_78 Lk_RX11_238 rfl g_75 (by decide) rfl (Nat.le_of_ble_eq_true rfl) (Nat.le_of_ble_eq_true rfl) (ev_X0_choose o6 p2 ((1099511627775 : Int64) &&& (((1 : Int64) <<< ((p3 : Int32).toInt64 &&& 63)) ^^^ (-1))) ho6 μ8 hr_)) (fun r10 μ11 => ?_)
      refine W_s (s_iload dX11_missed_81 rfl) ?_
      refine W_s (s_aload_n dX11_missed_83 rfl rfl) ?_
      refine W_s (gf_RX11_41 rfl dX11_missed_84) ?_
      refine W_s (gf_RX11_241 rfl dX11_missed_87) ?_
      refine W_s (s_isub dX11_missed_90) ?_
      exact W_r (r := (x9 - (μ11.1 75 4))) (f_int (ty := .int) dX11_missed_91 rfl rfl)
    · refine W_s (s_if_ne_f dX11_missed_22 rfl (gx_bf h5)) ?_
      refine W_s (s_iconst dX11_missed_25 kci_m1) ?_
      exact W_r (r := (-1)) (f_int (ty := .int) dX11_missed_26 rfl rfl)
  · refine W_s (s_if_eq_t dX11_missed_6 rfl (gx_bf h2)) ?_
    refine W_s (s_iconst dX11_missed_25 kci_m1) ?_
    exact W_r (r := (-1)) (f_int (ty := .int) dX11_missed_26 rfl rfl)

def f_X11_gift (p1 : Int32) (p2 : Int32) (p3 : Int32) (p4 : Bool) (μ : gx_M) : Option (Int32 × gx_M) := gx_br (f_X11_hasPersonAndSet p1 p2 p3 μ) (fun (r1 : Bool) => if r1 = true then gx_ck (gx_ix p1 2 = true) (gx_lt (8 + 16 * p1.toNatClampNeg) (fun (o4 : Nat) => gx_bd (f_X0_weighRuns o4 p2 1099511627775 μ) (fun (r5 : Unit) (μ6 : gx_M) => gx_bd (f_X0_arrange o4 p3 μ6) (fun (r7 : Unit) (μ8 : gx_M) => gx_bd (f_X0_give o4 p2 p3 μ8) (fun (r9 : Unit) (μ10 : gx_M) => if p4 = true then some ((μ10.1 75 6), μ10) else some ((μ10.1 75 5), μ10)))))) else some ((-1), μ))
theorem ev_X11_gift {E : gx_E} {l : Launch} (p1 : Int32) (p2 : Int32) (p3 : Int32) (p4 : Bool) (μ : gx_M) {r : Int32} {μ' : gx_M} (hr : f_X11_gift p1 p2 p3 p4 μ = some (r, μ')) : gEv E l 4 Y_X11_gift [.ref (E.2.2.1 + 0), .int p1, .int p2, .int p3, .int (gx_bi p4)] gx_G1 μ (gx_eI r) gx_G1 μ' := by
  refine W_ev (by decide) (Nat.le_of_ble_eq_true rfl) (em := gx_eI) (T := f_X11_gift p1 p2 p3 p4 μ) ?_ hr
  show GoW E l Y_X11_gift 4 gx_eI 0 (gx_el [.ref (E.2.2.1 + 0), .int p1, .int p2, .int p3, .int (gx_bi p4)]) [] μ (f_X11_gift p1 p2 p3 p4 μ)
  unfold f_X11_gift
  refine W_s (s_aload_n dX11_gift_0 rfl rfl) ?_
  refine W_s (s_iload_n dX11_gift_1 rfl rfl) ?_
  refine W_s (s_iload_n dX11_gift_2 rfl rfl) ?_
  refine W_s (s_iload_n dX11_gift_3 rfl rfl) ?_
  refine W_br (ec := gx_eB) (fun r_ hr_ => s_callV (As := [.int _, .int _, .int _]) dX11_gift_4 Lk_RX11_224 rfl g_0 (by decide) rfl (Nat.le_of_ble_eq_true rfl) (Nat.le_of_ble_eq_true rfl) (ev_X11_hasPersonAndSet p1 p2 p3 μ hr_)) (fun r1 => ?_)
  refine W_ite (fun h2 => ?_) (fun h2 => ?_)
  · refine W_s (s_if_ne_t dX11_gift_7 rfl (gx_bt h2)) ?_
    refine W_s (s_aload_n dX11_gift_12 rfl rfl) ?_
    refine W_s (gf_RX11_12 rfl dX11_gift_13) ?_
    refine W_s (gf_RX11_109 rfl dX11_gift_16) ?_
    refine W_s (s_iload_n dX11_gift_19 rfl rfl) ?_
    refine W_ck (fun h3 => ?_)
    refine W_s (aq_3 dX11_gift_20 (gx_ixv h3)) ?_
    refine W_letA (C := fun x => gx_St x) (aqh_3 (gx_ixv h3)) (fun o4 ho4 => ?_)
    refine W_s (s_astore dX11_gift_21 (Nat.le_of_ble_eq_true rfl)) ?_
    refine W_s (s_aload_n dX11_gift_23 rfl rfl) ?_
    refine W_s (gf_RX11_41 rfl dX11_gift_24) ?_
    refine W_s (s_aload dX11_gift_27 rfl) ?_
    refine W_s (s_iload_n dX11_gift_29 rfl rfl) ?_
    refine W_s (s_ldc2 dX11_gift_30 kw_RX11_212) ?_
    refine W_bd (ec := gx_eV) (fun r_ μ_ hr_ => s_callV (As := [.ref _, .int _, .long _]) dX11_gift_33 Lk_RX11_214 rfl g_75 (by decide) rfl (Nat.le_of_ble_eq_true rfl) (Nat.le_of_ble_eq_true rfl) (ev_X0_weighRuns o4 p2 1099511627775 ho4 μ hr_)) (fun r5 μ6 => ?_)
    refine W_s (s_aload_n dX11_gift_36 rfl rfl) ?_
    refine W_s (gf_RX11_41 rfl dX11_gift_37) ?_
    refine W_s (s_aload dX11_gift_40 rfl) ?_
    refine W_s (s_iload_n dX11_gift_42 rfl rfl) ?_
    refine W_bd (ec := gx_eV) (fun r_ μ_ hr_ => s_callV (As := [.ref _, .int _]) dX11_gift_43 Lk_RX11_227 rfl g_75 (by decide) rfl (Nat.le_of_ble_eq_true rfl) (Nat.le_of_ble_eq_true rfl) (ev_X0_arrange o4 p3 ho4 μ6 hr_)) (fun r7 μ8 => ?_)
    refine W_s (s_aload_n dX11_gift_46 rfl rfl) ?_
    refine W_s (gf_RX11_41 rfl dX11_gift_47) ?_
    refine W_s (s_aload dX11_gift_50 rfl) ?_
    refine W_s (s_iload_n dX11_gift_52 rfl rfl) ?_
    refine W_s (s_iload_n dX11_gift_53 rfl rfl) ?_
    refine W_bd (ec := gx_eV) (fun r_ μ_ hr_ => s_callV (As := [.ref _, .int _, .int _]) dX11_gift_54 Lk_RX11_252 rfl g_75 (by decide) rfl (Nat.le_of_ble_eq_true rfl) (Nat.le_of_ble_eq_true rfl) (ev_X0_give o4 p2 p3 ho4 μ8 hr_)) (fun r9 μ10 => ?_)
    refine W_s (s_iload dX11_gift_57 rfl) ?_
    refine W_ite (fun h11 => ?_) (fun h11 => ?_)
    · refine W_s (s_if_eq_f dX11_gift_59 rfl (gx_bt h11)) ?_
      refine W_s (s_aload_n dX11_gift_62 rfl rfl) ?_
      refine W_s (gf_RX11_41 rfl dX11_gift_63) ?_
      refine W_s (gf_RX11_255 rfl dX11_gift_66) ?_
      refine W_s (s_goto dX11_gift_69 rfl) ?_
      exact W_r (r := (μ10.1 75 6)) (f_int (ty := .int) dX11_gift_79 rfl rfl)
    · refine W_s (s_if_eq_t dX11_gift_59 rfl (gx_bf h11)) ?_
      refine W_s (s_aload_n dX11_gift_72 rfl rfl) ?_
      refine W_s (gf_RX11_41 rfl dX11_gift_73) ?_
      refine W_s (gf_RX11_258 rfl dX11_gift_76) ?_
      exact W_r (r := (μ10.1 75 5)) (f_int (ty := .int) dX11_gift_79 rfl rfl)
  · refine W_s (s_if_ne_f dX11_gift_7 rfl (gx_bf h2)) ?_
    refine W_s (s_iconst dX11_gift_10 kci_m1) ?_
    exact W_r (r := (-1)) (f_int (ty := .int) dX11_gift_11 rfl rfl)

def f_X11_swap (p1 : Int32) (p2 : Int32) (μ : gx_M) : Option (Int32 × gx_M) := gx_br (f_X11_hasSwaps p1 μ) (fun (r1 : Bool) => if r1 = true then gx_ck (gx_ix p1 2 = true) (gx_lt (22 + 16 * p1.toNatClampNeg) (fun (o4 : Nat) => if p2 = 0 then some ((μ.1 o4 0), μ) else if (f_X11_isAmong p2 100 36) = true then gx_lt ((p2 - 100) / 6) (fun (x7 : Int32) => gx_lt ((p2 - 100) - (p2 - 100) / 6 * 6) (fun (x8 : Int32) => if (μ.1 o4 0) ≤ x7 then some ((-1000), μ) else if (μ.1 o4 0) ≤ x8 then some ((-1000), μ) else gx_br (f_X6_worthTo o4 x7 x8 μ) (fun (r11 : Int32) => some (r11, μ)))) else gx_bd (f_X10_settle o4 μ) (fun (r12 : Unit) (μ13 : gx_M) => if p2 = 1 then gx_br (f_X10_gain o4 μ13) (fun (r20 : Int32) => some (r20, μ13)) else if p2 = 2 then some ((μ13.1 84 3), μ13) else if (f_X11_isAmong p2 10 (μ13.1 o4 0)) = true then gx_ck (gx_ix (p2 - 10) 6 = true) (some ((μ13.1 85 (p2 - 10).toNatClampNeg), μ13)) else if (f_X11_isAmong p2 20 (μ13.1 o4 0)) = true then gx_ck (gx_ix (p2 - 20) 6 = true) (some ((μ13.1 86 (p2 - 20).toNatClampNeg), μ13)) else some ((-1000), μ13)))) else some ((-1000), μ))
theorem ev_X11_swap {E : gx_E} {l : Launch} (p1 : Int32) (p2 : Int32) (μ : gx_M) {r : Int32} {μ' : gx_M} (hr : f_X11_swap p1 p2 μ = some (r, μ')) : gEv E l 4 Y_X11_swap [.ref (E.2.2.1 + 0), .int p1, .int p2] gx_G1 μ (gx_eI r) gx_G1 μ' := by
  refine W_ev (by decide) (Nat.le_of_ble_eq_true rfl) (em := gx_eI) (T := f_X11_swap p1 p2 μ) ?_ hr
  show GoW E l Y_X11_swap 4 gx_eI 0 (gx_el [.ref (E.2.2.1 + 0), .int p1, .int p2]) [] μ (f_X11_swap p1 p2 μ)
  unfold f_X11_swap
  refine W_s (s_aload_n dX11_swap_0 rfl rfl) ?_
  refine W_s (s_iload_n dX11_swap_1 rfl rfl) ?_
  refine W_br (ec := gx_eB) (fun r_ hr_ => s_callV (As := [.int _]) dX11_swap_2 Lk_RX11_361 rfl g_0 (by decide) rfl (Nat.le_of_ble_eq_true rfl) (Nat.le_of_ble_eq_true rfl) (ev_X11_hasSwaps p1 μ hr_)) (fun r1 => ?_)
  refine W_ite (fun h2 => ?_) (fun h2 => ?_)
  · refine W_s (s_if_ne_t dX11_swap_5 rfl (gx_bt h2)) ?_
    refine W_s (s_aload_n dX11_swap_12 rfl rfl) ?_
    refine W_s (gf_RX11_12 rfl dX11_swap_13) ?_
    refine W_s (gf_RX11_364 rfl dX11_swap_16) ?_
    refine W_s (s_iload_n dX11_swap_19 rfl rfl) ?_
    refine W_ck (fun h3 => ?_)
    refine W_s (aq_6 dX11_swap_20 (gx_ixv h3)) ?_
    refine W_letA (C := fun x => gx_Sw x) (aqh_6 (gx_ixv h3)) (fun o4 ho4 => ?_)
    refine W_s (s_astore_n dX11_swap_21 rfl (Nat.le_of_ble_eq_true rfl)) ?_
    refine W_s (s_iload_n dX11_swap_22 rfl rfl) ?_
    refine W_ite (fun h5 => ?_) (fun h5 => ?_)
    · refine W_s (s_if_ne_f dX11_swap_23 rfl h5) ?_
      refine W_s (s_aload_n dX11_swap_26 rfl rfl) ?_
      refine W_s (gfm_RX11_368 ho4 rfl dX11_swap_27) ?_
      exact W_r (r := (μ.1 o4 0)) (f_int (ty := .int) dX11_swap_30 rfl rfl)
    · refine W_s (s_if_ne_t dX11_swap_23 rfl h5) ?_
      refine W_s (s_iload_n dX11_swap_31 rfl rfl) ?_
      refine W_s (s_bipush dX11_swap_32 kcb_100) ?_
      refine W_s (s_bipush dX11_swap_34 kcb_36) ?_
      refine W_s (s_callS (As := [.int _, .int _, .int _]) dX11_swap_36 Lk_RX11_137 rfl (Nat.le_of_ble_eq_true rfl) (Nat.le_of_ble_eq_true rfl) (ev_X11_isAmong p2 100 36 μ)) ?_
      refine W_ite (fun h6 => ?_) (fun h6 => ?_)
      · refine W_s (s_if_eq_f dX11_swap_39 rfl (gx_bt h6)) ?_
        refine W_s (s_iload_n dX11_swap_42 rfl rfl) ?_
        refine W_s (s_bipush dX11_swap_43 kcb_100) ?_
        refine W_s (s_isub dX11_swap_45) ?_
        refine W_s (s_bipush dX11_swap_46 kcb_6) ?_
        refine W_s (s_idiv dX11_swap_48 (by decide)) ?_
        refine W_letI (fun x7 => ?_)
        refine W_s (s_istore dX11_swap_49 (Nat.le_of_ble_eq_true rfl)) ?_
        refine W_s (s_iload_n dX11_swap_51 rfl rfl) ?_
        refine W_s (s_bipush dX11_swap_52 kcb_100) ?_
        refine W_s (s_isub dX11_swap_54) ?_
        refine W_s (s_bipush dX11_swap_55 kcb_6) ?_
        refine W_s (s_irem dX11_swap_57 (by decide)) ?_
        refine W_letI (fun x8 => ?_)
        refine W_s (s_istore dX11_swap_58 (Nat.le_of_ble_eq_true rfl)) ?_
        refine W_s (s_iload dX11_swap_60 rfl) ?_
        refine W_s (s_aload_n dX11_swap_62 rfl rfl) ?_
        refine W_s (gfm_RX11_368 ho4 rfl dX11_swap_63) ?_
        refine W_ite (fun h9 => ?_) (fun h9 => ?_)
        · refine W_s (s_icmp_ge_t dX11_swap_66 rfl h9) ?_
          refine W_s (s_sipush dX11_swap_89 kcs_m1000) ?_
          exact W_r (r := (-1000)) (f_int (ty := .int) dX11_swap_92 rfl rfl)
        · refine W_s (s_icmp_ge_f dX11_swap_66 rfl h9) ?_
          refine W_s (s_iload dX11_swap_69 rfl) ?_
          refine W_s (s_aload_n dX11_swap_71 rfl rfl) ?_
          refine W_s (gfm_RX11_368 ho4 rfl dX11_swap_72) ?_
          refine W_ite (fun h10 => ?_) (fun h10 => ?_)
          · refine W_s (s_icmp_ge_t dX11_swap_75 rfl h10) ?_
            refine W_s (s_sipush dX11_swap_89 kcs_m1000) ?_
            exact W_r (r := (-1000)) (f_int (ty := .int) dX11_swap_92 rfl rfl)
          · refine W_s (s_icmp_ge_f dX11_swap_75 rfl h10) ?_
            refine W_s (s_aload_n dX11_swap_78 rfl rfl) ?_
            refine W_s (s_iload dX11_swap_79 rfl) ?_
            refine W_s (s_iload dX11_swap_81 rfl) ?_
            refine W_br (ec := gx_eI) (fun r_ hr_ => s_callV (As := [.int _, .int _]) dX11_swap_83 Lk_RX11_373 rfl (Sw_0 ho4) (by decide) rfl (Nat.le_of_ble_eq_true rfl) (Nat.le_of_ble_eq_true rfl) (ev_X6_worthTo o4 x7 x8 ho4 μ hr_)) (fun r11 => ?_)
            refine W_s (s_goto dX11_swap_86 rfl) ?_
            exact W_r (r := r11) (f_int (ty := .int) dX11_swap_92 rfl rfl)
      · refine W_s (s_if_eq_t dX11_swap_39 rfl (gx_bf h6)) ?_
        refine W_s (s_aload_n dX11_swap_93 rfl rfl) ?_
        refine W_s (gf_RX11_62 rfl dX11_swap_94) ?_
        refine W_s (s_aload_n dX11_swap_97 rfl rfl) ?_
        refine W_bd (ec := gx_eV) (fun r_ μ_ hr_ => s_callV (As := [.ref _]) dX11_swap_98 Lk_RX11_376 rfl g_84 (by decide) rfl (Nat.le_of_ble_eq_true rfl) (Nat.le_of_ble_eq_true rfl) (ev_X10_settle o4 ho4 μ hr_)) (fun r12 μ13 => ?_)
        refine W_s (s_iload_n dX11_swap_101 rfl rfl) ?_
        refine W_s (s_iconst dX11_swap_102 kci_1) ?_
        refine W_ite (fun h14 => ?_) (fun h14 => ?_)
        · refine W_s (s_icmp_ne_f dX11_swap_103 rfl h14) ?_
          refine W_s (s_aload_n dX11_swap_106 rfl rfl) ?_
          refine W_s (gf_RX11_62 rfl dX11_swap_107) ?_
          refine W_s (s_aload_n dX11_swap_110 rfl rfl) ?_
          refine W_br (ec := gx_eI) (fun r_ hr_ => s_callV (As := [.ref _]) dX11_swap_111 Lk_RX11_380 rfl g_84 (by decide) rfl (Nat.le_of_ble_eq_true rfl) (Nat.le_of_ble_eq_true rfl) (ev_X10_gain o4 ho4 μ13 hr_)) (fun r20 => ?_)
          exact W_r (r := r20) (f_int (ty := .int) dX11_swap_114 rfl rfl)
        · refine W_s (s_icmp_ne_t dX11_swap_103 rfl h14) ?_
          refine W_s (s_iload_n dX11_swap_115 rfl rfl) ?_
          refine W_s (s_iconst dX11_swap_116 kci_2) ?_
          refine W_ite (fun h15 => ?_) (fun h15 => ?_)
          · refine W_s (s_icmp_ne_f dX11_swap_117 rfl h15) ?_
            refine W_s (s_aload_n dX11_swap_120 rfl rfl) ?_
            refine W_s (gf_RX11_62 rfl dX11_swap_121) ?_
            refine W_s (gf_RX11_384 rfl dX11_swap_124) ?_
            exact W_r (r := (μ13.1 84 3)) (f_int (ty := .int) dX11_swap_127 rfl rfl)
          · refine W_s (s_icmp_ne_t dX11_swap_117 rfl h15) ?_
            refine W_s (s_iload_n dX11_swap_128 rfl rfl) ?_
            refine W_s (s_bipush dX11_swap_129 kcb_10) ?_
            refine W_s (s_aload_n dX11_swap_131 rfl rfl) ?_
            refine W_s (gfm_RX11_368 ho4 rfl dX11_swap_132) ?_
            refine W_s (s_callS (As := [.int _, .int _, .int _]) dX11_swap_135 Lk_RX11_137 rfl (Nat.le_of_ble_eq_true rfl) (Nat.le_of_ble_eq_true rfl) (ev_X11_isAmong p2 10 (μ13.1 o4 0) μ13)) ?_
            refine W_ite (fun h16 => ?_) (fun h16 => ?_)
            · refine W_s (s_if_eq_f dX11_swap_138 rfl (gx_bt h16)) ?_
              refine W_s (s_aload_n dX11_swap_141 rfl rfl) ?_
              refine W_s (gf_RX11_62 rfl dX11_swap_142) ?_
              refine W_s (gf_RX11_387 rfl dX11_swap_145) ?_
              refine W_s (s_iload_n dX11_swap_148 rfl rfl) ?_
              refine W_s (s_bipush dX11_swap_149 kcb_10) ?_
              refine W_s (s_isub dX11_swap_151) ?_
              refine W_ck (fun h17 => ?_)
              refine W_s (s_iald dX11_swap_152 g_85 (gx_ixv h17)) ?_
              exact W_r (r := (μ13.1 85 (p2 - 10).toNatClampNeg)) (f_int (ty := .int) dX11_swap_153 rfl rfl)
            · refine W_s (s_if_eq_t dX11_swap_138 rfl (gx_bf h16)) ?_
              refine W_s (s_iload_n dX11_swap_154 rfl rfl) ?_
              refine W_s (s_bipush dX11_swap_155 kcb_20) ?_
              refine W_s (s_aload_n dX11_swap_157 rfl rfl) ?_
              refine W_s (gfm_RX11_368 ho4 rfl dX11_swap_158) ?_
              refine W_s (s_callS (As := [.int _, .int _, .int _]) dX11_swap_161 Lk_RX11_137 rfl (Nat.le_of_ble_eq_true rfl) (Nat.le_of_ble_eq_true rfl) (ev_X11_isAmong p2 20 (μ13.1 o4 0) μ13)) ?_
              refine W_ite (fun h18 => ?_) (fun h18 => ?_)
              · refine W_s (s_if_eq_f dX11_swap_164 rfl (gx_bt h18)) ?_
                refine W_s (s_aload_n dX11_swap_167 rfl rfl) ?_
                refine W_s (gf_RX11_62 rfl dX11_swap_168) ?_
                refine W_s (gf_RX11_390 rfl dX11_swap_171) ?_
                refine W_s (s_iload_n dX11_swap_174 rfl rfl) ?_
                refine W_s (s_bipush dX11_swap_175 kcb_20) ?_
                refine W_s (s_isub dX11_swap_177) ?_
                refine W_ck (fun h19 => ?_)
                refine W_s (s_iald dX11_swap_178 g_86 (gx_ixv h19)) ?_
                refine W_s (s_goto dX11_swap_179 rfl) ?_
                exact W_r (r := (μ13.1 86 (p2 - 20).toNatClampNeg)) (f_int (ty := .int) dX11_swap_185 rfl rfl)
              · refine W_s (s_if_eq_t dX11_swap_164 rfl (gx_bf h18)) ?_
                refine W_s (s_sipush dX11_swap_182 kcs_m1000) ?_
                exact W_r (r := (-1000)) (f_int (ty := .int) dX11_swap_185 rfl rfl)
  · refine W_s (s_if_ne_f dX11_swap_5 rfl (gx_bf h2)) ?_
    refine W_s (s_sipush dX11_swap_8 kcs_m1000) ?_
    exact W_r (r := (-1000)) (f_int (ty := .int) dX11_swap_11 rfl rfl)

def f_X11_happy (p1 : Int32) (p2 : Int32) (μ : gx_M) : Option (Int32 × gx_M) := gx_br (f_X11_hasSwaps p1 μ) (fun (r1 : Bool) => if r1 = true then gx_ck (gx_ix p1 2 = true) (gx_lt (22 + 16 * p1.toNatClampNeg) (fun (o4 : Nat) => gx_bd (f_X10_settle o4 μ) (fun (r5 : Unit) (μ6 : gx_M) => if p2 = 0 then gx_br (f_X10_contented o4 μ6) (fun (r8 : Int32) => some (r8, μ6)) else if p2 = 1 then gx_br (f_X6_pairs o4 μ6) (fun (r10 : Int32) => some (r10, μ6)) else if p2 = 2 then gx_br (f_X10_envy o4 μ6) (fun (r12 : Int32) => some (r12, μ6)) else some ((-1), μ6)))) else some ((-1), μ))
theorem ev_X11_happy {E : gx_E} {l : Launch} (p1 : Int32) (p2 : Int32) (μ : gx_M) {r : Int32} {μ' : gx_M} (hr : f_X11_happy p1 p2 μ = some (r, μ')) : gEv E l 4 Y_X11_happy [.ref (E.2.2.1 + 0), .int p1, .int p2] gx_G1 μ (gx_eI r) gx_G1 μ' := by
  refine W_ev (by decide) (Nat.le_of_ble_eq_true rfl) (em := gx_eI) (T := f_X11_happy p1 p2 μ) ?_ hr
  show GoW E l Y_X11_happy 4 gx_eI 0 (gx_el [.ref (E.2.2.1 + 0), .int p1, .int p2]) [] μ (f_X11_happy p1 p2 μ)
  unfold f_X11_happy
  refine W_s (s_aload_n dX11_happy_0 rfl rfl) ?_
  refine W_s (s_iload_n dX11_happy_1 rfl rfl) ?_
  refine W_br (ec := gx_eB) (fun r_ hr_ => s_callV (As := [.int _]) dX11_happy_2 Lk_RX11_361 rfl g_0 (by decide) rfl (Nat.le_of_ble_eq_true rfl) (Nat.le_of_ble_eq_true rfl) (ev_X11_hasSwaps p1 μ hr_)) (fun r1 => ?_)
  refine W_ite (fun h2 => ?_) (fun h2 => ?_)
  · refine W_s (s_if_ne_t dX11_happy_5 rfl (gx_bt h2)) ?_
    refine W_s (s_aload_n dX11_happy_10 rfl rfl) ?_
    refine W_s (gf_RX11_12 rfl dX11_happy_11) ?_
    refine W_s (gf_RX11_364 rfl dX11_happy_14) ?_
    refine W_s (s_iload_n dX11_happy_17 rfl rfl) ?_
    refine W_ck (fun h3 => ?_)
    refine W_s (aq_6 dX11_happy_18 (gx_ixv h3)) ?_
    refine W_letA (C := fun x => gx_Sw x) (aqh_6 (gx_ixv h3)) (fun o4 ho4 => ?_)
    refine W_s (s_astore_n dX11_happy_19 rfl (Nat.le_of_ble_eq_true rfl)) ?_
    refine W_s (s_aload_n dX11_happy_20 rfl rfl) ?_
    refine W_s (gf_RX11_62 rfl dX11_happy_21) ?_
    refine W_s (s_aload_n dX11_happy_24 rfl rfl) ?_
    refine W_bd (ec := gx_eV) (fun r_ μ_ hr_ => s_callV (As := [.ref _]) dX11_happy_25 Lk_RX11_376 rfl g_84 (by decide) rfl (Nat.le_of_ble_eq_true rfl) (Nat.le_of_ble_eq_true rfl) (ev_X10_settle o4 ho4 μ hr_)) (fun r5 μ6 => ?_)
    refine W_s (s_iload_n dX11_happy_28 rfl rfl) ?_
    refine W_ite (fun h7 => ?_) (fun h7 => ?_)
    · refine W_s (s_tsw_eq (c := 0) dX11_happy_29 h7 (by decide) (by decide) rfl rfl) ?_
      refine W_s (s_aload_n dX11_happy_56 rfl rfl) ?_
      refine W_s (gf_RX11_62 rfl dX11_happy_57) ?_
      refine W_s (s_aload_n dX11_happy_60 rfl rfl) ?_
      refine W_br (ec := gx_eI) (fun r_ hr_ => s_callV (As := [.ref _]) dX11_happy_61 Lk_RX11_393 rfl g_84 (by decide) rfl (Nat.le_of_ble_eq_true rfl) (Nat.le_of_ble_eq_true rfl) (ev_X10_contented o4 ho4 μ6 hr_)) (fun r8 => ?_)
      exact W_r (r := r8) (f_int (ty := .int) dX11_happy_64 rfl rfl)
    · skip
      refine W_ite (fun h9 => ?_) (fun h9 => ?_)
      · refine W_s (s_tsw_eq (c := 1) dX11_happy_29 h9 (by decide) (by decide) rfl rfl) ?_
        refine W_s (s_aload_n dX11_happy_65 rfl rfl) ?_
        refine W_br (ec := gx_eI) (fun r_ hr_ => s_callV (As := []) dX11_happy_66 Lk_RX11_396 rfl (Sw_0 ho4) (by decide) rfl (Nat.le_of_ble_eq_true rfl) (Nat.le_of_ble_eq_true rfl) (ev_X6_pairs o4 ho4 μ6 hr_)) (fun r10 => ?_)
        exact W_r (r := r10) (f_int (ty := .int) dX11_happy_69 rfl rfl)
      · skip
        refine W_ite (fun h11 => ?_) (fun h11 => ?_)
        · refine W_s (s_tsw_eq (c := 2) dX11_happy_29 h11 (by decide) (by decide) rfl rfl) ?_
          refine W_s (s_aload_n dX11_happy_70 rfl rfl) ?_
          refine W_s (gf_RX11_62 rfl dX11_happy_71) ?_
          refine W_s (s_aload_n dX11_happy_74 rfl rfl) ?_
          refine W_br (ec := gx_eI) (fun r_ hr_ => s_callV (As := [.ref _]) dX11_happy_75 Lk_RX11_399 rfl g_84 (by decide) rfl (Nat.le_of_ble_eq_true rfl) (Nat.le_of_ble_eq_true rfl) (ev_X10_envy o4 ho4 μ6 hr_)) (fun r12 => ?_)
          exact W_r (r := r12) (f_int (ty := .int) dX11_happy_78 rfl rfl)
        · skip
          refine W_s (s_tsw_out dX11_happy_29 (gx_out_0_3 h7 h9 h11) rfl) ?_
          refine W_s (s_iconst dX11_happy_79 kci_m1) ?_
          exact W_r (r := (-1)) (f_int (ty := .int) dX11_happy_80 rfl rfl)
  · refine W_s (s_if_ne_f dX11_happy_5 rfl (gx_bf h2)) ?_
    refine W_s (s_iconst dX11_happy_8 kci_m1) ?_
    exact W_r (r := (-1)) (f_int (ty := .int) dX11_happy_9 rfl rfl)

def L_X3_drawDeeds_13 (p3 : Int32) (k6 : gx_M → Option (Unit × gx_M)) : Nat → Int32 → gx_M → Option (Unit × gx_M)
  | 0, _, _ => none
  | n + 1, v4_4, μ5 => if p3 ≤ v4_4 then k6 μ5 else gx_bd (f_X3_drawDeed μ5) (fun (r8 : Unit) (μ9 : gx_M) => L_X3_drawDeeds_13 p3 k6 n (v4_4 + 1) μ9)
def f_X3_drawDeeds (a1 : Nat) (p2 : Int32) (p3 : Int32) (μ : gx_M) : Option (Unit × gx_M) := gx_bd (f_X3_begin a1 μ) (fun (r1 : Unit) (μ2 : gx_M) => gx_lt (gx_uI μ2 62 6 p2) (fun (μ3 : gx_M) => L_X3_drawDeeds_13 p3 (fun (μ11 : gx_M) => some ((), μ11)) 4000 0 μ3))
theorem okL_X3_drawDeeds_13 {E : gx_E} {l : Launch} {p3 : Int32} {a1 : Nat} (ha1 : gx_St a1) {k6 : gx_M → Option (Unit × gx_M)} (hk : ∀ (μ10 : gx_M), GoW E l Y_X3_drawDeeds 5 gx_eV 29 [] [] μ10 (k6 μ10)) : ∀ (n : Nat) (v4_4 : Int32) (μ5 : gx_M), GoW E l Y_X3_drawDeeds 5 gx_eV 13 [some (.ref (E.2.2.1 + 62)), none, none, some (.int p3), some (.int v4_4)] [] μ5 (L_X3_drawDeeds_13 p3 k6 n v4_4 μ5) := by
  intro n
  induction n with
  | zero => intros; exact W_no
  | succ n ih =>
    intro v4_4 μ5
    rw [L_X3_drawDeeds_13.eq_2]
    refine W_s (s_iload dX3_drawDeeds_13 rfl) ?_
    refine W_s (s_iload_n dX3_drawDeeds_15 rfl rfl) ?_
    refine W_ite (fun h7 => ?_) (fun h7 => ?_)
    · refine W_s (s_icmp_ge_t dX3_drawDeeds_16 rfl h7) ?_
      exact W_wk (hk μ5) le_n
    · refine W_s (s_icmp_ge_f dX3_drawDeeds_16 rfl h7) ?_
      refine W_s (s_aload_n dX3_drawDeeds_19 rfl rfl) ?_
      refine W_bd (ec := gx_eV) (fun r_ μ_ hr_ => s_callV (As := []) dX3_drawDeeds_20 Lk_RX3_134 rfl g_62 (by decide) rfl (Nat.le_of_ble_eq_true rfl) (Nat.le_of_ble_eq_true rfl) (ev_X3_drawDeed μ5 hr_)) (fun r8 μ9 => ?_)
      refine W_s (s_iinc dX3_drawDeeds_23 rfl (kinc_1 v4_4) (Nat.le_of_ble_eq_true rfl)) ?_
      refine W_s (s_goto dX3_drawDeeds_26 rfl) ?_
      exact W_wk (ih (v4_4 + 1) μ9) (le_s rfl (le_o (le_o (le_s rfl (le_s rfl le_n)))))
theorem ev_X3_drawDeeds {E : gx_E} {l : Launch} (a1 : Nat) (p2 : Int32) (p3 : Int32) (ha1 : gx_St a1) (μ : gx_M) {r : Unit} {μ' : gx_M} (hr : f_X3_drawDeeds a1 p2 p3 μ = some (r, μ')) : gEv E l 5 Y_X3_drawDeeds [.ref (E.2.2.1 + 62), .ref (E.2.2.1 + a1), .int p2, .int p3] gx_G1 μ (gx_eV r) gx_G1 μ' := by
  refine W_ev (by decide) (Nat.le_of_ble_eq_true rfl) (em := gx_eV) (T := f_X3_drawDeeds a1 p2 p3 μ) ?_ hr
  show GoW E l Y_X3_drawDeeds 5 gx_eV 0 (gx_el [.ref (E.2.2.1 + 62), .ref (E.2.2.1 + a1), .int p2, .int p3]) [] μ (f_X3_drawDeeds a1 p2 p3 μ)
  unfold f_X3_drawDeeds
  refine W_s (s_aload_n dX3_drawDeeds_0 rfl rfl) ?_
  refine W_s (s_aload_n dX3_drawDeeds_1 rfl rfl) ?_
  refine W_bd (ec := gx_eV) (fun r_ μ_ hr_ => s_callV (As := [.ref _]) dX3_drawDeeds_2 Lk_RX3_46 rfl g_62 (by decide) rfl (Nat.le_of_ble_eq_true rfl) (Nat.le_of_ble_eq_true rfl) (ev_X3_begin a1 ha1 μ hr_)) (fun r1 μ2 => ?_)
  refine W_s (s_aload_n dX3_drawDeeds_5 rfl rfl) ?_
  refine W_s (s_iload_n dX3_drawDeeds_6 rfl rfl) ?_
  refine W_s (pf_RX3_131 rfl dX3_drawDeeds_7) ?_
  refine W_letM (fun μ3 => ?_)
  refine W_s (s_iconst dX3_drawDeeds_10 kci_0) ?_
  refine W_s (s_istore dX3_drawDeeds_11 (Nat.le_of_ble_eq_true rfl)) ?_
  refine W_wk (okL_X3_drawDeeds_13 ha1 ?_ 4000 0 μ3) (le_s rfl (le_o (le_o (le_s rfl (le_s rfl le_n)))))
  intro μ11
  exact W_r (r := ()) (f_void dX3_drawDeeds_29 rfl)

def L_X4_kindOfLine_6 (p1 : Int32) (μ : gx_M) (k4 : Option Int32) : Nat → Int32 → Option Int32
  | 0, _ => none
  | n + 1, v2_3 => gx_ck (gx_ix (p1 + 1) 5 = true) (if (gx_fk (p1 + 1).toNatClampNeg) ≤ v2_3 then k4 else gx_br (f_X8_isWord (f_X4_wordOf v2_3) μ) (fun (r7 : Bool) => if r7 = true then some v2_3 else L_X4_kindOfLine_6 p1 μ k4 n (v2_3 + 1)))
def f_X4_kindOfLine (p1 : Int32) (μ : gx_M) : Option Int32 := gx_ck (gx_ix p1 5 = true) (gx_lt (gx_fk p1.toNatClampNeg) (fun (x2 : Int32) => L_X4_kindOfLine_6 p1 μ (some (-1)) 4000 x2))
theorem okL_X4_kindOfLine_6 {E : gx_E} {l : Launch} {fk : Nat} {uq : Option Nat} {adK adV : Nat → Nat} (hE : gx_EX E fk uq adK adV) {p1 : Int32} {μ : gx_M} {k4 : Option Int32} (hk : GoR E l Y_X4_kindOfLine 5 gx_eI 39 [] [] μ (k4)) : ∀ (n : Nat) (v2_3 : Int32), GoR E l Y_X4_kindOfLine 5 gx_eI 6 [some (.ref (E.2.2.1 + 42)), some (.int p1), some (.int v2_3)] [] μ (L_X4_kindOfLine_6 p1 μ k4 n v2_3) := by
  intro n
  induction n with
  | zero => intros; exact R_no
  | succ n ih =>
    intro v2_3
    rw [L_X4_kindOfLine_6.eq_2]
    refine R_s (s_iload_n dX4_kindOfLine_6 rfl rfl) ?_
    refine R_s (gs_RX4_139 hE rfl dX4_kindOfLine_7) ?_
    refine R_s (s_iload_n dX4_kindOfLine_10 rfl rfl) ?_
    refine R_s (s_iconst dX4_kindOfLine_11 kci_1) ?_
    refine R_s (s_iadd dX4_kindOfLine_12) ?_
    refine R_ck (fun h5 => ?_)
    refine R_s (s_fkald hE dX4_kindOfLine_13 (gx_ixv h5)) ?_
    refine R_ite (fun h6 => ?_) (fun h6 => ?_)
    · refine R_s (s_icmp_ge_t dX4_kindOfLine_14 rfl h6) ?_
      exact R_wk (hk) le_n
    · refine R_s (s_icmp_ge_f dX4_kindOfLine_14 rfl h6) ?_
      refine R_s (s_aload_n dX4_kindOfLine_17 rfl rfl) ?_
      refine R_s (gf_RX4_12 rfl dX4_kindOfLine_18) ?_
      refine R_s (s_iload_n dX4_kindOfLine_21 rfl rfl) ?_
      refine R_s (s_callS (As := [.int _]) dX4_kindOfLine_22 Lk_RX4_142 rfl (Nat.le_of_ble_eq_true rfl) (Nat.le_of_ble_eq_true rfl) (ev_X4_wordOf hE v2_3 μ)) ?_
      refine R_br (ec := gx_eB) (fun r_ hr_ => s_callV (As := [.ref _]) dX4_kindOfLine_25 Lk_RX4_145 rfl g_43 (by decide) rfl (Nat.le_of_ble_eq_true rfl) (Nat.le_of_ble_eq_true rfl) (ev_X8_isWord hE (f_X4_wordOf v2_3) (X4_wordOf_lt v2_3) μ hr_)) (fun r7 => ?_)
      refine R_ite (fun h8 => ?_) (fun h8 => ?_)
      · refine R_s (s_if_eq_f dX4_kindOfLine_28 rfl (gx_bt h8)) ?_
        refine R_s (s_iload_n dX4_kindOfLine_31 rfl rfl) ?_
        exact R_r (r := v2_3) (f_int (ty := .int) dX4_kindOfLine_32 rfl rfl)
      · refine R_s (s_if_eq_t dX4_kindOfLine_28 rfl (gx_bf h8)) ?_
        refine R_s (s_iinc dX4_kindOfLine_33 rfl (kinc_1 v2_3) (Nat.le_of_ble_eq_true rfl)) ?_
        refine R_s (s_goto dX4_kindOfLine_36 rfl) ?_
        exact R_wk (ih (v2_3 + 1)) (le_s rfl (le_s rfl (le_s rfl le_n)))
theorem ev_X4_kindOfLine {E : gx_E} {l : Launch} {fk : Nat} {uq : Option Nat} {adK adV : Nat → Nat} (hE : gx_EX E fk uq adK adV) (p1 : Int32) (μ : gx_M) {r : Int32} (hr : f_X4_kindOfLine p1 μ = some r) : gEv E l 5 Y_X4_kindOfLine [.ref (E.2.2.1 + 42), .int p1] gx_G1 μ (gx_eI r) gx_G1 μ := by
  refine R_ev (by decide) (Nat.le_of_ble_eq_true rfl) (em := gx_eI) (T := f_X4_kindOfLine p1 μ) ?_ hr
  show GoR E l Y_X4_kindOfLine 5 gx_eI 0 (gx_el [.ref (E.2.2.1 + 42), .int p1]) [] μ (f_X4_kindOfLine p1 μ)
  unfold f_X4_kindOfLine
  refine R_s (gs_RX4_139 hE rfl dX4_kindOfLine_0) ?_
  refine R_s (s_iload_n dX4_kindOfLine_3 rfl rfl) ?_
  refine R_ck (fun h1 => ?_)
  refine R_s (s_fkald hE dX4_kindOfLine_4 (gx_ixv h1)) ?_
  refine R_letI (fun x2 => ?_)
  refine R_s (s_istore_n dX4_kindOfLine_5 rfl (Nat.le_of_ble_eq_true rfl)) ?_
  refine R_wk (okL_X4_kindOfLine_6 hE ?_ 4000 x2) (le_s rfl (le_s rfl (le_s rfl le_n)))
  refine R_s (s_iconst dX4_kindOfLine_39 kci_m1) ?_
  exact R_r (r := (-1)) (f_int (ty := .int) dX4_kindOfLine_40 rfl rfl)

def f_X11_till (p1 : Int32) (p2 : Int32) (μ : gx_M) : Option (Int32 × gx_M) := gx_br (f_X11_hasStreet p1 μ) (fun (r1 : Bool) => if r1 = true then gx_br (f_X11_hasYear p2 μ) (fun (r3 : Bool) => if r3 = true then gx_ck (gx_ix p2 2 = true) (gx_lt (16 + 16 * p2.toNatClampNeg) (fun (o6 : Nat) => gx_ck (gx_ix p1 2 = true) (gx_lt (8 + 16 * p1.toNatClampNeg) (fun (o8 : Nat) => gx_bd (f_X3_live o8 o6 40 (μ.1 o6 3) μ) (fun (r9 : Int32) (μ10 : gx_M) => some (r9, μ10)))))) else some ((-1), μ)) else some ((-1), μ))
theorem ev_X11_till {E : gx_E} {l : Launch} (p1 : Int32) (p2 : Int32) (μ : gx_M) {r : Int32} {μ' : gx_M} (hr : f_X11_till p1 p2 μ = some (r, μ')) : gEv E l 5 Y_X11_till [.ref (E.2.2.1 + 0), .int p1, .int p2] gx_G1 μ (gx_eI r) gx_G1 μ' := by
  refine W_ev (by decide) (Nat.le_of_ble_eq_true rfl) (em := gx_eI) (T := f_X11_till p1 p2 μ) ?_ hr
  show GoW E l Y_X11_till 5 gx_eI 0 (gx_el [.ref (E.2.2.1 + 0), .int p1, .int p2]) [] μ (f_X11_till p1 p2 μ)
  unfold f_X11_till
  refine W_s (s_aload_n dX11_till_0 rfl rfl) ?_
  refine W_s (s_iload_n dX11_till_1 rfl rfl) ?_
  refine W_br (ec := gx_eB) (fun r_ hr_ => s_callV (As := [.int _]) dX11_till_2 Lk_RX11_105 rfl g_0 (by decide) rfl (Nat.le_of_ble_eq_true rfl) (Nat.le_of_ble_eq_true rfl) (ev_X11_hasStreet p1 μ hr_)) (fun r1 => ?_)
  refine W_ite (fun h2 => ?_) (fun h2 => ?_)
  · refine W_s (s_if_eq_f dX11_till_5 rfl (gx_bt h2)) ?_
    refine W_s (s_aload_n dX11_till_8 rfl rfl) ?_
    refine W_s (s_iload_n dX11_till_9 rfl rfl) ?_
    refine W_br (ec := gx_eB) (fun r_ hr_ => s_callV (As := [.int _]) dX11_till_10 Lk_RX11_161 rfl g_0 (by decide) rfl (Nat.le_of_ble_eq_true rfl) (Nat.le_of_ble_eq_true rfl) (ev_X11_hasYear p2 μ hr_)) (fun r3 => ?_)
    refine W_ite (fun h4 => ?_) (fun h4 => ?_)
    · refine W_s (s_if_ne_t dX11_till_13 rfl (gx_bt h4)) ?_
      refine W_s (s_aload_n dX11_till_18 rfl rfl) ?_
      refine W_s (gf_RX11_12 rfl dX11_till_19) ?_
      refine W_s (gf_RX11_164 rfl dX11_till_22) ?_
      refine W_s (s_iload_n dX11_till_25 rfl rfl) ?_
      refine W_ck (fun h5 => ?_)
      refine W_s (aq_4 dX11_till_26 (gx_ixv h5)) ?_
      refine W_letA (C := fun x => gx_Ln x 40) (aqh_4 (gx_ixv h5)) (fun o6 ho6 => ?_)
      refine W_s (s_astore_n dX11_till_27 rfl (Nat.le_of_ble_eq_true rfl)) ?_
      refine W_s (s_aload_n dX11_till_28 rfl rfl) ?_
      refine W_s (gf_RX11_34 rfl dX11_till_29) ?_
      refine W_s (s_aload_n dX11_till_32 rfl rfl) ?_
      refine W_s (gf_RX11_12 rfl dX11_till_33) ?_
      refine W_s (gf_RX11_109 rfl dX11_till_36) ?_
      refine W_s (s_iload_n dX11_till_39 rfl rfl) ?_
      refine W_ck (fun h7 => ?_)
      refine W_s (aq_3 dX11_till_40 (gx_ixv h7)) ?_
      refine W_letA (C := fun x => gx_St x) (aqh_3 (gx_ixv h7)) (fun o8 ho8 => ?_)
      refine W_s (s_aload_n dX11_till_41 rfl rfl) ?_
      refine W_s (s_aload_n dX11_till_42 rfl rfl) ?_
      refine W_s (gfm_RX11_168 ho6 rfl dX11_till_43) ?_
      refine W_bd (ec := gx_eI) (fun r_ μ_ hr_ => s_callV (As := [.ref _, .ref _, .int _]) dX11_till_46 Lk_RX11_178 rfl g_62 (by decide) rfl (Nat.le_of_ble_eq_true rfl) (Nat.le_of_ble_eq_true rfl) (ev_X3_live o8 o6 40 (μ.1 o6 3) ho8 ho6 μ hr_)) (fun r9 μ10 => ?_)
      exact W_r (r := r9) (f_int (ty := .int) dX11_till_49 rfl rfl)
    · refine W_s (s_if_ne_f dX11_till_13 rfl (gx_bf h4)) ?_
      refine W_s (s_iconst dX11_till_16 kci_m1) ?_
      exact W_r (r := (-1)) (f_int (ty := .int) dX11_till_17 rfl rfl)
  · refine W_s (s_if_eq_t dX11_till_5 rfl (gx_bf h2)) ?_
    refine W_s (s_iconst dX11_till_16 kci_m1) ?_
    exact W_r (r := (-1)) (f_int (ty := .int) dX11_till_17 rfl rfl)

def f_X11_state (p1 : Int32) (p2 : Int32) (p3 : Int32) (p4 : Int32) (μ : gx_M) : Option (Int32 × gx_M) := gx_br (f_X11_hasStreet p1 μ) (fun (r1 : Bool) => if r1 = true then gx_br (f_X11_hasYear p2 μ) (fun (r3 : Bool) => if r3 = true then gx_ck (gx_ix p2 2 = true) (gx_lt (16 + 16 * p2.toNatClampNeg) (fun (o6 : Nat) => if p3 < 0 then some ((-2), μ) else if (μ.1 o6 3) < p3 then some ((-2), μ) else gx_ck (gx_ix p1 2 = true) (gx_lt (8 + 16 * p1.toNatClampNeg) (fun (o10 : Nat) => gx_bd (f_X3_live o10 o6 40 p3 μ) (fun (r11 : Int32) (μ12 : gx_M) => if p3 ≤ r11 then gx_br (f_X3_answer p4 μ12) (fun (r14 : Int32) => some (r14, μ12)) else some ((-2), μ12)))))) else some ((-2), μ)) else some ((-2), μ))
theorem ev_X11_state {E : gx_E} {l : Launch} {fk : Nat} {uq : Option Nat} {adK adV : Nat → Nat} (hE : gx_EX E fk uq adK adV) (p1 : Int32) (p2 : Int32) (p3 : Int32) (p4 : Int32) (μ : gx_M) {r : Int32} {μ' : gx_M} (hr : f_X11_state p1 p2 p3 p4 μ = some (r, μ')) : gEv E l 5 Y_X11_state [.ref (E.2.2.1 + 0), .int p1, .int p2, .int p3, .int p4] gx_G1 μ (gx_eI r) gx_G1 μ' := by
  refine W_ev (by decide) (Nat.le_of_ble_eq_true rfl) (em := gx_eI) (T := f_X11_state p1 p2 p3 p4 μ) ?_ hr
  show GoW E l Y_X11_state 5 gx_eI 0 (gx_el [.ref (E.2.2.1 + 0), .int p1, .int p2, .int p3, .int p4]) [] μ (f_X11_state p1 p2 p3 p4 μ)
  unfold f_X11_state
  refine W_s (s_aload_n dX11_state_0 rfl rfl) ?_
  refine W_s (s_iload_n dX11_state_1 rfl rfl) ?_
  refine W_br (ec := gx_eB) (fun r_ hr_ => s_callV (As := [.int _]) dX11_state_2 Lk_RX11_105 rfl g_0 (by decide) rfl (Nat.le_of_ble_eq_true rfl) (Nat.le_of_ble_eq_true rfl) (ev_X11_hasStreet p1 μ hr_)) (fun r1 => ?_)
  refine W_ite (fun h2 => ?_) (fun h2 => ?_)
  · refine W_s (s_if_eq_f dX11_state_5 rfl (gx_bt h2)) ?_
    refine W_s (s_aload_n dX11_state_8 rfl rfl) ?_
    refine W_s (s_iload_n dX11_state_9 rfl rfl) ?_
    refine W_br (ec := gx_eB) (fun r_ hr_ => s_callV (As := [.int _]) dX11_state_10 Lk_RX11_161 rfl g_0 (by decide) rfl (Nat.le_of_ble_eq_true rfl) (Nat.le_of_ble_eq_true rfl) (ev_X11_hasYear p2 μ hr_)) (fun r3 => ?_)
    refine W_ite (fun h4 => ?_) (fun h4 => ?_)
    · refine W_s (s_if_ne_t dX11_state_13 rfl (gx_bt h4)) ?_
      refine W_s (s_aload_n dX11_state_19 rfl rfl) ?_
      refine W_s (gf_RX11_12 rfl dX11_state_20) ?_
      refine W_s (gf_RX11_164 rfl dX11_state_23) ?_
      refine W_s (s_iload_n dX11_state_26 rfl rfl) ?_
      refine W_ck (fun h5 => ?_)
      refine W_s (aq_4 dX11_state_27 (gx_ixv h5)) ?_
      refine W_letA (C := fun x => gx_Ln x 40) (aqh_4 (gx_ixv h5)) (fun o6 ho6 => ?_)
      refine W_s (s_astore dX11_state_28 (Nat.le_of_ble_eq_true rfl)) ?_
      refine W_s (s_iload_n dX11_state_30 rfl rfl) ?_
      refine W_ite (fun h7 => ?_) (fun h7 => ?_)
      · refine W_s (s_if_lt_t dX11_state_31 rfl h7) ?_
        refine W_s (s_bipush dX11_state_66 kcb_m2) ?_
        exact W_r (r := (-2)) (f_int (ty := .int) dX11_state_68 rfl rfl)
      · refine W_s (s_if_lt_f dX11_state_31 rfl h7) ?_
        refine W_s (s_iload_n dX11_state_34 rfl rfl) ?_
        refine W_s (s_aload dX11_state_35 rfl) ?_
        refine W_s (gfm_RX11_168 ho6 rfl dX11_state_37) ?_
        refine W_ite (fun h8 => ?_) (fun h8 => ?_)
        · refine W_s (s_icmp_gt_t dX11_state_40 rfl h8) ?_
          refine W_s (s_bipush dX11_state_66 kcb_m2) ?_
          exact W_r (r := (-2)) (f_int (ty := .int) dX11_state_68 rfl rfl)
        · refine W_s (s_icmp_gt_f dX11_state_40 rfl h8) ?_
          refine W_s (s_aload_n dX11_state_43 rfl rfl) ?_
          refine W_s (gf_RX11_34 rfl dX11_state_44) ?_
          refine W_s (s_aload_n dX11_state_47 rfl rfl) ?_
          refine W_s (gf_RX11_12 rfl dX11_state_48) ?_
          refine W_s (gf_RX11_109 rfl dX11_state_51) ?_
          refine W_s (s_iload_n dX11_state_54 rfl rfl) ?_
          refine W_ck (fun h9 => ?_)
          refine W_s (aq_3 dX11_state_55 (gx_ixv h9)) ?_
          refine W_letA (C := fun x => gx_St x) (aqh_3 (gx_ixv h9)) (fun o10 ho10 => ?_)
          refine W_s (s_aload dX11_state_56 rfl) ?_
          refine W_s (s_iload_n dX11_state_58 rfl rfl) ?_
          refine W_bd (ec := gx_eI) (fun r_ μ_ hr_ => s_callV (As := [.ref _, .ref _, .int _]) dX11_state_59 Lk_RX11_178 rfl g_62 (by decide) rfl (Nat.le_of_ble_eq_true rfl) (Nat.le_of_ble_eq_true rfl) (ev_X3_live o10 o6 40 p3 ho10 ho6 μ hr_)) (fun r11 μ12 => ?_)
          refine W_s (s_iload_n dX11_state_62 rfl rfl) ?_
          refine W_ite (fun h13 => ?_) (fun h13 => ?_)
          · refine W_s (s_icmp_ge_t dX11_state_63 rfl h13) ?_
            refine W_s (s_aload_n dX11_state_69 rfl rfl) ?_
            refine W_s (gf_RX11_34 rfl dX11_state_70) ?_
            refine W_s (s_iload dX11_state_73 rfl) ?_
            refine W_br (ec := gx_eI) (fun r_ hr_ => s_callV (As := [.int _]) dX11_state_75 Lk_RX11_182 rfl g_62 (by decide) rfl (Nat.le_of_ble_eq_true rfl) (Nat.le_of_ble_eq_true rfl) (ev_X3_answer hE p4 μ12 hr_)) (fun r14 => ?_)
            exact W_r (r := r14) (f_int (ty := .int) dX11_state_78 rfl rfl)
          · refine W_s (s_icmp_ge_f dX11_state_63 rfl h13) ?_
            refine W_s (s_bipush dX11_state_66 kcb_m2) ?_
            exact W_r (r := (-2)) (f_int (ty := .int) dX11_state_68 rfl rfl)
    · refine W_s (s_if_ne_f dX11_state_13 rfl (gx_bf h4)) ?_
      refine W_s (s_bipush dX11_state_16 kcb_m2) ?_
      exact W_r (r := (-2)) (f_int (ty := .int) dX11_state_18 rfl rfl)
  · refine W_s (s_if_eq_t dX11_state_5 rfl (gx_bf h2)) ?_
    refine W_s (s_bipush dX11_state_16 kcb_m2) ?_
    exact W_r (r := (-2)) (f_int (ty := .int) dX11_state_18 rfl rfl)

def f_X11_ranked (p1 : Int32) (p2 : Int32) (p3 : Int32) (μ : gx_M) : Option (Int32 × gx_M) := gx_br (f_X11_hasPerson p1 p2 μ) (fun (r1 : Bool) => if r1 = true then gx_ck (gx_ix p1 2 = true) (gx_lt (8 + 16 * p1.toNatClampNeg) (fun (o4 : Nat) => gx_bd (f_X0_weighRuns o4 p2 1099511627775 μ) (fun (r5 : Unit) (μ6 : gx_M) => gx_br (f_X0_atRank o4 p3 μ6) (fun (r7 : Int32) => some (r7, μ6))))) else some ((-1), μ))
theorem ev_X11_ranked {E : gx_E} {l : Launch} (p1 : Int32) (p2 : Int32) (p3 : Int32) (μ : gx_M) {r : Int32} {μ' : gx_M} (hr : f_X11_ranked p1 p2 p3 μ = some (r, μ')) : gEv E l 5 Y_X11_ranked [.ref (E.2.2.1 + 0), .int p1, .int p2, .int p3] gx_G1 μ (gx_eI r) gx_G1 μ' := by
  refine W_ev (by decide) (Nat.le_of_ble_eq_true rfl) (em := gx_eI) (T := f_X11_ranked p1 p2 p3 μ) ?_ hr
  show GoW E l Y_X11_ranked 5 gx_eI 0 (gx_el [.ref (E.2.2.1 + 0), .int p1, .int p2, .int p3]) [] μ (f_X11_ranked p1 p2 p3 μ)
  unfold f_X11_ranked
  refine W_s (s_aload_n dX11_ranked_0 rfl rfl) ?_
  refine W_s (s_iload_n dX11_ranked_1 rfl rfl) ?_
  refine W_s (s_iload_n dX11_ranked_2 rfl rfl) ?_
  refine W_br (ec := gx_eB) (fun r_ hr_ => s_callV (As := [.int _, .int _]) dX11_ranked_3 Lk_RX11_118 rfl g_0 (by decide) rfl (Nat.le_of_ble_eq_true rfl) (Nat.le_of_ble_eq_true rfl) (ev_X11_hasPerson p1 p2 μ hr_)) (fun r1 => ?_)
  refine W_ite (fun h2 => ?_) (fun h2 => ?_)
  · refine W_s (s_if_ne_t dX11_ranked_6 rfl (gx_bt h2)) ?_
    refine W_s (s_aload_n dX11_ranked_11 rfl rfl) ?_
    refine W_s (gf_RX11_12 rfl dX11_ranked_12) ?_
    refine W_s (gf_RX11_109 rfl dX11_ranked_15) ?_
    refine W_s (s_iload_n dX11_ranked_18 rfl rfl) ?_
    refine W_ck (fun h3 => ?_)
    refine W_s (aq_3 dX11_ranked_19 (gx_ixv h3)) ?_
    refine W_letA (C := fun x => gx_St x) (aqh_3 (gx_ixv h3)) (fun o4 ho4 => ?_)
    refine W_s (s_astore dX11_ranked_20 (Nat.le_of_ble_eq_true rfl)) ?_
    refine W_s (s_aload_n dX11_ranked_22 rfl rfl) ?_
    refine W_s (gf_RX11_41 rfl dX11_ranked_23) ?_
    refine W_s (s_aload dX11_ranked_26 rfl) ?_
    refine W_s (s_iload_n dX11_ranked_28 rfl rfl) ?_
    refine W_s (s_ldc2 dX11_ranked_29 kw_RX11_212) ?_
    refine W_bd (ec := gx_eV) (fun r_ μ_ hr_ => s_callV (As := [.ref _, .int _, .long _]) dX11_ranked_32 Lk_RX11_214 rfl g_75 (by decide) rfl (Nat.le_of_ble_eq_true rfl) (Nat.le_of_ble_eq_true rfl) (ev_X0_weighRuns o4 p2 1099511627775 ho4 μ hr_)) (fun r5 μ6 => ?_)
    refine W_s (s_aload_n dX11_ranked_35 rfl rfl) ?_
    refine W_s (gf_RX11_41 rfl dX11_ranked_36) ?_
    refine W_s (s_aload dX11_ranked_39 rfl) ?_
    refine W_s (s_iload_n dX11_ranked_41 rfl rfl) ?_
    refine W_br (ec := gx_eI) (fun r_ hr_ => s_callV (As := [.ref _, .int _]) dX11_ranked_42 Lk_RX11_268 rfl g_75 (by decide) rfl (Nat.le_of_ble_eq_true rfl) (Nat.le_of_ble_eq_true rfl) (ev_X0_atRank o4 p3 ho4 μ6 hr_)) (fun r7 => ?_)
    exact W_r (r := r7) (f_int (ty := .int) dX11_ranked_45 rfl rfl)
  · refine W_s (s_if_ne_f dX11_ranked_6 rfl (gx_bf h2)) ?_
    refine W_s (s_iconst dX11_ranked_9 kci_m1) ?_
    exact W_r (r := (-1)) (f_int (ty := .int) dX11_ranked_10 rfl rfl)

def L_X4_readLine_48 (r4 : Int32) (k10 : gx_M → Option (Bool × gx_M)) : Nat → Int32 → gx_M → Option (Bool × gx_M)
  | 0, _, _ => none
  | n + 1, v4_8, μ9 => if (f_J0_length_8abf5 (f_X4_shapeOf r4)) ≤ v4_8 then k10 μ9 else gx_bd (f_X8_advance μ9) (fun (r12 : Unit) (μ13 : gx_M) => if (μ13.1 43 3) = 2 then gx_br (f_J0_charAt_5068e (f_X4_shapeOf r4) v4_8 μ13) (fun (r15 : Int32) => gx_bd (f_X4_takeNumber (gx_nc r15) v4_8 μ13) (fun (r16 : Unit) (μ17 : gx_M) => L_X4_readLine_48 r4 k10 n (v4_8 + 1) μ17)) else gx_bd (f_X4_stopReading μ13) (fun (r18 : Bool) (μ19 : gx_M) => some (r18, μ19)))
def f_X4_readLine (p1 : Int32) (μ : gx_M) : Option (Bool × gx_M) := gx_bd (f_X8_advance μ) (fun (r1 : Unit) (μ2 : gx_M) => if (μ2.1 43 3) = 0 then some (false, μ2) else gx_br (f_X4_kindOfLine p1 μ2) (fun (r4 : Int32) => if 0 ≤ r4 then gx_bd (f_X4_countFurther p1 r4 μ2) (fun (r6 : Unit) (μ7 : gx_M) => L_X4_readLine_48 r4 (fun (μ21 : gx_M) => gx_bd (f_X8_advance μ21) (fun (r22 : Unit) (μ23 : gx_M) => if (μ23.1 43 3) = 3 then if (μ23.1 42 6) = 0 then gx_bd (f_X4_tellLine p1 r4 μ23) (fun (r26 : Unit) (μ27 : gx_M) => some (true, μ27)) else some (true, μ23) else gx_bd (f_X4_stopReading μ23) (fun (r28 : Bool) (μ29 : gx_M) => some (r28, μ29)))) 4000 0 μ7) else gx_bd (f_X4_stopReading μ2) (fun (r30 : Bool) (μ31 : gx_M) => some (r30, μ31))))
theorem okL_X4_readLine_48 {E : gx_E} {l : Launch} {fk : Nat} {uq : Option Nat} {adK adV : Nat → Nat} (hE : gx_EX E fk uq adK adV) {r4 : Int32} {p1 : Int32} {k10 : gx_M → Option (Bool × gx_M)} (hk : ∀ (μ20 : gx_M), GoW E l Y_X4_readLine 6 gx_eB 98 [some (.ref (E.2.2.1 + 42)), some (.int p1), some (.int r4)] [] μ20 (k10 μ20)) : ∀ (n : Nat) (v4_8 : Int32) (μ9 : gx_M), GoW E l Y_X4_readLine 6 gx_eB 48 [some (.ref (E.2.2.1 + 42)), some (.int p1), some (.int r4), some (.ref (adK (f_X4_shapeOf r4))), some (.int v4_8)] [] μ9 (L_X4_readLine_48 r4 k10 n v4_8 μ9) := by
  intro n
  induction n with
  | zero => intros; exact W_no
  | succ n ih =>
    intro v4_8 μ9
    rw [L_X4_readLine_48.eq_2]
    refine W_s (s_iload dX4_readLine_48 rfl) ?_
    refine W_s (s_aload_n dX4_readLine_50 rfl rfl) ?_
    refine W_s (s_callStr hE (X4_shapeOf_lt r4) (As := []) dX4_readLine_51 Lk_RX4_123 rfl rfl (Nat.le_of_ble_eq_true rfl) (Nat.le_of_ble_eq_true rfl) (ev_J0_length_8abf5 hE (f_X4_shapeOf r4) (X4_shapeOf_lt r4) μ9)) ?_
    refine W_ite (fun h11 => ?_) (fun h11 => ?_)
    · refine W_s (s_icmp_ge_t dX4_readLine_54 rfl h11) ?_
      exact W_wk (hk μ9) (le_s rfl (le_s rfl (le_s rfl le_n)))
    · refine W_s (s_icmp_ge_f dX4_readLine_54 rfl h11) ?_
      refine W_s (s_aload_n dX4_readLine_57 rfl rfl) ?_
      refine W_s (gf_RX4_12 rfl dX4_readLine_58) ?_
      refine W_bd (ec := gx_eV) (fun r_ μ_ hr_ => s_callV (As := []) dX4_readLine_61 Lk_RX4_102 rfl g_43 (by decide) rfl (Nat.le_of_ble_eq_true rfl) (Nat.le_of_ble_eq_true rfl) (ev_X8_advance μ9 hr_)) (fun r12 μ13 => ?_)
      refine W_s (s_aload_n dX4_readLine_64 rfl rfl) ?_
      refine W_s (gf_RX4_12 rfl dX4_readLine_65) ?_
      refine W_s (gf_RX4_105 rfl dX4_readLine_68) ?_
      refine W_s (s_iconst dX4_readLine_71 kci_2) ?_
      refine W_ite (fun h14 => ?_) (fun h14 => ?_)
      · refine W_s (s_icmp_eq_t dX4_readLine_72 rfl h14) ?_
        refine W_s (s_aload_n dX4_readLine_80 rfl rfl) ?_
        refine W_s (s_aload_n dX4_readLine_81 rfl rfl) ?_
        refine W_s (s_iload dX4_readLine_82 rfl) ?_
        refine W_br (ec := gx_eC) (fun r_ hr_ => s_callStr hE (X4_shapeOf_lt r4) (As := [.int _]) dX4_readLine_84 Lk_RX4_128 rfl rfl (Nat.le_of_ble_eq_true rfl) (Nat.le_of_ble_eq_true rfl) (ev_J0_charAt_5068e hE (f_X4_shapeOf r4) v4_8 (X4_shapeOf_lt r4) μ13 hr_)) (fun r15 => ?_)
        refine W_s (s_iload dX4_readLine_87 rfl) ?_
        refine W_bd (ec := gx_eV) (fun r_ μ_ hr_ => s_callV (As := [.int _, .int _]) dX4_readLine_89 Lk_RX4_132 rfl g_42 (by decide) rfl (Nat.le_of_ble_eq_true rfl) (Nat.le_of_ble_eq_true rfl) (ev_X4_takeNumber (gx_nc r15) v4_8 μ13 hr_)) (fun r16 μ17 => ?_)
        refine W_s (s_iinc dX4_readLine_92 rfl (kinc_1 v4_8) (Nat.le_of_ble_eq_true rfl)) ?_
        refine W_s (s_goto dX4_readLine_95 rfl) ?_
        exact W_wk (ih (v4_8 + 1) μ17) (le_s rfl (le_s rfl (le_s rfl (le_s rfl (le_s rfl le_n)))))
      · refine W_s (s_icmp_eq_f dX4_readLine_72 rfl h14) ?_
        refine W_s (s_aload_n dX4_readLine_75 rfl rfl) ?_
        refine W_bd (ec := gx_eB) (fun r_ μ_ hr_ => s_callV (As := []) dX4_readLine_76 Lk_RX4_112 rfl g_42 (by decide) rfl (Nat.le_of_ble_eq_true rfl) (Nat.le_of_ble_eq_true rfl) (ev_X4_stopReading μ13 hr_)) (fun r18 μ19 => ?_)
        exact W_r (r := r18) (f_int (ty := .boolean) (x := gx_bi r18) dX4_readLine_79 rfl (gx_bn r18))
theorem ev_X4_readLine {E : gx_E} {l : Launch} {fk : Nat} {uq : Option Nat} {adK adV : Nat → Nat} (hE : gx_EX E fk uq adK adV) (p1 : Int32) (μ : gx_M) {r : Bool} {μ' : gx_M} (hr : f_X4_readLine p1 μ = some (r, μ')) : gEv E l 6 Y_X4_readLine [.ref (E.2.2.1 + 42), .int p1] gx_G1 μ (gx_eB r) gx_G1 μ' := by
  refine W_ev (by decide) (Nat.le_of_ble_eq_true rfl) (em := gx_eB) (T := f_X4_readLine p1 μ) ?_ hr
  show GoW E l Y_X4_readLine 6 gx_eB 0 (gx_el [.ref (E.2.2.1 + 42), .int p1]) [] μ (f_X4_readLine p1 μ)
  unfold f_X4_readLine
  refine W_s (s_aload_n dX4_readLine_0 rfl rfl) ?_
  refine W_s (gf_RX4_12 rfl dX4_readLine_1) ?_
  refine W_bd (ec := gx_eV) (fun r_ μ_ hr_ => s_callV (As := []) dX4_readLine_4 Lk_RX4_102 rfl g_43 (by decide) rfl (Nat.le_of_ble_eq_true rfl) (Nat.le_of_ble_eq_true rfl) (ev_X8_advance μ hr_)) (fun r1 μ2 => ?_)
  refine W_s (s_aload_n dX4_readLine_7 rfl rfl) ?_
  refine W_s (gf_RX4_12 rfl dX4_readLine_8) ?_
  refine W_s (gf_RX4_105 rfl dX4_readLine_11) ?_
  refine W_ite (fun h3 => ?_) (fun h3 => ?_)
  · refine W_s (s_if_ne_f dX4_readLine_14 rfl h3) ?_
    refine W_s (s_iconst dX4_readLine_17 kci_0) ?_
    exact W_r (r := false) (f_int (ty := .boolean) (x := gx_bi false) dX4_readLine_18 rfl (gx_bn false))
  · refine W_s (s_if_ne_t dX4_readLine_14 rfl h3) ?_
    refine W_s (s_aload_n dX4_readLine_19 rfl rfl) ?_
    refine W_s (s_iload_n dX4_readLine_20 rfl rfl) ?_
    refine W_br (ec := gx_eI) (fun r_ hr_ => s_callV (As := [.int _]) dX4_readLine_21 Lk_RX4_108 rfl g_42 (by decide) rfl (Nat.le_of_ble_eq_true rfl) (Nat.le_of_ble_eq_true rfl) (ev_X4_kindOfLine hE p1 μ2 hr_)) (fun r4 => ?_)
    refine W_s (s_istore_n dX4_readLine_24 rfl (Nat.le_of_ble_eq_true rfl)) ?_
    refine W_s (s_iload_n dX4_readLine_25 rfl rfl) ?_
    refine W_ite (fun h5 => ?_) (fun h5 => ?_)
    · refine W_s (s_if_ge_t dX4_readLine_26 rfl h5) ?_
      refine W_s (s_aload_n dX4_readLine_34 rfl rfl) ?_
      refine W_s (s_iload_n dX4_readLine_35 rfl rfl) ?_
      refine W_s (s_iload_n dX4_readLine_36 rfl rfl) ?_
      refine W_bd (ec := gx_eV) (fun r_ μ_ hr_ => s_callV (As := [.int _, .int _]) dX4_readLine_37 Lk_RX4_116 rfl g_42 (by decide) rfl (Nat.le_of_ble_eq_true rfl) (Nat.le_of_ble_eq_true rfl) (ev_X4_countFurther p1 r4 μ2 hr_)) (fun r6 μ7 => ?_)
      refine W_s (s_iload_n dX4_readLine_40 rfl rfl) ?_
      refine W_s (s_callS (As := [.int _]) dX4_readLine_41 Lk_RX4_119 rfl (Nat.le_of_ble_eq_true rfl) (Nat.le_of_ble_eq_true rfl) (ev_X4_shapeOf hE r4 μ7)) ?_
      refine W_s (s_astore_n dX4_readLine_44 rfl (Nat.le_of_ble_eq_true rfl)) ?_
      refine W_s (s_iconst dX4_readLine_45 kci_0) ?_
      refine W_s (s_istore dX4_readLine_46 (Nat.le_of_ble_eq_true rfl)) ?_
      refine W_wk (okL_X4_readLine_48 hE ?_ 4000 0 μ7) (le_s rfl (le_s rfl (le_s rfl (le_s rfl (le_s rfl le_n)))))
      intro μ21
      refine W_s (s_aload_n dX4_readLine_98 rfl rfl) ?_
      refine W_s (gf_RX4_12 rfl dX4_readLine_99) ?_
      refine W_bd (ec := gx_eV) (fun r_ μ_ hr_ => s_callV (As := []) dX4_readLine_102 Lk_RX4_102 rfl g_43 (by decide) rfl (Nat.le_of_ble_eq_true rfl) (Nat.le_of_ble_eq_true rfl) (ev_X8_advance μ21 hr_)) (fun r22 μ23 => ?_)
      refine W_s (s_aload_n dX4_readLine_105 rfl rfl) ?_
      refine W_s (gf_RX4_12 rfl dX4_readLine_106) ?_
      refine W_s (gf_RX4_105 rfl dX4_readLine_109) ?_
      refine W_s (s_iconst dX4_readLine_112 kci_3) ?_
      refine W_ite (fun h24 => ?_) (fun h24 => ?_)
      · refine W_s (s_icmp_eq_t dX4_readLine_113 rfl h24) ?_
        refine W_s (s_aload_n dX4_readLine_121 rfl rfl) ?_
        refine W_s (gf_RX4_59 rfl dX4_readLine_122) ?_
        refine W_ite (fun h25 => ?_) (fun h25 => ?_)
        · refine W_s (s_if_ne_f dX4_readLine_125 rfl h25) ?_
          refine W_s (s_aload_n dX4_readLine_128 rfl rfl) ?_
          refine W_s (s_iload_n dX4_readLine_129 rfl rfl) ?_
          refine W_s (s_iload_n dX4_readLine_130 rfl rfl) ?_
          refine W_bd (ec := gx_eV) (fun r_ μ_ hr_ => s_callV (As := [.int _, .int _]) dX4_readLine_131 Lk_RX4_136 rfl g_42 (by decide) rfl (Nat.le_of_ble_eq_true rfl) (Nat.le_of_ble_eq_true rfl) (ev_X4_tellLine hE p1 r4 μ23 hr_)) (fun r26 μ27 => ?_)
          refine W_s (s_iconst dX4_readLine_134 kci_1) ?_
          exact W_r (r := true) (f_int (ty := .boolean) (x := gx_bi true) dX4_readLine_135 rfl (gx_bn true))
        · refine W_s (s_if_ne_t dX4_readLine_125 rfl h25) ?_
          refine W_s (s_iconst dX4_readLine_134 kci_1) ?_
          exact W_r (r := true) (f_int (ty := .boolean) (x := gx_bi true) dX4_readLine_135 rfl (gx_bn true))
      · refine W_s (s_icmp_eq_f dX4_readLine_113 rfl h24) ?_
        refine W_s (s_aload_n dX4_readLine_116 rfl rfl) ?_
        refine W_bd (ec := gx_eB) (fun r_ μ_ hr_ => s_callV (As := []) dX4_readLine_117 Lk_RX4_112 rfl g_42 (by decide) rfl (Nat.le_of_ble_eq_true rfl) (Nat.le_of_ble_eq_true rfl) (ev_X4_stopReading μ23 hr_)) (fun r28 μ29 => ?_)
        exact W_r (r := r28) (f_int (ty := .boolean) (x := gx_bi r28) dX4_readLine_120 rfl (gx_bn r28))
    · refine W_s (s_if_ge_f dX4_readLine_26 rfl h5) ?_
      refine W_s (s_aload_n dX4_readLine_29 rfl rfl) ?_
      refine W_bd (ec := gx_eB) (fun r_ μ_ hr_ => s_callV (As := []) dX4_readLine_30 Lk_RX4_112 rfl g_42 (by decide) rfl (Nat.le_of_ble_eq_true rfl) (Nat.le_of_ble_eq_true rfl) (ev_X4_stopReading μ2 hr_)) (fun r30 μ31 => ?_)
      exact W_r (r := r30) (f_int (ty := .boolean) (x := gx_bi r30) dX4_readLine_33 rfl (gx_bn r30))

def f_X11_after (p1 : Int32) (p2 : Int32) (p3 : Int32) (μ : gx_M) : Option (Int32 × gx_M) := gx_bd (f_X11_till p1 p2 μ) (fun (r1 : Int32) (μ2 : gx_M) => if r1 = (-1) then some ((-2), μ2) else if p3 = 0 then some ((μ2.1 62 5), μ2) else if p3 = 1 then gx_br (f_X3_richest μ2) (fun (r6 : Int32) => some (r6, μ2)) else if p3 = 2 then gx_br (f_X3_victim μ2) (fun (r8 : Int32) => some (r8, μ2)) else if p3 = 3 then gx_br (f_X3_restless μ2) (fun (r10 : Int32) => some (r10, μ2)) else if p3 = 4 then gx_br (f_X3_restless μ2) (fun (r12 : Int32) => gx_br (f_X3_timesMoved r12 μ2) (fun (r13 : Int32) => some (r13, μ2))) else some ((-2), μ2))
theorem ev_X11_after {E : gx_E} {l : Launch} (p1 : Int32) (p2 : Int32) (p3 : Int32) (μ : gx_M) {r : Int32} {μ' : gx_M} (hr : f_X11_after p1 p2 p3 μ = some (r, μ')) : gEv E l 6 Y_X11_after [.ref (E.2.2.1 + 0), .int p1, .int p2, .int p3] gx_G1 μ (gx_eI r) gx_G1 μ' := by
  refine W_ev (by decide) (Nat.le_of_ble_eq_true rfl) (em := gx_eI) (T := f_X11_after p1 p2 p3 μ) ?_ hr
  show GoW E l Y_X11_after 6 gx_eI 0 (gx_el [.ref (E.2.2.1 + 0), .int p1, .int p2, .int p3]) [] μ (f_X11_after p1 p2 p3 μ)
  unfold f_X11_after
  refine W_s (s_aload_n dX11_after_0 rfl rfl) ?_
  refine W_s (s_iload_n dX11_after_1 rfl rfl) ?_
  refine W_s (s_iload_n dX11_after_2 rfl rfl) ?_
  refine W_bd (ec := gx_eI) (fun r_ μ_ hr_ => s_callV (As := [.int _, .int _]) dX11_after_3 Lk_RX11_186 rfl g_0 (by decide) rfl (Nat.le_of_ble_eq_true rfl) (Nat.le_of_ble_eq_true rfl) (ev_X11_till p1 p2 μ hr_)) (fun r1 μ2 => ?_)
  refine W_s (s_iconst dX11_after_6 kci_m1) ?_
  refine W_ite (fun h3 => ?_) (fun h3 => ?_)
  · refine W_s (s_icmp_ne_f dX11_after_7 rfl h3) ?_
    refine W_s (s_bipush dX11_after_10 kcb_m2) ?_
    exact W_r (r := (-2)) (f_int (ty := .int) dX11_after_12 rfl rfl)
  · refine W_s (s_icmp_ne_t dX11_after_7 rfl h3) ?_
    refine W_s (s_iload_n dX11_after_13 rfl rfl) ?_
    refine W_ite (fun h4 => ?_) (fun h4 => ?_)
    · refine W_s (s_tsw_eq (c := 0) dX11_after_14 h4 (by decide) (by decide) rfl rfl) ?_
      refine W_s (s_aload_n dX11_after_48 rfl rfl) ?_
      refine W_s (gf_RX11_34 rfl dX11_after_49) ?_
      refine W_s (gf_RX11_189 rfl dX11_after_52) ?_
      exact W_r (r := (μ2.1 62 5)) (f_int (ty := .int) dX11_after_55 rfl rfl)
    · skip
      refine W_ite (fun h5 => ?_) (fun h5 => ?_)
      · refine W_s (s_tsw_eq (c := 1) dX11_after_14 h5 (by decide) (by decide) rfl rfl) ?_
        refine W_s (s_aload_n dX11_after_56 rfl rfl) ?_
        refine W_s (gf_RX11_34 rfl dX11_after_57) ?_
        refine W_br (ec := gx_eI) (fun r_ hr_ => s_callV (As := []) dX11_after_60 Lk_RX11_192 rfl g_62 (by decide) rfl (Nat.le_of_ble_eq_true rfl) (Nat.le_of_ble_eq_true rfl) (ev_X3_richest μ2 hr_)) (fun r6 => ?_)
        exact W_r (r := r6) (f_int (ty := .int) dX11_after_63 rfl rfl)
      · skip
        refine W_ite (fun h7 => ?_) (fun h7 => ?_)
        · refine W_s (s_tsw_eq (c := 2) dX11_after_14 h7 (by decide) (by decide) rfl rfl) ?_
          refine W_s (s_aload_n dX11_after_64 rfl rfl) ?_
          refine W_s (gf_RX11_34 rfl dX11_after_65) ?_
          refine W_br (ec := gx_eI) (fun r_ hr_ => s_callV (As := []) dX11_after_68 Lk_RX11_196 rfl g_62 (by decide) rfl (Nat.le_of_ble_eq_true rfl) (Nat.le_of_ble_eq_true rfl) (ev_X3_victim μ2 hr_)) (fun r8 => ?_)
          exact W_r (r := r8) (f_int (ty := .int) dX11_after_71 rfl rfl)
        · skip
          refine W_ite (fun h9 => ?_) (fun h9 => ?_)
          · refine W_s (s_tsw_eq (c := 3) dX11_after_14 h9 (by decide) (by decide) rfl rfl) ?_
            refine W_s (s_aload_n dX11_after_72 rfl rfl) ?_
            refine W_s (gf_RX11_34 rfl dX11_after_73) ?_
            refine W_br (ec := gx_eI) (fun r_ hr_ => s_callV (As := []) dX11_after_76 Lk_RX11_199 rfl g_62 (by decide) rfl (Nat.le_of_ble_eq_true rfl) (Nat.le_of_ble_eq_true rfl) (ev_X3_restless μ2 hr_)) (fun r10 => ?_)
            exact W_r (r := r10) (f_int (ty := .int) dX11_after_79 rfl rfl)
          · skip
            refine W_ite (fun h11 => ?_) (fun h11 => ?_)
            · refine W_s (s_tsw_eq (c := 4) dX11_after_14 h11 (by decide) (by decide) rfl rfl) ?_
              refine W_s (s_aload_n dX11_after_80 rfl rfl) ?_
              refine W_s (gf_RX11_34 rfl dX11_after_81) ?_
              refine W_s (s_aload_n dX11_after_84 rfl rfl) ?_
              refine W_s (gf_RX11_34 rfl dX11_after_85) ?_
              refine W_br (ec := gx_eI) (fun r_ hr_ => s_callV (As := []) dX11_after_88 Lk_RX11_199 rfl g_62 (by decide) rfl (Nat.le_of_ble_eq_true rfl) (Nat.le_of_ble_eq_true rfl) (ev_X3_restless μ2 hr_)) (fun r12 => ?_)
              refine W_br (ec := gx_eI) (fun r_ hr_ => s_callV (As := [.int _]) dX11_after_91 Lk_RX11_202 rfl g_62 (by decide) rfl (Nat.le_of_ble_eq_true rfl) (Nat.le_of_ble_eq_true rfl) (ev_X3_timesMoved r12 μ2 hr_)) (fun r13 => ?_)
              exact W_r (r := r13) (f_int (ty := .int) dX11_after_94 rfl rfl)
            · skip
              refine W_s (s_tsw_out dX11_after_14 (gx_out_0_5 h4 h5 h7 h9 h11) rfl) ?_
              refine W_s (s_bipush dX11_after_95 kcb_m2) ?_
              exact W_r (r := (-2)) (f_int (ty := .int) dX11_after_97 rfl rfl)

def f_X11_drawn (p1 : Int32) (p2 : Int32) (p3 : Int32) (p4 : Int32) (μ : gx_M) : Option (Int32 × gx_M) := gx_br (f_X11_hasStreet p1 μ) (fun (r1 : Bool) => if r1 = true then if p3 < 0 then some ((-2), μ) else if p3 ≤ 60 then gx_ck (gx_ix p1 2 = true) (gx_lt (8 + 16 * p1.toNatClampNeg) (fun (o6 : Nat) => gx_bd (f_X3_drawDeeds o6 p2 p3 μ) (fun (r7 : Unit) (μ8 : gx_M) => gx_br (f_X3_answer p4 μ8) (fun (r9 : Int32) => some (r9, μ8))))) else some ((-2), μ) else some ((-2), μ))
theorem ev_X11_drawn {E : gx_E} {l : Launch} {fk : Nat} {uq : Option Nat} {adK adV : Nat → Nat} (hE : gx_EX E fk uq adK adV) (p1 : Int32) (p2 : Int32) (p3 : Int32) (p4 : Int32) (μ : gx_M) {r : Int32} {μ' : gx_M} (hr : f_X11_drawn p1 p2 p3 p4 μ = some (r, μ')) : gEv E l 6 Y_X11_drawn [.ref (E.2.2.1 + 0), .int p1, .int p2, .int p3, .int p4] gx_G1 μ (gx_eI r) gx_G1 μ' := by
  refine W_ev (by decide) (Nat.le_of_ble_eq_true rfl) (em := gx_eI) (T := f_X11_drawn p1 p2 p3 p4 μ) ?_ hr
  show GoW E l Y_X11_drawn 6 gx_eI 0 (gx_el [.ref (E.2.2.1 + 0), .int p1, .int p2, .int p3, .int p4]) [] μ (f_X11_drawn p1 p2 p3 p4 μ)
  unfold f_X11_drawn
  refine W_s (s_aload_n dX11_drawn_0 rfl rfl) ?_
  refine W_s (s_iload_n dX11_drawn_1 rfl rfl) ?_
  refine W_br (ec := gx_eB) (fun r_ hr_ => s_callV (As := [.int _]) dX11_drawn_2 Lk_RX11_105 rfl g_0 (by decide) rfl (Nat.le_of_ble_eq_true rfl) (Nat.le_of_ble_eq_true rfl) (ev_X11_hasStreet p1 μ hr_)) (fun r1 => ?_)
  refine W_ite (fun h2 => ?_) (fun h2 => ?_)
  · refine W_s (s_if_eq_f dX11_drawn_5 rfl (gx_bt h2)) ?_
    refine W_s (s_iload_n dX11_drawn_8 rfl rfl) ?_
    refine W_ite (fun h3 => ?_) (fun h3 => ?_)
    · refine W_s (s_if_lt_t dX11_drawn_9 rfl h3) ?_
      refine W_s (s_bipush dX11_drawn_18 kcb_m2) ?_
      exact W_r (r := (-2)) (f_int (ty := .int) dX11_drawn_20 rfl rfl)
    · refine W_s (s_if_lt_f dX11_drawn_9 rfl h3) ?_
      refine W_s (s_iload_n dX11_drawn_12 rfl rfl) ?_
      refine W_s (s_bipush dX11_drawn_13 kcb_60) ?_
      refine W_ite (fun h4 => ?_) (fun h4 => ?_)
      · refine W_s (s_icmp_le_t dX11_drawn_15 rfl h4) ?_
        refine W_s (s_aload_n dX11_drawn_21 rfl rfl) ?_
        refine W_s (gf_RX11_34 rfl dX11_drawn_22) ?_
        refine W_s (s_aload_n dX11_drawn_25 rfl rfl) ?_
        refine W_s (gf_RX11_12 rfl dX11_drawn_26) ?_
        refine W_s (gf_RX11_109 rfl dX11_drawn_29) ?_
        refine W_s (s_iload_n dX11_drawn_32 rfl rfl) ?_
        refine W_ck (fun h5 => ?_)
        refine W_s (aq_3 dX11_drawn_33 (gx_ixv h5)) ?_
        refine W_letA (C := fun x => gx_St x) (aqh_3 (gx_ixv h5)) (fun o6 ho6 => ?_)
        refine W_s (s_iload_n dX11_drawn_34 rfl rfl) ?_
        refine W_s (s_iload_n dX11_drawn_35 rfl rfl) ?_
        refine W_bd (ec := gx_eV) (fun r_ μ_ hr_ => s_callV (As := [.ref _, .int _, .int _]) dX11_drawn_36 Lk_RX11_205 rfl g_62 (by decide) rfl (Nat.le_of_ble_eq_true rfl) (Nat.le_of_ble_eq_true rfl) (ev_X3_drawDeeds o6 p2 p3 ho6 μ hr_)) (fun r7 μ8 => ?_)
        refine W_s (s_aload_n dX11_drawn_39 rfl rfl) ?_
        refine W_s (gf_RX11_34 rfl dX11_drawn_40) ?_
        refine W_s (s_iload dX11_drawn_43 rfl) ?_
        refine W_br (ec := gx_eI) (fun r_ hr_ => s_callV (As := [.int _]) dX11_drawn_45 Lk_RX11_182 rfl g_62 (by decide) rfl (Nat.le_of_ble_eq_true rfl) (Nat.le_of_ble_eq_true rfl) (ev_X3_answer hE p4 μ8 hr_)) (fun r9 => ?_)
        exact W_r (r := r9) (f_int (ty := .int) dX11_drawn_48 rfl rfl)
      · refine W_s (s_icmp_le_f dX11_drawn_15 rfl h4) ?_
        refine W_s (s_bipush dX11_drawn_18 kcb_m2) ?_
        exact W_r (r := (-2)) (f_int (ty := .int) dX11_drawn_20 rfl rfl)
  · refine W_s (s_if_eq_t dX11_drawn_5 rfl (gx_bf h2)) ?_
    refine W_s (s_bipush dX11_drawn_18 kcb_m2) ?_
    exact W_r (r := (-2)) (f_int (ty := .int) dX11_drawn_20 rfl rfl)

def L_X1_pick_50 (r1 : Int32) (p1 : Int32) (fp : Int32 → Int32 → Int32 → gx_M → Option (Bool × gx_M)) (p2 : Int32) (k9 : gx_M → Option (Bool × gx_M)) : Nat → Int32 → gx_M → Option (Bool × gx_M)
  | 0, _, _ => none
  | n + 1, v5_7, μ8 => if r1 < v5_7 then k9 μ8 else gx_ck (gx_ix p1 3 = true) (gx_lt (gx_uI μ8 81 p1.toNatClampNeg v5_7) (fun (μ12 : gx_M) => gx_bd (fp (p1 + 1) p2 v5_7 μ12) (fun (r13 : Bool) (μ14 : gx_M) => if r13 = true then some (true, μ14) else L_X1_pick_50 r1 p1 fp p2 k9 n (v5_7 + 1) μ14)))
def f_X1_pick_b (fp : Int32 → Int32 → Int32 → gx_M → Option (Bool × gx_M)) (p1 : Int32) (p2 : Int32) (p3 : Int32) (μ : gx_M) : Option (Bool × gx_M) := gx_br (f_X1_firstUncovered p3 μ) (fun (r1 : Int32) => if r1 = (-1) then if p1 = p2 then some (true, μ) else some (false, μ) else if p2 ≤ p1 then some (false, μ) else if p1 < 3 then gx_ck (gx_ix r1 40 = true) (gx_lt ((r1 - (μ.1 80 r1.toNatClampNeg)) + 1) (fun (x6 : Int32) => L_X1_pick_50 r1 p1 fp p2 (fun (μ17 : gx_M) => some (false, μ17)) 4000 x6 μ)) else some (false, μ))
def f_X1_pick : Nat → Int32 → Int32 → Int32 → gx_M → Option (Bool × gx_M)
  | 0, _, _, _, _ => none
  | n + 1, p1, p2, p3, μ => f_X1_pick_b (f_X1_pick n) p1 p2 p3 μ
theorem okL_X1_pick_50 {E : gx_E} {l : Launch} {r1 : Int32} {p1 : Int32} {fp : Int32 → Int32 → Int32 → gx_M → Option (Bool × gx_M)} {p2 : Int32} {dd : Nat} (hfp : ∀ (p1 p2 p3 : Int32) (μ : gx_M) {r : Bool} {μ' : gx_M}, fp p1 p2 p3 μ = some (r, μ') → gEv E l dd Y_X1_pick [.ref (E.2.2.1 + 79), .int p1, .int p2, .int p3] gx_G1 μ (gx_eB r) gx_G1 μ') {k9 : gx_M → Option (Bool × gx_M)} (hk : ∀ (μ16 : gx_M), GoW E l Y_X1_pick (dd + 1) gx_eB 86 [] [] μ16 (k9 μ16)) : ∀ (n : Nat) (v5_7 : Int32) (μ8 : gx_M), GoW E l Y_X1_pick (dd + 1) gx_eB 50 [some (.ref (E.2.2.1 + 79)), some (.int p1), some (.int p2), none, some (.int r1), some (.int v5_7)] [] μ8 (L_X1_pick_50 r1 p1 fp p2 k9 n v5_7 μ8) := by
  intro n
  induction n with
  | zero => intros; exact W_no
  | succ n ih =>
    intro v5_7 μ8
    rw [L_X1_pick_50.eq_2]
    refine W_s (s_iload dX1_pick_50 rfl) ?_
    refine W_s (s_iload dX1_pick_52 rfl) ?_
    refine W_ite (fun h10 => ?_) (fun h10 => ?_)
    · refine W_s (s_icmp_gt_t dX1_pick_54 rfl h10) ?_
      exact W_wk (hk μ8) le_n
    · refine W_s (s_icmp_gt_f dX1_pick_54 rfl h10) ?_
      refine W_s (s_aload_n dX1_pick_57 rfl rfl) ?_
      refine W_s (gf_RX1_15 rfl dX1_pick_58) ?_
      refine W_s (s_iload_n dX1_pick_61 rfl rfl) ?_
      refine W_s (s_iload dX1_pick_62 rfl) ?_
      refine W_ck (fun h11 => ?_)
      refine W_s (s_iast dX1_pick_64 g_81 (gx_ixv h11)) ?_
      refine W_letM (fun μ12 => ?_)
      refine W_s (s_aload_n dX1_pick_65 rfl rfl) ?_
      refine W_s (s_iload_n dX1_pick_66 rfl rfl) ?_
      refine W_s (s_iconst dX1_pick_67 kci_1) ?_
      refine W_s (s_iadd dX1_pick_68) ?_
      refine W_s (s_iload_n dX1_pick_69 rfl rfl) ?_
      refine W_s (s_iload dX1_pick_70 rfl) ?_
      refine W_bd (ec := gx_eB) (fun r_ μ_ hr_ => s_callS (As := [.ref _, .int _, .int _, .int _]) dX1_pick_72 Lk_RX1_26 rfl (by omega) (Nat.le_of_ble_eq_true rfl) (hfp (p1 + 1) p2 v5_7 μ12 hr_)) (fun r13 μ14 => ?_)
      refine W_ite (fun h15 => ?_) (fun h15 => ?_)
      · refine W_s (s_if_eq_f dX1_pick_75 rfl (gx_bt h15)) ?_
        refine W_s (s_iconst dX1_pick_78 kci_1) ?_
        exact W_r (r := true) (f_int (ty := .boolean) (x := gx_bi true) dX1_pick_79 rfl (gx_bn true))
      · refine W_s (s_if_eq_t dX1_pick_75 rfl (gx_bf h15)) ?_
        refine W_s (s_iinc dX1_pick_80 rfl (kinc_1 v5_7) (Nat.le_of_ble_eq_true rfl)) ?_
        refine W_s (s_goto dX1_pick_83 rfl) ?_
        exact W_wk (ih (v5_7 + 1) μ14) (le_s rfl (le_s rfl (le_s rfl (le_o (le_s rfl (le_s rfl le_n))))))
theorem ev_X1_pick_b {E : gx_E} {l : Launch} {dd : Nat} {fp : Int32 → Int32 → Int32 → gx_M → Option (Bool × gx_M)} (hfp : ∀ (p1 p2 p3 : Int32) (μ : gx_M) {r : Bool} {μ' : gx_M}, fp p1 p2 p3 μ = some (r, μ') → gEv E l dd Y_X1_pick [.ref (E.2.2.1 + 79), .int p1, .int p2, .int p3] gx_G1 μ (gx_eB r) gx_G1 μ') (p1 : Int32) (p2 : Int32) (p3 : Int32) (μ : gx_M) {r : Bool} {μ' : gx_M} (hr : f_X1_pick_b fp p1 p2 p3 μ = some (r, μ')) : gEv E l (dd + 1) Y_X1_pick [.ref (E.2.2.1 + 79), .int p1, .int p2, .int p3] gx_G1 μ (gx_eB r) gx_G1 μ' := by
  refine W_ev (by decide) (Nat.le_of_ble_eq_true rfl) (em := gx_eB) (T := f_X1_pick_b fp p1 p2 p3 μ) ?_ hr
  show GoW E l Y_X1_pick (dd + 1) gx_eB 0 (gx_el [.ref (E.2.2.1 + 79), .int p1, .int p2, .int p3]) [] μ (f_X1_pick_b fp p1 p2 p3 μ)
  unfold f_X1_pick_b
  refine W_s (s_aload_n dX1_pick_0 rfl rfl) ?_
  refine W_s (s_iload_n dX1_pick_1 rfl rfl) ?_
  refine W_br (ec := gx_eI) (fun r_ hr_ => s_callV (As := [.int _]) dX1_pick_2 Lk_RX1_55 rfl g_79 (by decide) rfl (by omega) (Nat.le_of_ble_eq_true rfl) (ev_X1_firstUncovered p3 μ hr_)) (fun r1 => ?_)
  refine W_s (s_istore dX1_pick_5 (Nat.le_of_ble_eq_true rfl)) ?_
  refine W_s (s_iload dX1_pick_7 rfl) ?_
  refine W_s (s_iconst dX1_pick_9 kci_m1) ?_
  refine W_ite (fun h2 => ?_) (fun h2 => ?_)
  · refine W_s (s_icmp_ne_f dX1_pick_10 rfl h2) ?_
    refine W_s (s_iload_n dX1_pick_13 rfl rfl) ?_
    refine W_s (s_iload_n dX1_pick_14 rfl rfl) ?_
    refine W_ite (fun h18 => ?_) (fun h18 => ?_)
    · refine W_s (s_icmp_ne_f dX1_pick_15 rfl h18) ?_
      refine W_s (s_iconst dX1_pick_18 kci_1) ?_
      refine W_s (s_goto dX1_pick_19 rfl) ?_
      exact W_r (r := true) (f_int (ty := .boolean) (x := gx_bi true) dX1_pick_23 rfl (gx_bn true))
    · refine W_s (s_icmp_ne_t dX1_pick_15 rfl h18) ?_
      refine W_s (s_iconst dX1_pick_22 kci_0) ?_
      exact W_r (r := false) (f_int (ty := .boolean) (x := gx_bi false) dX1_pick_23 rfl (gx_bn false))
  · refine W_s (s_icmp_ne_t dX1_pick_10 rfl h2) ?_
    refine W_s (s_iload_n dX1_pick_24 rfl rfl) ?_
    refine W_s (s_iload_n dX1_pick_25 rfl rfl) ?_
    refine W_ite (fun h3 => ?_) (fun h3 => ?_)
    · refine W_s (s_icmp_ge_t dX1_pick_26 rfl h3) ?_
      refine W_s (s_iconst dX1_pick_34 kci_0) ?_
      exact W_r (r := false) (f_int (ty := .boolean) (x := gx_bi false) dX1_pick_35 rfl (gx_bn false))
    · refine W_s (s_icmp_ge_f dX1_pick_26 rfl h3) ?_
      refine W_s (s_iload_n dX1_pick_29 rfl rfl) ?_
      refine W_s (s_iconst dX1_pick_30 kci_3) ?_
      refine W_ite (fun h4 => ?_) (fun h4 => ?_)
      · refine W_s (s_icmp_lt_t dX1_pick_31 rfl h4) ?_
        refine W_s (s_iload dX1_pick_36 rfl) ?_
        refine W_s (s_aload_n dX1_pick_38 rfl rfl) ?_
        refine W_s (gf_RX1_9 rfl dX1_pick_39) ?_
        refine W_s (s_iload dX1_pick_42 rfl) ?_
        refine W_ck (fun h5 => ?_)
        refine W_s (s_iald dX1_pick_44 g_80 (gx_ixv h5)) ?_
        refine W_s (s_isub dX1_pick_45) ?_
        refine W_s (s_iconst dX1_pick_46 kci_1) ?_
        refine W_s (s_iadd dX1_pick_47) ?_
        refine W_letI (fun x6 => ?_)
        refine W_s (s_istore dX1_pick_48 (Nat.le_of_ble_eq_true rfl)) ?_
        refine W_wk (okL_X1_pick_50 hfp ?_ 4000 x6 μ) (le_s rfl (le_s rfl (le_s rfl (le_o (le_s rfl (le_s rfl le_n))))))
        intro μ17
        refine W_s (s_iconst dX1_pick_86 kci_0) ?_
        exact W_r (r := false) (f_int (ty := .boolean) (x := gx_bi false) dX1_pick_87 rfl (gx_bn false))
      · refine W_s (s_icmp_lt_f dX1_pick_31 rfl h4) ?_
        refine W_s (s_iconst dX1_pick_34 kci_0) ?_
        exact W_r (r := false) (f_int (ty := .boolean) (x := gx_bi false) dX1_pick_35 rfl (gx_bn false))
theorem ev_X1_pick {E : gx_E} {l : Launch} : ∀ (n : Nat) (p1 : Int32) (p2 : Int32) (p3 : Int32) (μ : gx_M) {r : Bool} {μ' : gx_M} (_ : f_X1_pick n p1 p2 p3 μ = some (r, μ')), gEv E l (n + 1) Y_X1_pick [.ref (E.2.2.1 + 79), .int p1, .int p2, .int p3] gx_G1 μ (gx_eB r) gx_G1 μ'
  | 0, _, _, _, _, _, _, h => by cases h
  | n + 1, p1, p2, p3, μ, _, _, h => ev_X1_pick_b (fun q1 q2 q3 μ1 _ _ h1 => ev_X1_pick n q1 q2 q3 μ1 h1) p1 p2 p3 μ h

def L_X4_read_17 (p2 : Int32) (k8 : gx_M → Option (Unit × gx_M)) : Nat → Bool → Int32 → gx_M → Option (Unit × gx_M)
  | 0, _, _, _ => none
  | n + 1, v3_5, v4_6, μ7 => if 600 < v4_6 then k8 μ7 else if v3_5 = true then gx_bd (f_X4_readLine p2 μ7) (fun (r11 : Bool) (μ12 : gx_M) => L_X4_read_17 p2 k8 n r11 (v4_6 + 1) μ12) else k8 μ7
def f_X4_read (p2 : Int32) (μ : gx_M) : Option (Unit × gx_M) := gx_bd (f_X4_clear μ) (fun (r1 : Unit) (μ2 : gx_M) => gx_bd (f_X8_start μ2) (fun (r3 : Unit) (μ4 : gx_M) => L_X4_read_17 p2 (fun (μ14 : gx_M) => if (μ14.1 42 6) = 0 then if (f_X4_tellsOfMissing p2 μ14) = true then gx_bd (f_X4_note 4 (μ14.1 43 1) μ14) (fun (r17 : Unit) (μ18 : gx_M) => some ((), μ18)) else some ((), μ14) else some ((), μ14)) 4000 true 0 μ4))
theorem okL_X4_read_17 {E : gx_E} {l : Launch} {fk : Nat} {uq : Option Nat} {adK adV : Nat → Nat} (hE : gx_EX E fk uq adK adV) {p2 : Int32} {k8 : gx_M → Option (Unit × gx_M)} (hk : ∀ (μ13 : gx_M), GoW E l Y_X4_read 7 gx_eV 41 [some (.ref (E.2.2.1 + 42)), none, some (.int p2)] [] μ13 (k8 μ13)) : ∀ (n : Nat) (v3_5 : Bool) (v4_6 : Int32) (μ7 : gx_M), GoW E l Y_X4_read 7 gx_eV 17 [some (.ref (E.2.2.1 + 42)), none, some (.int p2), some (.int (gx_bi v3_5)), some (.int v4_6)] [] μ7 (L_X4_read_17 p2 k8 n v3_5 v4_6 μ7) := by
  intro n
  induction n with
  | zero => intros; exact W_no
  | succ n ih =>
    intro v3_5 v4_6 μ7
    rw [L_X4_read_17.eq_2]
    refine W_s (s_iload dX4_read_17 rfl) ?_
    refine W_s (s_sipush dX4_read_19 kcs_600) ?_
    refine W_ite (fun h9 => ?_) (fun h9 => ?_)
    · refine W_s (s_icmp_gt_t dX4_read_22 rfl h9) ?_
      exact W_wk (hk μ7) (le_s rfl (le_o (le_s rfl le_n)))
    · refine W_s (s_icmp_gt_f dX4_read_22 rfl h9) ?_
      refine W_s (s_iload_n dX4_read_25 rfl rfl) ?_
      refine W_ite (fun h10 => ?_) (fun h10 => ?_)
      · refine W_s (s_if_eq_f dX4_read_26 rfl (gx_bt h10)) ?_
        refine W_s (s_aload_n dX4_read_29 rfl rfl) ?_
        refine W_s (s_iload_n dX4_read_30 rfl rfl) ?_
        refine W_bd (ec := gx_eB) (fun r_ μ_ hr_ => s_callV (As := [.int _]) dX4_read_31 Lk_RX4_55 rfl g_42 (by decide) rfl (Nat.le_of_ble_eq_true rfl) (Nat.le_of_ble_eq_true rfl) (ev_X4_readLine hE p2 μ7 hr_)) (fun r11 μ12 => ?_)
        refine W_s (s_istore_n dX4_read_34 rfl (Nat.le_of_ble_eq_true rfl)) ?_
        refine W_s (s_iinc dX4_read_35 rfl (kinc_1 v4_6) (Nat.le_of_ble_eq_true rfl)) ?_
        refine W_s (s_goto dX4_read_38 rfl) ?_
        exact W_wk (ih r11 (v4_6 + 1) μ12) (le_s rfl (le_o (le_s rfl (le_s rfl (le_s rfl le_n)))))
      · refine W_s (s_if_eq_t dX4_read_26 rfl (gx_bf h10)) ?_
        exact W_wk (hk μ7) (le_s rfl (le_o (le_s rfl le_n)))
theorem ev_X4_read {E : gx_E} {l : Launch} {fk : Nat} {uq : Option Nat} {adK adV : Nat → Nat} (hE : gx_EX E fk uq adK adV) (p2 : Int32) (μ : gx_M) {r : Unit} {μ' : gx_M} (hr : f_X4_read p2 μ = some (r, μ')) : gEv E l 7 Y_X4_read [.ref (E.2.2.1 + 42), .ref (E.2.2.1 + 1), .int p2] gx_G1 μ (gx_eV r) gx_G1 μ' := by
  refine W_ev (by decide) (Nat.le_of_ble_eq_true rfl) (em := gx_eV) (T := f_X4_read p2 μ) ?_ hr
  show GoW E l Y_X4_read 7 gx_eV 0 (gx_el [.ref (E.2.2.1 + 42), .ref (E.2.2.1 + 1), .int p2]) [] μ (f_X4_read p2 μ)
  unfold f_X4_read
  refine W_s (s_aload_n dX4_read_0 rfl rfl) ?_
  refine W_bd (ec := gx_eV) (fun r_ μ_ hr_ => s_callV (As := []) dX4_read_1 Lk_RX4_48 rfl g_42 (by decide) rfl (Nat.le_of_ble_eq_true rfl) (Nat.le_of_ble_eq_true rfl) (ev_X4_clear μ hr_)) (fun r1 μ2 => ?_)
  refine W_s (s_aload_n dX4_read_4 rfl rfl) ?_
  refine W_s (gf_RX4_12 rfl dX4_read_5) ?_
  refine W_s (s_aload_n dX4_read_8 rfl rfl) ?_
  refine W_bd (ec := gx_eV) (fun r_ μ_ hr_ => s_callV (As := [.ref _]) dX4_read_9 Lk_RX4_51 rfl g_43 (by decide) rfl (Nat.le_of_ble_eq_true rfl) (Nat.le_of_ble_eq_true rfl) (ev_X8_start μ2 hr_)) (fun r3 μ4 => ?_)
  refine W_s (s_iconst dX4_read_12 kci_1) ?_
  refine W_s (s_istore_n dX4_read_13 rfl (Nat.le_of_ble_eq_true rfl)) ?_
  refine W_s (s_iconst dX4_read_14 kci_0) ?_
  refine W_s (s_istore dX4_read_15 (Nat.le_of_ble_eq_true rfl)) ?_
  refine W_wk (okL_X4_read_17 hE ?_ 4000 true 0 μ4) (le_s rfl (le_o (le_s rfl (le_s rfl (le_s rfl le_n)))))
  intro μ14
  refine W_s (s_aload_n dX4_read_41 rfl rfl) ?_
  refine W_s (gf_RX4_59 rfl dX4_read_42) ?_
  refine W_ite (fun h15 => ?_) (fun h15 => ?_)
  · refine W_s (s_if_ne_f dX4_read_45 rfl h15) ?_
    refine W_s (s_aload_n dX4_read_48 rfl rfl) ?_
    refine W_s (s_iload_n dX4_read_49 rfl rfl) ?_
    refine W_s (s_callV (As := [.int _]) dX4_read_50 Lk_RX4_63 rfl g_42 (by decide) rfl (Nat.le_of_ble_eq_true rfl) (Nat.le_of_ble_eq_true rfl) (ev_X4_tellsOfMissing p2 μ14)) ?_
    refine W_ite (fun h16 => ?_) (fun h16 => ?_)
    · refine W_s (s_if_eq_f dX4_read_53 rfl (gx_bt h16)) ?_
      refine W_s (s_aload_n dX4_read_56 rfl rfl) ?_
      refine W_s (s_iconst dX4_read_57 kci_4) ?_
      refine W_s (s_aload_n dX4_read_58 rfl rfl) ?_
      refine W_s (gf_RX4_12 rfl dX4_read_59) ?_
      refine W_s (gf_RX4_66 rfl dX4_read_62) ?_
      refine W_bd (ec := gx_eV) (fun r_ μ_ hr_ => s_callV (As := [.int _, .int _]) dX4_read_65 Lk_RX4_69 rfl g_42 (by decide) rfl (Nat.le_of_ble_eq_true rfl) (Nat.le_of_ble_eq_true rfl) (ev_X4_note 4 (μ14.1 43 1) μ14 hr_)) (fun r17 μ18 => ?_)
      exact W_r (r := ()) (f_void dX4_read_68 rfl)
    · refine W_s (s_if_eq_t dX4_read_53 rfl (gx_bf h16)) ?_
      exact W_r (r := ()) (f_void dX4_read_68 rfl)
  · refine W_s (s_if_ne_t dX4_read_45 rfl h15) ?_
    exact W_r (r := ()) (f_void dX4_read_68 rfl)

def L_X1_solve_14 (k6 : gx_M → Option (Unit × gx_M)) : Nat → Int32 → gx_M → Option (Unit × gx_M)
  | 0, _, _ => none
  | n + 1, v4_4, μ5 => if 3 < v4_4 then k6 μ5 else if (μ5.1 79 2) = (-1) then gx_bd (f_X1_pick 6 0 v4_4 (-1) μ5) (fun (r9 : Bool) (μ10 : gx_M) => gx_lt (fun (μ14 : gx_M) => L_X1_solve_14 k6 n (v4_4 + 1) μ14) (fun J11 => if r9 = true then gx_lt (gx_uI μ10 79 2 v4_4) (fun (μ13 : gx_M) => J11 μ13) else J11 μ10)) else k6 μ5
def f_X1_solve (a1 : Nat) (p2 : Int64) (μ : gx_M) : Option (Unit × gx_M) := gx_bd (f_X1_findRuns a1 p2 μ) (fun (r1 : Unit) (μ2 : gx_M) => gx_lt (gx_uI μ2 79 2 (-1)) (fun (μ3 : gx_M) => L_X1_solve_14 (fun (μ16 : gx_M) => some ((), μ16)) 4000 0 μ3))
theorem okL_X1_solve_14 {E : gx_E} {l : Launch} {a1 : Nat} (ha1 : gx_St a1) {k6 : gx_M → Option (Unit × gx_M)} (hk : ∀ (μ15 : gx_M), GoW E l Y_X1_solve 8 gx_eV 51 [] [] μ15 (k6 μ15)) : ∀ (n : Nat) (v4_4 : Int32) (μ5 : gx_M), GoW E l Y_X1_solve 8 gx_eV 14 [some (.ref (E.2.2.1 + 79)), none, none, none, some (.int v4_4)] [] μ5 (L_X1_solve_14 k6 n v4_4 μ5) := by
  intro n
  induction n with
  | zero => intros; exact W_no
  | succ n ih =>
    intro v4_4 μ5
    rw [L_X1_solve_14.eq_2]
    refine W_s (s_iload dX1_solve_14 rfl) ?_
    refine W_s (s_iconst dX1_solve_16 kci_3) ?_
    refine W_ite (fun h7 => ?_) (fun h7 => ?_)
    · refine W_s (s_icmp_gt_t dX1_solve_17 rfl h7) ?_
      exact W_wk (hk μ5) le_n
    · refine W_s (s_icmp_gt_f dX1_solve_17 rfl h7) ?_
      refine W_s (s_aload_n dX1_solve_20 rfl rfl) ?_
      refine W_s (gf_RX1_22 rfl dX1_solve_21) ?_
      refine W_s (s_iconst dX1_solve_24 kci_m1) ?_
      refine W_ite (fun h8 => ?_) (fun h8 => ?_)
      · refine W_s (s_icmp_ne_f dX1_solve_25 rfl h8) ?_
        refine W_s (s_aload_n dX1_solve_28 rfl rfl) ?_
        refine W_s (s_iconst dX1_solve_29 kci_0) ?_
        refine W_s (s_iload dX1_solve_30 rfl) ?_
        refine W_s (s_iconst dX1_solve_32 kci_m1) ?_
        refine W_bd (ec := gx_eB) (fun r_ μ_ hr_ => s_callS (As := [.ref _, .int _, .int _, .int _]) dX1_solve_33 Lk_RX1_26 rfl (Nat.le_of_ble_eq_true rfl) (Nat.le_of_ble_eq_true rfl) (ev_X1_pick 6 0 v4_4 (-1) μ5 hr_)) (fun r9 μ10 => ?_)
        refine W_fun (fun J => ∀ (μ14 : gx_M), GoW E l Y_X1_solve 8 gx_eV 45 [some (.ref (E.2.2.1 + 79)), none, none, none, some (.int v4_4)] [] μ14 (J μ14)) ?_ (fun J11 hJ11 => ?_)
        · intro μ14
          refine W_s (s_iinc dX1_solve_45 rfl (kinc_1 v4_4) (Nat.le_of_ble_eq_true rfl)) ?_
          refine W_s (s_goto dX1_solve_48 rfl) ?_
          exact W_wk (ih (v4_4 + 1) μ14) (le_s rfl (le_o (le_o (le_o (le_s rfl le_n)))))
        · skip
          refine W_ite (fun h12 => ?_) (fun h12 => ?_)
          · refine W_s (s_if_eq_f dX1_solve_36 rfl (gx_bt h12)) ?_
            refine W_s (s_aload_n dX1_solve_39 rfl rfl) ?_
            refine W_s (s_iload dX1_solve_40 rfl) ?_
            refine W_s (pf_RX1_22 rfl dX1_solve_42) ?_
            refine W_letM (fun μ13 => ?_)
            exact W_wk (hJ11 μ13) (le_s rfl (le_o (le_o (le_o (le_s rfl le_n)))))
          · refine W_s (s_if_eq_t dX1_solve_36 rfl (gx_bf h12)) ?_
            exact W_wk (hJ11 μ10) (le_s rfl (le_o (le_o (le_o (le_s rfl le_n)))))
      · refine W_s (s_icmp_ne_t dX1_solve_25 rfl h8) ?_
        exact W_wk (hk μ5) le_n
theorem ev_X1_solve {E : gx_E} {l : Launch} (a1 : Nat) (p2 : Int64) (ha1 : gx_St a1) (μ : gx_M) {r : Unit} {μ' : gx_M} (hr : f_X1_solve a1 p2 μ = some (r, μ')) : gEv E l 8 Y_X1_solve [.ref (E.2.2.1 + 79), .ref (E.2.2.1 + a1), .long p2] gx_G1 μ (gx_eV r) gx_G1 μ' := by
  refine W_ev (by decide) (Nat.le_of_ble_eq_true rfl) (em := gx_eV) (T := f_X1_solve a1 p2 μ) ?_ hr
  show GoW E l Y_X1_solve 8 gx_eV 0 (gx_el [.ref (E.2.2.1 + 79), .ref (E.2.2.1 + a1), .long p2]) [] μ (f_X1_solve a1 p2 μ)
  unfold f_X1_solve
  refine W_s (s_aload_n dX1_solve_0 rfl rfl) ?_
  refine W_s (s_aload_n dX1_solve_1 rfl rfl) ?_
  refine W_s (s_lload_n dX1_solve_2 rfl rfl) ?_
  refine W_bd (ec := gx_eV) (fun r_ μ_ hr_ => s_callV (As := [.ref _, .long _]) dX1_solve_3 Lk_RX1_18 rfl g_79 (by decide) rfl (Nat.le_of_ble_eq_true rfl) (Nat.le_of_ble_eq_true rfl) (ev_X1_findRuns a1 p2 ha1 μ hr_)) (fun r1 μ2 => ?_)
  refine W_s (s_aload_n dX1_solve_6 rfl rfl) ?_
  refine W_s (s_iconst dX1_solve_7 kci_m1) ?_
  refine W_s (pf_RX1_22 rfl dX1_solve_8) ?_
  refine W_letM (fun μ3 => ?_)
  refine W_s (s_iconst dX1_solve_11 kci_0) ?_
  refine W_s (s_istore dX1_solve_12 (Nat.le_of_ble_eq_true rfl)) ?_
  refine W_wk (okL_X1_solve_14 ha1 ?_ 4000 0 μ3) (le_s rfl (le_o (le_o (le_o (le_s rfl le_n)))))
  intro μ16
  exact W_r (r := ()) (f_void dX1_solve_51 rfl)

def f_X11_text (p1 : Int32) (p2 : Int32) (μ : gx_M) : Option (Int32 × gx_M) := gx_br (f_X11_placeFor p1 p2 μ) (fun (r1 : Int32) => if 0 ≤ r1 then gx_bd (f_X4_read p1 μ) (fun (r3 : Unit) (μ4 : gx_M) => gx_lt (gx_uI μ4 1 6 0) (fun (μ5 : gx_M) => gx_lt (gx_uI μ5 1 7 (μ5.1 42 6)) (fun (μ6 : gx_M) => gx_lt (gx_uI μ6 1 8 (μ6.1 42 7)) (fun (μ7 : gx_M) => if (μ7.1 42 6) = 0 then gx_bd (f_X9_put p1 r1 μ7) (fun (r9 : Unit) (μ10 : gx_M) => some (r1, μ10)) else some ((-1), μ7))))) else gx_lt (gx_uI μ 1 6 0) (fun (μ11 : gx_M) => gx_lt (gx_uI μ11 1 7 0) (fun (μ12 : gx_M) => gx_lt (gx_uI μ12 1 8 (-1)) (fun (μ13 : gx_M) => some ((-2), μ13)))))
theorem ev_X11_text {E : gx_E} {l : Launch} {fk : Nat} {uq : Option Nat} {adK adV : Nat → Nat} (hE : gx_EX E fk uq adK adV) (p1 : Int32) (p2 : Int32) (μ : gx_M) {r : Int32} {μ' : gx_M} (hr : f_X11_text p1 p2 μ = some (r, μ')) : gEv E l 8 Y_X11_text [.ref (E.2.2.1 + 0), .int p1, .int p2] gx_G1 μ (gx_eI r) gx_G1 μ' := by
  refine W_ev (by decide) (Nat.le_of_ble_eq_true rfl) (em := gx_eI) (T := f_X11_text p1 p2 μ) ?_ hr
  show GoW E l Y_X11_text 8 gx_eI 0 (gx_el [.ref (E.2.2.1 + 0), .int p1, .int p2]) [] μ (f_X11_text p1 p2 μ)
  unfold f_X11_text
  refine W_s (s_aload_n dX11_text_0 rfl rfl) ?_
  refine W_s (s_iload_n dX11_text_1 rfl rfl) ?_
  refine W_s (s_iload_n dX11_text_2 rfl rfl) ?_
  refine W_br (ec := gx_eI) (fun r_ hr_ => s_callV (As := [.int _, .int _]) dX11_text_3 Lk_RX11_78 rfl g_0 (by decide) rfl (Nat.le_of_ble_eq_true rfl) (Nat.le_of_ble_eq_true rfl) (ev_X11_placeFor p1 p2 μ hr_)) (fun r1 => ?_)
  refine W_s (s_istore_n dX11_text_6 rfl (Nat.le_of_ble_eq_true rfl)) ?_
  refine W_s (s_iload_n dX11_text_7 rfl rfl) ?_
  refine W_ite (fun h2 => ?_) (fun h2 => ?_)
  · refine W_s (s_if_ge_t dX11_text_8 rfl h2) ?_
    refine W_s (s_aload_n dX11_text_38 rfl rfl) ?_
    refine W_s (gf_RX11_27 rfl dX11_text_39) ?_
    refine W_s (s_aload_n dX11_text_42 rfl rfl) ?_
    refine W_s (gf_RX11_12 rfl dX11_text_43) ?_
    refine W_s (s_iload_n dX11_text_46 rfl rfl) ?_
    refine W_bd (ec := gx_eV) (fun r_ μ_ hr_ => s_callV (As := [.ref _, .int _]) dX11_text_47 Lk_RX11_88 rfl g_42 (by decide) rfl (Nat.le_of_ble_eq_true rfl) (Nat.le_of_ble_eq_true rfl) (ev_X4_read hE p1 μ hr_)) (fun r3 μ4 => ?_)
    refine W_s (s_aload_n dX11_text_50 rfl rfl) ?_
    refine W_s (gf_RX11_12 rfl dX11_text_51) ?_
    refine W_s (s_iconst dX11_text_54 kci_0) ?_
    refine W_s (pf_RX11_70 rfl dX11_text_55) ?_
    refine W_letM (fun μ5 => ?_)
    refine W_s (s_aload_n dX11_text_58 rfl rfl) ?_
    refine W_s (gf_RX11_12 rfl dX11_text_59) ?_
    refine W_s (s_aload_n dX11_text_62 rfl rfl) ?_
    refine W_s (gf_RX11_27 rfl dX11_text_63) ?_
    refine W_s (gf_RX11_92 rfl dX11_text_66) ?_
    refine W_s (pf_RX11_82 rfl dX11_text_69) ?_
    refine W_letM (fun μ6 => ?_)
    refine W_s (s_aload_n dX11_text_72 rfl rfl) ?_
    refine W_s (gf_RX11_12 rfl dX11_text_73) ?_
    refine W_s (s_aload_n dX11_text_76 rfl rfl) ?_
    refine W_s (gf_RX11_27 rfl dX11_text_77) ?_
    refine W_s (gf_RX11_93 rfl dX11_text_80) ?_
    refine W_s (pf_RX11_85 rfl dX11_text_83) ?_
    refine W_letM (fun μ7 => ?_)
    refine W_s (s_aload_n dX11_text_86 rfl rfl) ?_
    refine W_s (gf_RX11_27 rfl dX11_text_87) ?_
    refine W_s (gf_RX11_92 rfl dX11_text_90) ?_
    refine W_ite (fun h8 => ?_) (fun h8 => ?_)
    · refine W_s (s_if_eq_t dX11_text_93 rfl h8) ?_
      refine W_s (s_aload_n dX11_text_98 rfl rfl) ?_
      refine W_s (gf_RX11_12 rfl dX11_text_99) ?_
      refine W_s (s_aload_n dX11_text_102 rfl rfl) ?_
      refine W_s (gf_RX11_27 rfl dX11_text_103) ?_
      refine W_s (s_iload_n dX11_text_106 rfl rfl) ?_
      refine W_s (s_iload_n dX11_text_107 rfl rfl) ?_
      refine W_bd (ec := gx_eV) (fun r_ μ_ hr_ => s_callV (As := [.ref _, .int _, .int _]) dX11_text_108 Lk_RX11_94 rfl g_1 (by decide) rfl (Nat.le_of_ble_eq_true rfl) (Nat.le_of_ble_eq_true rfl) (ev_X9_put p1 r1 μ7 hr_)) (fun r9 μ10 => ?_)
      refine W_s (s_iload_n dX11_text_111 rfl rfl) ?_
      exact W_r (r := r1) (f_int (ty := .int) dX11_text_112 rfl rfl)
    · refine W_s (s_if_eq_f dX11_text_93 rfl h8) ?_
      refine W_s (s_iconst dX11_text_96 kci_m1) ?_
      exact W_r (r := (-1)) (f_int (ty := .int) dX11_text_97 rfl rfl)
  · refine W_s (s_if_ge_f dX11_text_8 rfl h2) ?_
    refine W_s (s_aload_n dX11_text_11 rfl rfl) ?_
    refine W_s (gf_RX11_12 rfl dX11_text_12) ?_
    refine W_s (s_iconst dX11_text_15 kci_0) ?_
    refine W_s (pf_RX11_70 rfl dX11_text_16) ?_
    refine W_letM (fun μ11 => ?_)
    refine W_s (s_aload_n dX11_text_19 rfl rfl) ?_
    refine W_s (gf_RX11_12 rfl dX11_text_20) ?_
    refine W_s (s_iconst dX11_text_23 kci_0) ?_
    refine W_s (pf_RX11_82 rfl dX11_text_24) ?_
    refine W_letM (fun μ12 => ?_)
    refine W_s (s_aload_n dX11_text_27 rfl rfl) ?_
    refine W_s (gf_RX11_12 rfl dX11_text_28) ?_
    refine W_s (s_iconst dX11_text_31 kci_m1) ?_
    refine W_s (pf_RX11_85 rfl dX11_text_32) ?_
    refine W_letM (fun μ13 => ?_)
    refine W_s (s_bipush dX11_text_35 kcb_m2) ?_
    exact W_r (r := (-2)) (f_int (ty := .int) dX11_text_37 rfl rfl)

def f_X11_corner (p1 : Int32) (p2 : Int32) (p3 : Int32) (μ : gx_M) : Option (Int32 × gx_M) := gx_br (f_X11_hasPerson p1 p2 μ) (fun (r1 : Bool) => if r1 = true then gx_ck (gx_ix p1 2 = true) (gx_lt (8 + 16 * p1.toNatClampNeg) (fun (o4 : Nat) => gx_br (f_X5_held o4 p2 μ) (fun (r5 : Int64) => gx_bd (f_X1_solve o4 ((f_X5_minutesMask o4 μ) &&& (r5 ^^^ (-1))) μ) (fun (r6 : Unit) (μ7 : gx_M) => gx_br (f_X1_answer p3 μ7) (fun (r8 : Int32) => some (r8, μ7)))))) else some ((-1), μ))
theorem ev_X11_corner {E : gx_E} {l : Launch} (p1 : Int32) (p2 : Int32) (p3 : Int32) (μ : gx_M) {r : Int32} {μ' : gx_M} (hr : f_X11_corner p1 p2 p3 μ = some (r, μ')) : gEv E l 9 Y_X11_corner [.ref (E.2.2.1 + 0), .int p1, .int p2, .int p3] gx_G1 μ (gx_eI r) gx_G1 μ' := by
  refine W_ev (by decide) (Nat.le_of_ble_eq_true rfl) (em := gx_eI) (T := f_X11_corner p1 p2 p3 μ) ?_ hr
  show GoW E l Y_X11_corner 9 gx_eI 0 (gx_el [.ref (E.2.2.1 + 0), .int p1, .int p2, .int p3]) [] μ (f_X11_corner p1 p2 p3 μ)
  unfold f_X11_corner
  refine W_s (s_aload_n dX11_corner_0 rfl rfl) ?_
  refine W_s (s_iload_n dX11_corner_1 rfl rfl) ?_
  refine W_s (s_iload_n dX11_corner_2 rfl rfl) ?_
  refine W_br (ec := gx_eB) (fun r_ hr_ => s_callV (As := [.int _, .int _]) dX11_corner_3 Lk_RX11_118 rfl g_0 (by decide) rfl (Nat.le_of_ble_eq_true rfl) (Nat.le_of_ble_eq_true rfl) (ev_X11_hasPerson p1 p2 μ hr_)) (fun r1 => ?_)
  refine W_ite (fun h2 => ?_) (fun h2 => ?_)
  · refine W_s (s_if_ne_t dX11_corner_6 rfl (gx_bt h2)) ?_
    refine W_s (s_aload_n dX11_corner_11 rfl rfl) ?_
    refine W_s (gf_RX11_12 rfl dX11_corner_12) ?_
    refine W_s (gf_RX11_109 rfl dX11_corner_15) ?_
    refine W_s (s_iload_n dX11_corner_18 rfl rfl) ?_
    refine W_ck (fun h3 => ?_)
    refine W_s (aq_3 dX11_corner_19 (gx_ixv h3)) ?_
    refine W_letA (C := fun x => gx_St x) (aqh_3 (gx_ixv h3)) (fun o4 ho4 => ?_)
    refine W_s (s_astore dX11_corner_20 (Nat.le_of_ble_eq_true rfl)) ?_
    refine W_s (s_aload_n dX11_corner_22 rfl rfl) ?_
    refine W_s (gf_RX11_48 rfl dX11_corner_23) ?_
    refine W_s (s_aload dX11_corner_26 rfl) ?_
    refine W_s (s_aload dX11_corner_28 rfl) ?_
    refine W_s (s_callV (As := []) dX11_corner_30 Lk_RX11_284 rfl (St_0 ho4) (by decide) rfl (Nat.le_of_ble_eq_true rfl) (Nat.le_of_ble_eq_true rfl) (ev_X5_minutesMask o4 ho4 μ)) ?_
    refine W_s (s_aload dX11_corner_33 rfl) ?_
    refine W_s (s_iload_n dX11_corner_35 rfl rfl) ?_
    refine W_br (ec := gx_eL) (fun r_ hr_ => s_callV (As := [.int _]) dX11_corner_36 Lk_RX11_261 rfl (St_0 ho4) (by decide) rfl (Nat.le_of_ble_eq_true rfl) (Nat.le_of_ble_eq_true rfl) (ev_X5_held o4 p2 ho4 μ hr_)) (fun r5 => ?_)
    refine W_s (s_ldc2 dX11_corner_39 kw_RX11_250) ?_
    refine W_s (s_lxor dX11_corner_42) ?_
    refine W_s (s_land dX11_corner_43) ?_
    refine W_bd (ec := gx_eV) (fun r_ μ_ hr_ => s_callV (As := [.ref _, .long _]) dX11_corner_44 Lk_RX11_288 rfl g_79 (by decide) rfl (Nat.le_of_ble_eq_true rfl) (Nat.le_of_ble_eq_true rfl) (ev_X1_solve o4 ((f_X5_minutesMask o4 μ) &&& (r5 ^^^ (-1))) ho4 μ hr_)) (fun r6 μ7 => ?_)
    refine W_s (s_aload_n dX11_corner_47 rfl rfl) ?_
    refine W_s (gf_RX11_48 rfl dX11_corner_48) ?_
    refine W_s (s_iload_n dX11_corner_51 rfl rfl) ?_
    refine W_br (ec := gx_eI) (fun r_ hr_ => s_callV (As := [.int _]) dX11_corner_52 Lk_RX11_292 rfl g_79 (by decide) rfl (Nat.le_of_ble_eq_true rfl) (Nat.le_of_ble_eq_true rfl) (ev_X1_answer p3 μ7 hr_)) (fun r8 => ?_)
    exact W_r (r := r8) (f_int (ty := .int) dX11_corner_55 rfl rfl)
  · refine W_s (s_if_ne_f dX11_corner_6 rfl (gx_bf h2)) ?_
    refine W_s (s_iconst dX11_corner_9 kci_m1) ?_
    exact W_r (r := (-1)) (f_int (ty := .int) dX11_corner_10 rfl rfl)

def f_X11_robbed (p1 : Int32) (p2 : Int32) (p3 : Int32) (μ : gx_M) : Option (Int32 × gx_M) := gx_br (f_X11_hasPerson p1 p2 μ) (fun (r1 : Bool) => if r1 = true then gx_ck (gx_ix p1 2 = true) (gx_lt (8 + 16 * p1.toNatClampNeg) (fun (o4 : Nat) => gx_br (f_X5_held o4 p2 μ) (fun (r5 : Int64) => gx_bd (f_X1_solve o4 r5 μ) (fun (r6 : Unit) (μ7 : gx_M) => gx_br (f_X1_answer p3 μ7) (fun (r8 : Int32) => some (r8, μ7)))))) else some ((-1), μ))
theorem ev_X11_robbed {E : gx_E} {l : Launch} (p1 : Int32) (p2 : Int32) (p3 : Int32) (μ : gx_M) {r : Int32} {μ' : gx_M} (hr : f_X11_robbed p1 p2 p3 μ = some (r, μ')) : gEv E l 9 Y_X11_robbed [.ref (E.2.2.1 + 0), .int p1, .int p2, .int p3] gx_G1 μ (gx_eI r) gx_G1 μ' := by
  refine W_ev (by decide) (Nat.le_of_ble_eq_true rfl) (em := gx_eI) (T := f_X11_robbed p1 p2 p3 μ) ?_ hr
  show GoW E l Y_X11_robbed 9 gx_eI 0 (gx_el [.ref (E.2.2.1 + 0), .int p1, .int p2, .int p3]) [] μ (f_X11_robbed p1 p2 p3 μ)
  unfold f_X11_robbed
  refine W_s (s_aload_n dX11_robbed_0 rfl rfl) ?_
  refine W_s (s_iload_n dX11_robbed_1 rfl rfl) ?_
  refine W_s (s_iload_n dX11_robbed_2 rfl rfl) ?_
  refine W_br (ec := gx_eB) (fun r_ hr_ => s_callV (As := [.int _, .int _]) dX11_robbed_3 Lk_RX11_118 rfl g_0 (by decide) rfl (Nat.le_of_ble_eq_true rfl) (Nat.le_of_ble_eq_true rfl) (ev_X11_hasPerson p1 p2 μ hr_)) (fun r1 => ?_)
  refine W_ite (fun h2 => ?_) (fun h2 => ?_)
  · refine W_s (s_if_ne_t dX11_robbed_6 rfl (gx_bt h2)) ?_
    refine W_s (s_aload_n dX11_robbed_11 rfl rfl) ?_
    refine W_s (gf_RX11_12 rfl dX11_robbed_12) ?_
    refine W_s (gf_RX11_109 rfl dX11_robbed_15) ?_
    refine W_s (s_iload_n dX11_robbed_18 rfl rfl) ?_
    refine W_ck (fun h3 => ?_)
    refine W_s (aq_3 dX11_robbed_19 (gx_ixv h3)) ?_
    refine W_letA (C := fun x => gx_St x) (aqh_3 (gx_ixv h3)) (fun o4 ho4 => ?_)
    refine W_s (s_astore dX11_robbed_20 (Nat.le_of_ble_eq_true rfl)) ?_
    refine W_s (s_aload_n dX11_robbed_22 rfl rfl) ?_
    refine W_s (gf_RX11_48 rfl dX11_robbed_23) ?_
    refine W_s (s_aload dX11_robbed_26 rfl) ?_
    refine W_s (s_aload dX11_robbed_28 rfl) ?_
    refine W_s (s_iload_n dX11_robbed_30 rfl rfl) ?_
    refine W_br (ec := gx_eL) (fun r_ hr_ => s_callV (As := [.int _]) dX11_robbed_31 Lk_RX11_261 rfl (St_0 ho4) (by decide) rfl (Nat.le_of_ble_eq_true rfl) (Nat.le_of_ble_eq_true rfl) (ev_X5_held o4 p2 ho4 μ hr_)) (fun r5 => ?_)
    refine W_bd (ec := gx_eV) (fun r_ μ_ hr_ => s_callV (As := [.ref _, .long _]) dX11_robbed_34 Lk_RX11_288 rfl g_79 (by decide) rfl (Nat.le_of_ble_eq_true rfl) (Nat.le_of_ble_eq_true rfl) (ev_X1_solve o4 r5 ho4 μ hr_)) (fun r6 μ7 => ?_)
    refine W_s (s_aload_n dX11_robbed_37 rfl rfl) ?_
    refine W_s (gf_RX11_48 rfl dX11_robbed_38) ?_
    refine W_s (s_iload_n dX11_robbed_41 rfl rfl) ?_
    refine W_br (ec := gx_eI) (fun r_ hr_ => s_callV (As := [.int _]) dX11_robbed_42 Lk_RX11_292 rfl g_79 (by decide) rfl (Nat.le_of_ble_eq_true rfl) (Nat.le_of_ble_eq_true rfl) (ev_X1_answer p3 μ7 hr_)) (fun r8 => ?_)
    exact W_r (r := r8) (f_int (ty := .int) dX11_robbed_45 rfl rfl)
  · refine W_s (s_if_ne_f dX11_robbed_6 rfl (gx_bf h2)) ?_
    refine W_s (s_iconst dX11_robbed_9 kci_m1) ?_
    exact W_r (r := (-1)) (f_int (ty := .int) dX11_robbed_10 rfl rfl)

