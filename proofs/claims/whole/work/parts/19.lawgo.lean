def gx_M0 : gx_M := (fun _ _ => 0, fun _ _ => 0)
theorem gx_Z0 (n : Nat) : gx_Z n gx_M0 := fun _ _ _ => ⟨rfl, rfl⟩
def gx_M1 : gx_M := ct_RX12_m 206 (ct_RX11_m 0 gx_M0)
theorem gx_G1_is : ct_RX11_c 0 ++ ct_RX12_c 206 = gx_G1 := by decide +kernel
theorem LB_X11_init (own : String) (idx : Nat) : gx_LB own idx Y_X11_init 0 := ⟨(gx_in1 1 rfl rfl), (gx_in1 27 rfl rfl), ⟨by decide +kernel, by decide +kernel, by decide +kernel⟩, by decide⟩
theorem LB_X12_init (own : String) (idx : Nat) : gx_LB own idx Y_X12_init 0 := ⟨(gx_in1 13 rfl rfl), (gx_in6 89 rfl rfl), ⟨by decide +kernel, by decide +kernel, by decide +kernel⟩, by decide⟩
theorem Lk_RL_9 : gx_LI "StolenHoursLaw" 9 Y_X11_init 0 := ⟨LB_X11_init _ _, (gx_in1 25 rfl rfl), (gx_in1 26 rfl rfl), rfl, rfl⟩
theorem Lk_RL_12 : gx_LI "StolenHoursLaw" 12 Y_X12_init 0 := ⟨LB_X12_init _ _, (gx_in6 87 rfl rfl), (gx_in6 88 rfl rfl), rfl, rfl⟩
set_option maxHeartbeats 40000000 in
set_option maxRecDepth 20000 in
theorem law_go {E : gx_E} {l : Launch} {Ln : Nat} {xs : Nat → Int32} {fk : Nat} {uq : Option Nat} {adK adV : Nat → Nat} (hE : gx_EX E fk uq adK adV) (hO : gx_EO E) {b : Nat} (hB : gx_EB E b Ln xs) {μ' : gx_M} (hp : f_law xs Ln gx_M1 = some (true, μ')) : gF E l Y_law 12 (0, gx_el [.ref b], [], [], gx_M0) (some (.int 1)) gx_G1 μ' := by
  show gF E l Y_law 12 (0, gx_el [.ref b], [], [] ++ [], gx_M0) (some (.int 1)) gx_G1 μ'
  refine gf_s (ct_new (ci := 11) (n := 0) (T' := [(11, gx_NX 11, List.replicate (gx_NX 11) none)]) dL_law_0 (by decide) (gx_in1 23 rfl rfl) (gw_ins 11 (by decide)) (gx_in1 1 rfl rfl) rfl rfl (gx_Z0 _)) ?_
  refine gf_s (s_dup dL_law_3 rfl) ?_
  refine gf_s (ct_callI (n := 0) (T0 := []) (T' := ct_RX11_c 0) dL_law_4 Lk_RL_9 rfl (by decide) (Nat.le_of_ble_eq_true rfl) (ct_RX11 hE hO) rfl rfl rfl (gx_Z0 _)) ?_
  refine gf_s (s_astore_n dL_law_7 rfl (Nat.le_of_ble_eq_true rfl)) ?_
  show gF E l Y_law 12 (8, [some (.ref b), some (.ref (E.2.2.1 + 0))], [], ct_RX11_c 0 ++ [], ct_RX11_m 0 gx_M0) (some (.int 1)) gx_G1 μ'
  refine gf_s (ct_new (P := ct_RX11_c 0) (ci := 12) (n := 0) (T' := [(12, gx_NX 12, List.replicate (gx_NX 12) none)]) dL_law_8 (by decide) (gx_in6 85 rfl rfl) (gw_ins 12 (by decide)) (gx_in1 13 rfl rfl) rfl rfl (ct_RX11_z 0 gx_M0 (gx_Z0 _))) ?_
  refine gf_s (s_dup dL_law_11 rfl) ?_
  refine gf_s (ct_callI (P := ct_RX11_c 0) (n := 0) (T0 := []) (T' := ct_RX12_c 206) dL_law_12 Lk_RL_12 rfl (by decide) (Nat.le_of_ble_eq_true rfl) (ct_RX12 hE hO) rfl rfl rfl (gx_Zm (ct_RX11_z 0 gx_M0 (gx_Z0 _)) (Nat.le_of_ble_eq_true rfl))) ?_
  rw [gx_G1_is]
  refine gf_s (s_astore_n dL_law_15 rfl (Nat.le_of_ble_eq_true rfl)) ?_
  refine gf_s (s_iconst (v := 0) dL_law_16 (by decide)) ?_
  refine gf_s (s_istore_n dL_law_17 rfl (Nat.le_of_ble_eq_true rfl)) ?_
  exact ok_law hE hB gx_M1 true μ' hp
