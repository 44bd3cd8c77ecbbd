/-! lines of streets: minutes, people, coins -/
set_option maxHeartbeats 8000000 in
theorem gp_LL_s0 : gp_LL 0 0 := by
  intro t len p q e v f pl fu μ ν ok hl hA hw hX hfu hg
  obtain ⟨x8, ⟨xl1, xl2⟩, ⟨⟨m0, hm0, hm0b⟩, o0, ho0, ho0b⟩, xr, xn, xc⟩ := hX
  obtain ⟨ra, rb, hra, hrb, hrab, hrbb⟩ := gp_rd_ex xr
  have tb := gt_tk_b hA.1
  have r17 : 0 < 17 := by omega
  have hsh : gt_sh 0 = 17 := rfl
  have hwl : gt_wl (gt_sh 0) = 1 := by rw [hsh]; rfl
  have mf : f_X4_mostFurther (gq_I (0 : Nat)) (gq_I (0 : Nat)) = gq_I 0 := by decide +kernel
  have cf := gp_cf0 (μ := μ) mf
  have hA' := hA
  obtain ⟨k0, q0, e0, v0, f0, pl0, ν0, n1, n2, n3, n4, n5', n6⟩ := gp_next ok hl hA' (by decide) (False)
  have n5 : ∀ a j, ¬ (a = 206 ∧ 10 ≤ j ∧ j ≤ 18 ∧ j ≠ 11) → True → ν0.1 a j = ν.1 a j := fun a j g1 _ => n5' a j g1
  obtain ⟨μ0, eμ⟩ : ∃ μ0, μ0 = μ := ⟨_, rfl⟩
  have n0 : gp_n3 False f q μ = μ := by unfold gp_n3; rw [if_neg (fun g => g.1)]
  have l0 : gp_l3 False f q ν = ν := by unfold gp_l3; rw [if_neg (fun g => g.1)]
  rw [n0, ← eμ] at n2
  rw [l0] at n1
  have fμ : ∀ a j, ¬ (a = 42 ∧ 6 ≤ j ∧ j ≤ 8) → μ0.1 a j = μ.1 a j := fun a j g => by rw [eμ]
  have fμ2 : μ0.2 = μ.2 := by rw [eμ]
  have y8 : μ0.1 42 8 = gq_I (fu : Nat) := by rw [eμ]; exact x8
  have g0 : ν0.1 206 23 = gq_I 1 := by rw [n5 _ _ (by omega) trivial]; exact hg
  have gm0 : ν0.1 206 21 = gq_I m0 := by rw [n5 _ _ (by omega) trivial]; exact hm0
  have go0 : ν0.1 206 22 = gq_I o0 := by rw [n5 _ _ (by omega) trivial]; exact ho0
  have tb0 := gt_tk_b n2.1
  obtain ⟨Jj, eJ⟩ : ∃ Jj : Bool → gx_M → Option (Bool × gx_M), Jj = (fun (j : Bool) (μ89 : gx_M) => if j = true then gx_ck (gx_ix (gq_I 0) 161 = true) (some (j, gx_uI μ89 216 (gq_I 0).toNatClampNeg (μ89.1 217 0))) else gx_ck (gx_ix (gq_I 0) 161 = true) (some (j, gx_uI μ89 216 (gq_I 0).toNatClampNeg (gq_I 1)))) := ⟨_, rfl⟩
  have ml : f_X12_lineOf (gq_I (0 : Nat)) (gq_L (gt_kw 0)) (gq_I q) ν = gx_bd (gx_bd (f_X12_take (gq_I (0 : Nat)) (gq_I 1) (gq_I 40) ν0) (fun (b0 : Bool) (μm0 : gx_M) => Jj b0 μm0)) (fun (r5 : Bool) (μ6 : gx_M) => some (r5, μ6)) := by
    unfold f_X12_lineOf f_X12_streetLine
    rw [show gt_kw 0 = 30796695599342963 by decide +kernel]
    simp (disch := omega) only [gq_lit, gq_neg, gq_Llit, gq_Leq, gq_lte, Bool.false_eq_true, gq_leT, gq_leF, gq_ltT, gq_ltF, gq_eqT, gq_eqF, if_true, if_false, Int.reduceEq, gq_bd, n1, gq_biT, gq_biF]
    rw [eJ]
    first | rfl | (refine congrArg (fun T => gx_bd T _) (congrArg _ (funext fun b => funext fun x => ?_)); cases b <;> rfl)
  have cl : ∀ K, gp_cl 0 0 K μ = L_X4_readLine_48 (gq_I (0 : Nat)) K 4000 (gq_I 0) μ0 := fun K => by
    unfold gp_cl
    rw [cf, gq_bd, eμ]
  by_cases hk0 : k0 = 2
  · obtain ⟨k1, q1, e1, v1, f1, pl1, μ1, ν1, c01, c02, c03, ⟨c04, c04', c04b⟩, c05, ⟨c06, gm1, go1⟩, ⟨c07, c07'⟩, c08, c08'⟩ := gp_sT (i := 0) (i' := 0) (r := 0) (s := 77) (lo0 := 1) (lo := 1) (hi := 40) ok hl n2 hk0 r17 (by omega) (by rw [hsh]; decide +kernel) (by omega) (by omega) (by omega) (by decide +kernel) (by decide +kernel) (Or.inl ⟨by omega, rfl⟩) g0 gm0 go0
    have tb1 := gt_tk_b c03.1
    obtain ⟨w1, g1⟩ : ∃ w : Int, ν1.1 206 23 = gq_I w := by
      rw [c06]
      by_cases gg : 1 ≤ v0 ∧ v0 ≤ 40
      · rw [if_pos gg]; exact ⟨_, rfl⟩
      · rw [if_neg gg]; exact ⟨0, rfl⟩
    obtain ⟨νz, ez⟩ : ∃ νz, νz = gx_uI ν1 216 0 (gq_I v0) := ⟨_, rfl⟩
    have tz : Jj true ν1 = some (true, νz) := by
      rw [eJ, ez]
      simp (disch := omega) only [Int.reduceToNat, gq_lit, gq_neg, gq_add, gq_sub, gq_mul, gq_nat, Int.toNat_natCast, gq_tadd, gq_tmul, gq_lte, gq_br, gq_bd, gq_ck, if_true, c04']
    have tf : ∀ a j, ¬ a = 216 → νz.1 a j = ν1.1 a j := fun a j g => by rw [ez, gq_uI1, if_neg (by omega)]
    have tf2 : νz.2 206 15 = ν1.2 206 15 := by rw [ez]; rfl
    have tf3 : νz.2 = ν1.2 := by rw [ez]; rfl
    have tn2 : νz.1 216 2 = ν1.1 216 2 := by rw [ez, gq_uI1, if_neg (by omega)]
    have t2 : gp_CN 0 νz fu := ⟨fun _ => by rw [tn2, c08 _ _ (by omega) (by omega), n5 _ _ (by omega) trivial]; exact xn.1 rfl, fun g => absurd g (by decide), fun g => absurd g (by decide)⟩
    have fz : ∀ a j, ¬ a = 216 → νz.1 a j = ν1.1 a j := tf
    right
    refine ⟨k1, q1, e1, e0, v1, f1, pl1, fu, μ1, νz, fun K => ?_, ?_, gp_R_m c03 (fun a j g => fz _ _ (by omega)) tf2, by omega, ?_, ⟨gq_ln_w xl1 fun j => ?_, gq_ln_w xl2 fun j => ?_⟩, ⟨⟨_, by rw [fz _ _ (by omega)]; exact gm1, hm0b⟩, _, by rw [fz _ _ (by omega)]; exact go1, ho0b⟩, gp_rd2 (by rw [fz _ _ (by omega)]; exact c04') (by rw [fz _ _ (by omega)]; exact (by rw [c08 _ _ (by omega) (by omega), n5 _ _ (by omega) trivial]; exact hrb)) (by omega) (by omega), t2, ⟨fun a j g => ?_, ?_⟩, ⟨fun a j g => ?_, fun a j g => ?_⟩, fun hf μ4 h4 => ?_⟩
    · exact (cl K).trans ((c01 K 3999).trans (gp_exit r17 (by omega)))
    · rw [ml]
      simp only [c02, c04', gq_bd, if_true]
      rw [tz]
      rfl
    · rw [c07 _ _ (by omega) (by omega) (by omega)]; exact y8
    · rw [c07 _ _ (by omega) (by omega) (by omega), fμ _ _ (by omega)]
    · rw [c07 _ _ (by omega) (by omega) (by omega), fμ _ _ (by omega)]
    · rw [c07 _ _ (by omega) (by omega) (by omega), fμ _ _ (by omega)]
    · rw [c07', fμ2]
    · rw [fz _ _ (by omega), c08 _ _ (by omega) (by omega), n5 _ _ (by omega) trivial]
    · rw [tf3, c08' _ _ (by omega), n6 _ _ (by omega)]
    · have hh0 := c05.mp hf
      obtain ⟨hff, ho⟩ := n3.mp hh0.1
      have zz : ∀ a j, 45 ≤ a → a ≤ 60 → μ4.1 a j = μ.1 a j := fun a j h1 h2 => by
        rw [h4 _ _ (by omega), c07 _ _ (by omega) (by omega) (by omega), fμ _ _ (by omega)]
      have zh : ∀ j, 9 ≤ j → μ4.1 42 j = μ.1 42 j := fun j h1 => by
        rw [h4 _ _ (by omega), c07 _ _ (by omega) (by omega) (by omega), fμ _ _ (by omega)]
      have zm : ∀ j, ν1.1 216 j = ν.1 216 j := fun j => by
        rw [c08 _ _ (by omega) (by omega), n5 _ _ (by omega) trivial]
      have d0 : μ4.1 61 0 = gq_I v0 := by rw [h4 _ _ (by omega)]; exact c04
      obtain ⟨w, m, o, u1, u2, u3, u4, u5, u6, u7, u8⟩ := (xc hff).1 rfl
      have u9 := u4.2.2.2.2.2.2.2
      have em0 : m = m0 := gp_inj2 u7 hm0 (by omega)
      have eo0 : o = o0 := gp_inj2 u8 ho0 (by omega)
      subst em0 eo0
      have uc : gq_cS μ4 45 w := gq_cS_sm u1 fun i hi => by funext j; exact zz _ _ (by omega) (by omega)
      refine ⟨gx_uI μ4 45 0 (gq_I v0), ?_, ⟨fun _ => ⟨fun j => if j = 0 then v0 else w j, m, o, gp_cS_0 uc (by rw [gq_uI1, if_pos ⟨rfl, rfl⟩]) (fun a j h1 h2 h3 => by rw [gq_uI1, if_neg h3]), fun j hj => ?_, u3, gp_pS_0 u4 (by omega), ?_, ?_, ?_, ?_⟩, fun g => absurd g (by decide), fun g => absurd g (by decide), fun g => absurd g (by decide)⟩, ⟨gq_ln_w xl1 fun j => ?_, gq_ln_w xl2 fun j => ?_⟩, fun a j g1 g2 => ?_, rfl⟩
      · unfold f_X4_tellLine f_X4_tellStreet
        simp (disch := omega) only [gq_lit, Bool.false_eq_true, gq_leT, gq_leF, gq_ltT, gq_ltF, gq_eqT, gq_eqF, if_true, if_false, gq_lte, d0, gq_bd]
        first | rfl | skip
      · show νz.1 216 j = gq_I (if j = 0 then v0 else w j)
        rw [ez, gq_uI1]
        by_cases j0 : j = 0
        · rw [if_pos ⟨rfl, j0⟩, if_pos j0]
        · rw [if_neg (by omega), if_neg j0, zm]; exact u2 j hj
      · rw [gq_uI1, if_neg (by omega), zh _ (by omega)]; exact u5
      · rw [gq_uI1, if_neg (by omega), zh _ (by omega)]; exact u6
      · rw [fz _ _ (by omega)]; exact gm1
      · rw [fz _ _ (by omega)]; exact go1
      · rw [gq_uI1, if_neg (by omega), zz _ _ (by omega) (by omega)]
      · rw [gq_uI1, if_neg (by omega), zz _ _ (by omega) (by omega)]
      · rw [gq_uI1, if_neg (by omega)]
  · left
    intro K
    obtain ⟨μs, s1, s2, s3, s4, s5⟩ := gp_noC (i := 0) ok hl n2 hk0 r17 (by omega)
    have r0 : (gx_uI ν0 206 16 (gq_I q0)).1 217 0 = gq_I ra := by rw [gq_uI1, if_neg (by omega), n5 _ _ (by omega) trivial]; exact hra
    have r1 : (gx_uI ν0 206 16 (gq_I q0)).1 217 1 = gq_I rb := by rw [gq_uI1, if_neg (by omega), n5 _ _ (by omega) trivial]; exact hrb
    obtain ⟨νs, es, fs, fs2⟩ : ∃ νs, Jj false (gx_uI ν0 206 16 (gq_I q0)) = some (false, νs) ∧ (∀ a j, ¬ a = 216 → νs.1 a j = (gx_uI ν0 206 16 (gq_I q0)).1 a j) ∧ νs.2 = ν0.2 := by
      refine ⟨gx_uI (gx_uI ν0 206 16 (gq_I q0)) 216 0 (gq_I 1), ?_, fun a j g => by rw [gq_uI1, if_neg (by omega)], rfl⟩
      rw [eJ]
      simp (disch := omega) only [Int.reduceToNat, gq_lit, gq_neg, gq_add, gq_sub, gq_mul, gq_nat, Int.toNat_natCast, gq_tadd, gq_tmul, gq_lte, gq_br, gq_bd, gq_ck, Bool.false_eq_true, if_false]
    refine ⟨μs, νs, q0, ?_, ?_, ⟨by omega, s2, s3, ?_⟩, ⟨gq_ln_w xl1 fun j => ?_, gq_ln_w xl2 fun j => ?_⟩, gp_rd2 (by rw [fs _ _ (by omega)]; exact r0) (by rw [fs _ _ (by omega)]; exact r1) (by omega) (by omega), ⟨fun a j g => ?_, ?_⟩, ⟨fun a j g => ?_, fun a j g => ?_⟩⟩
    · exact (cl K).trans (s1 K 3999)
    · rw [ml]
      simp only [gp_noM n2 hk0, gq_bd, if_true, Bool.false_eq_true, if_false]
      rw [es]
      rfl
    · rw [fs _ _ (by omega), gq_uI1, if_pos ⟨rfl, rfl⟩]
    · rw [s4 _ _ (by omega) (by omega), fμ _ _ (by omega)]
    · rw [s4 _ _ (by omega) (by omega), fμ _ _ (by omega)]
    · rw [s4 _ _ (by omega) (by omega), fμ _ _ (by omega)]
    · rw [s5, fμ2]
    · rw [fs _ _ (by omega), gq_uI1, if_neg (by omega), n5 _ _ (by omega) trivial]
    · rw [fs2, n6 _ _ (by omega)]
set_option maxHeartbeats 8000000 in
theorem gp_LL_s1 : gp_LL 0 1 := by
  intro t len p q e v f pl fu μ ν ok hl hA hw hX hfu hg
  obtain ⟨x8, ⟨xl1, xl2⟩, ⟨⟨m0, hm0, hm0b⟩, o0, ho0, ho0b⟩, xr, xn, xc⟩ := hX
  obtain ⟨ra, rb, hra, hrb, hrab, hrbb⟩ := gp_rd_ex xr
  have tb := gt_tk_b hA.1
  have r17 : 1 < 17 := by omega
  have hsh : gt_sh 1 = 18 := rfl
  have hwl : gt_wl (gt_sh 1) = 1 := by rw [hsh]; rfl
  have mf : f_X4_mostFurther (gq_I (0 : Nat)) (gq_I (1 : Nat)) = gq_I 0 := by decide +kernel
  have cf := gp_cf0 (μ := μ) mf
  have hA' := hA
  obtain ⟨k0, q0, e0, v0, f0, pl0, ν0, n1, n2, n3, n4, n5', n6⟩ := gp_next ok hl hA' (by decide) (False)
  have n5 : ∀ a j, ¬ (a = 206 ∧ 10 ≤ j ∧ j ≤ 18 ∧ j ≠ 11) → True → ν0.1 a j = ν.1 a j := fun a j g1 _ => n5' a j g1
  obtain ⟨μ0, eμ⟩ : ∃ μ0, μ0 = μ := ⟨_, rfl⟩
  have n0 : gp_n3 False f q μ = μ := by unfold gp_n3; rw [if_neg (fun g => g.1)]
  have l0 : gp_l3 False f q ν = ν := by unfold gp_l3; rw [if_neg (fun g => g.1)]
  rw [n0, ← eμ] at n2
  rw [l0] at n1
  have fμ : ∀ a j, ¬ (a = 42 ∧ 6 ≤ j ∧ j ≤ 8) → μ0.1 a j = μ.1 a j := fun a j g => by rw [eμ]
  have fμ2 : μ0.2 = μ.2 := by rw [eμ]
  have y8 : μ0.1 42 8 = gq_I (fu : Nat) := by rw [eμ]; exact x8
  have g0 : ν0.1 206 23 = gq_I 1 := by rw [n5 _ _ (by omega) trivial]; exact hg
  have gm0 : ν0.1 206 21 = gq_I m0 := by rw [n5 _ _ (by omega) trivial]; exact hm0
  have go0 : ν0.1 206 22 = gq_I o0 := by rw [n5 _ _ (by omega) trivial]; exact ho0
  have tb0 := gt_tk_b n2.1
  obtain ⟨Jj, eJ⟩ : ∃ Jj : Bool → gx_M → Option (Bool × gx_M), Jj = (fun (j : Bool) (μ89 : gx_M) => if j = true then gx_ck (gx_ix (gq_I 1) 161 = true) (some (j, gx_uI μ89 216 (gq_I 1).toNatClampNeg (μ89.1 217 0))) else gx_ck (gx_ix (gq_I 1) 161 = true) (some (j, gx_uI μ89 216 (gq_I 1).toNatClampNeg (gq_I 1)))) := ⟨_, rfl⟩
  have ml : f_X12_lineOf (gq_I (0 : Nat)) (gq_L (gt_kw 1)) (gq_I q) ν = gx_bd (gx_bd (f_X12_take (gq_I (0 : Nat)) (gq_I 1) (gq_I 4) ν0) (fun (b0 : Bool) (μm0 : gx_M) => Jj b0 μm0)) (fun (r5 : Bool) (μ6 : gx_M) => some (r5, μ6)) := by
    unfold f_X12_lineOf f_X12_streetLine
    rw [show gt_kw 1 = 123580963646565 by decide +kernel]
    simp (disch := omega) only [gq_lit, gq_neg, gq_Llit, gq_Leq, gq_lte, Bool.false_eq_true, gq_leT, gq_leF, gq_ltT, gq_ltF, gq_eqT, gq_eqF, if_true, if_false, Int.reduceEq, gq_bd, n1, gq_biT, gq_biF]
    rw [eJ]
    first | rfl | (refine congrArg (fun T => gx_bd T _) (congrArg _ (funext fun b => funext fun x => ?_)); cases b <;> rfl)
  have cl : ∀ K, gp_cl 0 1 K μ = L_X4_readLine_48 (gq_I (1 : Nat)) K 4000 (gq_I 0) μ0 := fun K => by
    unfold gp_cl
    rw [cf, gq_bd, eμ]
  by_cases hk0 : k0 = 2
  · obtain ⟨k1, q1, e1, v1, f1, pl1, μ1, ν1, c01, c02, c03, ⟨c04, c04', c04b⟩, c05, ⟨c06, gm1, go1⟩, ⟨c07, c07'⟩, c08, c08'⟩ := gp_sT (i := 0) (i' := 0) (r := 1) (s := 80) (lo0 := 1) (lo := 1) (hi := 4) ok hl n2 hk0 r17 (by omega) (by rw [hsh]; decide +kernel) (by omega) (by omega) (by omega) (by decide +kernel) (by decide +kernel) (Or.inl ⟨by omega, rfl⟩) g0 gm0 go0
    have tb1 := gt_tk_b c03.1
    obtain ⟨w1, g1⟩ : ∃ w : Int, ν1.1 206 23 = gq_I w := by
      rw [c06]
      by_cases gg : 1 ≤ v0 ∧ v0 ≤ 4
      · rw [if_pos gg]; exact ⟨_, rfl⟩
      · rw [if_neg gg]; exact ⟨0, rfl⟩
    obtain ⟨νz, ez⟩ : ∃ νz, νz = gx_uI ν1 216 1 (gq_I v0) := ⟨_, rfl⟩
    have tz : Jj true ν1 = some (true, νz) := by
      rw [eJ, ez]
      simp (disch := omega) only [Int.reduceToNat, gq_lit, gq_neg, gq_add, gq_sub, gq_mul, gq_nat, Int.toNat_natCast, gq_tadd, gq_tmul, gq_lte, gq_br, gq_bd, gq_ck, if_true, c04']
    have tf : ∀ a j, ¬ a = 216 → νz.1 a j = ν1.1 a j := fun a j g => by rw [ez, gq_uI1, if_neg (by omega)]
    have tf2 : νz.2 206 15 = ν1.2 206 15 := by rw [ez]; rfl
    have tf3 : νz.2 = ν1.2 := by rw [ez]; rfl
    have tn2 : νz.1 216 2 = ν1.1 216 2 := by rw [ez, gq_uI1, if_neg (by omega)]
    have t2 : gp_CN 0 νz fu := ⟨fun _ => by rw [tn2, c08 _ _ (by omega) (by omega), n5 _ _ (by omega) trivial]; exact xn.1 rfl, fun g => absurd g (by decide), fun g => absurd g (by decide)⟩
    have fz : ∀ a j, ¬ a = 216 → νz.1 a j = ν1.1 a j := tf
    right
    refine ⟨k1, q1, e1, e0, v1, f1, pl1, fu, μ1, νz, fun K => ?_, ?_, gp_R_m c03 (fun a j g => fz _ _ (by omega)) tf2, by omega, ?_, ⟨gq_ln_w xl1 fun j => ?_, gq_ln_w xl2 fun j => ?_⟩, ⟨⟨_, by rw [fz _ _ (by omega)]; exact gm1, hm0b⟩, _, by rw [fz _ _ (by omega)]; exact go1, ho0b⟩, gp_rd2 (by rw [fz _ _ (by omega)]; exact c04') (by rw [fz _ _ (by omega)]; exact (by rw [c08 _ _ (by omega) (by omega), n5 _ _ (by omega) trivial]; exact hrb)) (by omega) (by omega), t2, ⟨fun a j g => ?_, ?_⟩, ⟨fun a j g => ?_, fun a j g => ?_⟩, fun hf μ4 h4 => ?_⟩
    · exact (cl K).trans ((c01 K 3999).trans (gp_exit r17 (by omega)))
    · rw [ml]
      simp only [c02, c04', gq_bd, if_true]
      rw [tz]
      rfl
    · rw [c07 _ _ (by omega) (by omega) (by omega)]; exact y8
    · rw [c07 _ _ (by omega) (by omega) (by omega), fμ _ _ (by omega)]
    · rw [c07 _ _ (by omega) (by omega) (by omega), fμ _ _ (by omega)]
    · rw [c07 _ _ (by omega) (by omega) (by omega), fμ _ _ (by omega)]
    · rw [c07', fμ2]
    · rw [fz _ _ (by omega), c08 _ _ (by omega) (by omega), n5 _ _ (by omega) trivial]
    · rw [tf3, c08' _ _ (by omega), n6 _ _ (by omega)]
    · have hh0 := c05.mp hf
      obtain ⟨hff, ho⟩ := n3.mp hh0.1
      have zz : ∀ a j, 45 ≤ a → a ≤ 60 → μ4.1 a j = μ.1 a j := fun a j h1 h2 => by
        rw [h4 _ _ (by omega), c07 _ _ (by omega) (by omega) (by omega), fμ _ _ (by omega)]
      have zh : ∀ j, 9 ≤ j → μ4.1 42 j = μ.1 42 j := fun j h1 => by
        rw [h4 _ _ (by omega), c07 _ _ (by omega) (by omega) (by omega), fμ _ _ (by omega)]
      have zm : ∀ j, ν1.1 216 j = ν.1 216 j := fun j => by
        rw [c08 _ _ (by omega) (by omega), n5 _ _ (by omega) trivial]
      have d0 : μ4.1 61 0 = gq_I v0 := by rw [h4 _ _ (by omega)]; exact c04
      obtain ⟨w, m, o, u1, u2, u3, u4, u5, u6, u7, u8⟩ := (xc hff).1 rfl
      have u9 := u4.2.2.2.2.2.2.2
      have em0 : m = m0 := gp_inj2 u7 hm0 (by omega)
      have eo0 : o = o0 := gp_inj2 u8 ho0 (by omega)
      subst em0 eo0
      have uc : gq_cS μ4 45 w := gq_cS_sm u1 fun i hi => by funext j; exact zz _ _ (by omega) (by omega)
      refine ⟨gx_uI μ4 45 1 (gq_I v0), ?_, ⟨fun _ => ⟨fun j => if j = 1 then v0 else w j, m, o, gp_cS_1 uc (by rw [gq_uI1, if_pos ⟨rfl, rfl⟩]) (fun a j h1 h2 h3 => by rw [gq_uI1, if_neg h3]), fun j hj => ?_, u3, gp_pS_1 u4 (by omega), ?_, ?_, ?_, ?_⟩, fun g => absurd g (by decide), fun g => absurd g (by decide), fun g => absurd g (by decide)⟩, ⟨gq_ln_w xl1 fun j => ?_, gq_ln_w xl2 fun j => ?_⟩, fun a j g1 g2 => ?_, rfl⟩
      · unfold f_X4_tellLine f_X4_tellStreet
        simp (disch := omega) only [gq_lit, Bool.false_eq_true, gq_leT, gq_leF, gq_ltT, gq_ltF, gq_eqT, gq_eqF, if_true, if_false, gq_lte, d0, gq_bd]
        first | rfl | skip
      · show νz.1 216 j = gq_I (if j = 1 then v0 else w j)
        rw [ez, gq_uI1]
        by_cases j0 : j = 1
        · rw [if_pos ⟨rfl, j0⟩, if_pos j0]
        · rw [if_neg (by omega), if_neg j0, zm]; exact u2 j hj
      · rw [gq_uI1, if_neg (by omega), zh _ (by omega)]; exact u5
      · rw [gq_uI1, if_neg (by omega), zh _ (by omega)]; exact u6
      · rw [fz _ _ (by omega)]; exact gm1
      · rw [fz _ _ (by omega)]; exact go1
      · rw [gq_uI1, if_neg (by omega), zz _ _ (by omega) (by omega)]
      · rw [gq_uI1, if_neg (by omega), zz _ _ (by omega) (by omega)]
      · rw [gq_uI1, if_neg (by omega)]
  · left
    intro K
    obtain ⟨μs, s1, s2, s3, s4, s5⟩ := gp_noC (i := 0) ok hl n2 hk0 r17 (by omega)
    have r0 : (gx_uI ν0 206 16 (gq_I q0)).1 217 0 = gq_I ra := by rw [gq_uI1, if_neg (by omega), n5 _ _ (by omega) trivial]; exact hra
    have r1 : (gx_uI ν0 206 16 (gq_I q0)).1 217 1 = gq_I rb := by rw [gq_uI1, if_neg (by omega), n5 _ _ (by omega) trivial]; exact hrb
    obtain ⟨νs, es, fs, fs2⟩ : ∃ νs, Jj false (gx_uI ν0 206 16 (gq_I q0)) = some (false, νs) ∧ (∀ a j, ¬ a = 216 → νs.1 a j = (gx_uI ν0 206 16 (gq_I q0)).1 a j) ∧ νs.2 = ν0.2 := by
      refine ⟨gx_uI (gx_uI ν0 206 16 (gq_I q0)) 216 1 (gq_I 1), ?_, fun a j g => by rw [gq_uI1, if_neg (by omega)], rfl⟩
      rw [eJ]
      simp (disch := omega) only [Int.reduceToNat, gq_lit, gq_neg, gq_add, gq_sub, gq_mul, gq_nat, Int.toNat_natCast, gq_tadd, gq_tmul, gq_lte, gq_br, gq_bd, gq_ck, Bool.false_eq_true, if_false]
    refine ⟨μs, νs, q0, ?_, ?_, ⟨by omega, s2, s3, ?_⟩, ⟨gq_ln_w xl1 fun j => ?_, gq_ln_w xl2 fun j => ?_⟩, gp_rd2 (by rw [fs _ _ (by omega)]; exact r0) (by rw [fs _ _ (by omega)]; exact r1) (by omega) (by omega), ⟨fun a j g => ?_, ?_⟩, ⟨fun a j g => ?_, fun a j g => ?_⟩⟩
    · exact (cl K).trans (s1 K 3999)
    · rw [ml]
      simp only [gp_noM n2 hk0, gq_bd, if_true, Bool.false_eq_true, if_false]
      rw [es]
      rfl
    · rw [fs _ _ (by omega), gq_uI1, if_pos ⟨rfl, rfl⟩]
    · rw [s4 _ _ (by omega) (by omega), fμ _ _ (by omega)]
    · rw [s4 _ _ (by omega) (by omega), fμ _ _ (by omega)]
    · rw [s4 _ _ (by omega) (by omega), fμ _ _ (by omega)]
    · rw [s5, fμ2]
    · rw [fs _ _ (by omega), gq_uI1, if_neg (by omega), n5 _ _ (by omega) trivial]
    · rw [fs2, n6 _ _ (by omega)]
set_option maxHeartbeats 8000000 in
theorem gp_LL_s2 : gp_LL 0 2 := by
  intro t len p q e v f pl fu μ ν ok hl hA hw hX hfu hg
  obtain ⟨x8, ⟨xl1, xl2⟩, ⟨⟨m0, hm0, hm0b⟩, o0, ho0, ho0b⟩, xr, xn, xc⟩ := hX
  obtain ⟨ra, rb, hra, hrb, hrab, hrbb⟩ := gp_rd_ex xr
  have tb := gt_tk_b hA.1
  have r17 : 2 < 17 := by omega
  have hsh : gt_sh 2 = 19 := rfl
  have hwl : gt_wl (gt_sh 2) = 2 := by rw [hsh]; rfl
  have mf : f_X4_mostFurther (gq_I (0 : Nat)) (gq_I (2 : Nat)) = gq_I 0 := by decide +kernel
  have cf := gp_cf0 (μ := μ) mf
  have hA' := hA
  obtain ⟨k0, q0, e0, v0, f0, pl0, ν0, n1, n2, n3, n4, n5', n6⟩ := gp_next ok hl hA' (by decide) (False)
  have n5 : ∀ a j, ¬ (a = 206 ∧ 10 ≤ j ∧ j ≤ 18 ∧ j ≠ 11) → True → ν0.1 a j = ν.1 a j := fun a j g1 _ => n5' a j g1
  obtain ⟨μ0, eμ⟩ : ∃ μ0, μ0 = μ := ⟨_, rfl⟩
  have n0 : gp_n3 False f q μ = μ := by unfold gp_n3; rw [if_neg (fun g => g.1)]
  have l0 : gp_l3 False f q ν = ν := by unfold gp_l3; rw [if_neg (fun g => g.1)]
  rw [n0, ← eμ] at n2
  rw [l0] at n1
  have fμ : ∀ a j, ¬ (a = 42 ∧ 6 ≤ j ∧ j ≤ 8) → μ0.1 a j = μ.1 a j := fun a j g => by rw [eμ]
  have fμ2 : μ0.2 = μ.2 := by rw [eμ]
  have y8 : μ0.1 42 8 = gq_I (fu : Nat) := by rw [eμ]; exact x8
  have g0 : ν0.1 206 23 = gq_I 1 := by rw [n5 _ _ (by omega) trivial]; exact hg
  have gm0 : ν0.1 206 21 = gq_I m0 := by rw [n5 _ _ (by omega) trivial]; exact hm0
  have go0 : ν0.1 206 22 = gq_I o0 := by rw [n5 _ _ (by omega) trivial]; exact ho0
  have tb0 := gt_tk_b n2.1
  obtain ⟨Jj, eJ⟩ : ∃ Jj : Bool → gx_M → Option (Bool × gx_M), Jj = (fun (j : Bool) (μ74 : gx_M) => if j = true then (if (μ74.1 206 23) = gq_I 0 then some (j, μ74) else gx_ck (gx_ix (gq_I 3 + (μ74.1 217 0)) 161 = true) (some (j, gx_uI μ74 216 (gq_I 3 + (μ74.1 217 0)).toNatClampNeg (μ74.1 217 1)))) else some (j, μ74)) := ⟨_, rfl⟩
  have ml : f_X12_lineOf (gq_I (0 : Nat)) (gq_L (gt_kw 2)) (gq_I q) ν = gx_bd (gx_bd (f_X12_takeOne (gq_I (0 : Nat)) (gq_I 3) ν0) (fun (b0 : Bool) (μm0 : gx_M) => if b0 = true then gx_bd (f_X12_take (gq_I (1 : Nat)) (gq_I 0) (gq_I 99) μm0) (fun (b1 : Bool) (μm1 : gx_M) => if b1 = true then Jj true μm1 else Jj false μm1) else Jj false μm0)) (fun (r5 : Bool) (μ6 : gx_M) => some (r5, μ6)) := by
    unfold f_X12_lineOf f_X12_streetLine
    rw [show gt_kw 2 = 427070942835 by decide +kernel]
    simp (disch := omega) only [gq_lit, gq_neg, gq_Llit, gq_Leq, gq_lte, Bool.false_eq_true, gq_leT, gq_leF, gq_ltT, gq_ltF, gq_eqT, gq_eqF, if_true, if_false, Int.reduceEq, gq_bd, n1, gq_biT, gq_biF]
    rw [eJ]
    first | rfl | (refine congrArg (fun T => gx_bd T _) (congrArg _ (funext fun b => funext fun x => ?_)); cases b <;> rfl)
  have cl : ∀ K, gp_cl 0 2 K μ = L_X4_readLine_48 (gq_I (2 : Nat)) K 4000 (gq_I 0) μ0 := fun K => by
    unfold gp_cl
    rw [cf, gq_bd, eμ]
  by_cases hk0 : k0 = 2
  · obtain ⟨k1, q1, e1, v1, f1, pl1, μ1, ν1, c01, c02, c03, ⟨c04, c04', c04b⟩, c05, ⟨c06, gm1, go1⟩, ⟨c07, c07'⟩, c08, c08'⟩ := gp_sO (i := 0) (i' := 0) (r := 2) (s := 112) (lo := 0) (hi := 3) ok hl n2 hk0 r17 (by omega) (by rw [hsh]; decide +kernel) (by omega) (by omega) (by decide +kernel) (by decide +kernel) (by omega) g0 gm0 go0 ho0b
    have tb1 := gt_tk_b c03.1
    obtain ⟨w1, g1⟩ : ∃ w : Int, ν1.1 206 23 = gq_I w := by
      rw [c06]
      by_cases gg : 0 ≤ v0 ∧ v0 ≤ 3
      · rw [if_pos gg]; exact ⟨_, rfl⟩
      · rw [if_neg gg]; exact ⟨0, rfl⟩
    have ob1 : -1 ≤ (if o0 ≤ v0 then v0 else o0) ∧ (if o0 ≤ v0 then v0 else o0) ≤ 99 := by
      have h1 := ho0b
      split <;> omega
    obtain ⟨oo1, eo1⟩ : ∃ oo : Int, oo = (if o0 ≤ v0 then v0 else o0) := ⟨_, rfl⟩
    rw [← eo1] at go1 ob1
    by_cases hk1 : k1 = 2
    · obtain ⟨k2, q2, e2, v2, f2, pl2, μ2, ν2, c11, c12, c13, ⟨c14, c14', c14b⟩, c15, ⟨c16, gm2, go2⟩, ⟨c17, c17'⟩, c18, c18'⟩ := gp_sT (i := 1) (i' := 1) (r := 2) (s := 99) (lo0 := 0) (lo := 0) (hi := 99) ok hl c03 hk1 r17 (by omega) (by rw [hsh]; decide +kernel) (by omega) (by omega) (by omega) (by decide +kernel) (by decide +kernel) (Or.inl ⟨by omega, rfl⟩) g1 gm1 go1
      have tb2 := gt_tk_b c13.1
      obtain ⟨w2, g2⟩ : ∃ w : Int, ν2.1 206 23 = gq_I w := by
        rw [c16]
        by_cases gg : 0 ≤ v1 ∧ v1 ≤ 99
        · rw [if_pos gg]; exact ⟨_, rfl⟩
        · rw [if_neg gg]; exact ⟨0, rfl⟩
      have gd : ¬ ν2.1 206 23 = gq_I 0 → (0 ≤ v0 ∧ v0 ≤ 3) ∧ (0 ≤ v1 ∧ v1 ≤ 99) := fun gz => by
        have h1 : 0 ≤ v1 ∧ v1 ≤ 99 := by
          by_cases hh : 0 ≤ v1 ∧ v1 ≤ 99
          · exact hh
          · rw [c16, if_neg hh] at gz
            exact absurd rfl gz
        rw [c16, if_pos h1, ← g1] at gz
        have h0 : 0 ≤ v0 ∧ v0 ≤ 3 := by
          by_cases hh : 0 ≤ v0 ∧ v0 ≤ 3
          · exact hh
          · rw [c06, if_neg hh] at gz
            exact absurd rfl gz
        rw [c06, if_pos h0] at gz
        exact ⟨h0, h1⟩
      have gd' : f2 = 0 → ¬ ν2.1 206 23 = gq_I 0 := fun hf gz => by
        have h1 := c15.mp hf
        have h0 := c05.mp h1.1
        rw [c16, if_pos h1.2, ← g1] at gz
        rw [c06, if_pos h0.2] at gz
        rw [gq_eq (by omega)] at gz
        omega
      have y0 : ν2.1 217 0 = gq_I v0 := (by rw [c18 _ _ (by omega) (by omega)]; exact c04')
      obtain ⟨νz, tz, tf, tf2, tf3, tn2, tc⟩ : ∃ νz, Jj true ν2 = some (true, νz) ∧ (∀ a j, ¬ a = 216 → νz.1 a j = ν2.1 a j) ∧ νz.2 206 15 = ν2.2 206 15 ∧ νz.2 = ν2.2 ∧ νz.1 216 2 = ν2.1 216 2 ∧ (f2 = 0 → νz = gx_uI ν2 216 (3 + v0.toNat) (gq_I v1)) := by
        by_cases gz : ν2.1 206 23 = gq_I 0
        · refine ⟨ν2, ?_, fun _ _ _ => rfl, rfl, rfl, rfl, fun h => absurd gz (gd' h)⟩
          rw [eJ]
          simp only [gz, if_true]
        · have hh := gd gz
          refine ⟨gx_uI ν2 216 (3 + v0.toNat) (gq_I v1), ?_, fun a j g => by rw [gq_uI1, if_neg (by omega)], rfl, rfl, by rw [gq_uI1, if_neg (by omega)], fun _ => rfl⟩
          rw [eJ]
          have et : ((3 : Int) + v0).toNat = 3 + v0.toNat := by omega
          simp (disch := omega) only [gz, if_true, if_false, y0, c14', gq_add, gq_ck, gq_nat, et]
      have t2 : gp_CN 0 νz fu := ⟨fun _ => by rw [tn2, c18 _ _ (by omega) (by omega), c08 _ _ (by omega) (by omega), n5 _ _ (by omega) trivial]; exact xn.1 rfl, fun g => absurd g (by decide), fun g => absurd g (by decide)⟩
      have fz : ∀ a j, ¬ a = 216 → νz.1 a j = ν2.1 a j := tf
      right
      refine ⟨k2, q2, e2, e1, v2, f2, pl2, fu, μ2, νz, fun K => ?_, ?_, gp_R_m c13 (fun a j g => fz _ _ (by omega)) tf2, by omega, ?_, ⟨gq_ln_w xl1 fun j => ?_, gq_ln_w xl2 fun j => ?_⟩, ⟨⟨_, by rw [fz _ _ (by omega)]; exact gm2, hm0b⟩, _, by rw [fz _ _ (by omega)]; exact go2, ob1⟩, gp_rd2 (by rw [fz _ _ (by omega)]; exact (by rw [c18 _ _ (by omega) (by omega)]; exact c04')) (by rw [fz _ _ (by omega)]; exact c14') (by omega) (by omega), t2, ⟨fun a j g => ?_, ?_⟩, ⟨fun a j g => ?_, fun a j g => ?_⟩, fun hf μ4 h4 => ?_⟩
      · exact (cl K).trans ((c01 K 3999).trans ((c11 K 3998).trans (gp_exit r17 (by omega))))
      · rw [ml]
        simp only [c02, c04', c12, c14', gq_bd, if_true]
        rw [tz]
        rfl
      · rw [c17 _ _ (by omega) (by omega) (by omega), c07 _ _ (by omega) (by omega) (by omega)]; exact y8
      · rw [c17 _ _ (by omega) (by omega) (by omega), c07 _ _ (by omega) (by omega) (by omega), fμ _ _ (by omega)]
      · rw [c17 _ _ (by omega) (by omega) (by omega), c07 _ _ (by omega) (by omega) (by omega), fμ _ _ (by omega)]
      · rw [c17 _ _ (by omega) (by omega) (by omega), c07 _ _ (by omega) (by omega) (by omega), fμ _ _ (by omega)]
      · rw [c17', c07', fμ2]
      · rw [fz _ _ (by omega), c18 _ _ (by omega) (by omega), c08 _ _ (by omega) (by omega), n5 _ _ (by omega) trivial]
      · rw [tf3, c18' _ _ (by omega), c08' _ _ (by omega), n6 _ _ (by omega)]
      · have hh1 := c15.mp hf
        have hh0 := c05.mp hh1.1
        obtain ⟨hff, ho⟩ := n3.mp hh0.1
        have zz : ∀ a j, 45 ≤ a → a ≤ 60 → μ4.1 a j = μ.1 a j := fun a j h1 h2 => by
          rw [h4 _ _ (by omega), c17 _ _ (by omega) (by omega) (by omega), c07 _ _ (by omega) (by omega) (by omega), fμ _ _ (by omega)]
        have zh : ∀ j, 9 ≤ j → μ4.1 42 j = μ.1 42 j := fun j h1 => by
          rw [h4 _ _ (by omega), c17 _ _ (by omega) (by omega) (by omega), c07 _ _ (by omega) (by omega) (by omega), fμ _ _ (by omega)]
        have zm : ∀ j, ν2.1 216 j = ν.1 216 j := fun j => by
          rw [c18 _ _ (by omega) (by omega), c08 _ _ (by omega) (by omega), n5 _ _ (by omega) trivial]
        have d0 : μ4.1 61 0 = gq_I v0 := by rw [h4 _ _ (by omega), c17 _ _ (by omega) (by omega) (by omega)]; exact c04
        have d1 : μ4.1 61 1 = gq_I v1 := by rw [h4 _ _ (by omega)]; exact c14
        obtain ⟨w, m, o, u1, u2, u3, u4, u5, u6, u7, u8⟩ := (xc hff).1 rfl
        have u9 := u4.2.2.2.2.2.2.2
        have em0 : m = m0 := gp_inj2 u7 hm0 (by omega)
        have eo0 : o = o0 := gp_inj2 u8 ho0 (by omega)
        subst em0 eo0
        have uc : gq_cS μ4 45 w := gq_cS_sm u1 fun i hi => by funext j; exact zz _ _ (by omega) (by omega)
        have ez := tc hf
        have eo : (if o < v0 then v0 else o) = oo1 := by
          rw [eo1]
          repeat' split
          all_goals omega
        have e25 : (if gq_I o < gq_I v0 then gq_I v0 else gq_I o) = gq_I oo1 := by
          rw [← eo]
          exact gp_mx (by omega)
        have ob3 : o ≤ oo1 ∧ oo1 ≤ 3 ∧ v0 ≤ oo1 := by
          rw [eo1]
          repeat' split
          all_goals omega
        refine ⟨gx_uI (gx_uI μ4 46 v0.toNat (gq_I v1)) 42 10 (gq_I oo1), ?_, ⟨fun _ => ⟨fun j => if j = 3 + v0.toNat then v1 else w j, m, oo1, gp_cS_2 uc (by rw [gq_uI1, if_neg (by omega), gq_uI1, if_pos ⟨rfl, rfl⟩]) (fun a j h1 h2 h3 => by rw [gq_uI1, if_neg (by omega), gq_uI1, if_neg h3]) (by omega), fun j hj => ?_, ?_, gp_pS_2 (gp_pS_up u4 (by omega) (by omega)) (by omega) (by omega), ?_, ?_, ?_, ?_⟩, fun g => absurd g (by decide), fun g => absurd g (by decide), fun g => absurd g (by decide)⟩, ⟨gq_ln_w xl1 fun j => ?_, gq_ln_w xl2 fun j => ?_⟩, fun a j g1 g2 => ?_, rfl⟩
        · have q61 : (gx_uI μ4 46 v0.toNat (gq_I v1)).1 61 0 = gq_I v0 ∧ (gx_uI μ4 46 v0.toNat (gq_I v1)).1 42 10 = gq_I o := by
            refine ⟨?_, ?_⟩
            · rw [gq_uI1, if_neg (by omega)]; exact d0
            · rw [gq_uI1, if_neg (by omega), zh _ (by omega)]; exact u6
          unfold f_X4_tellLine f_X4_tellStreet
          simp (disch := omega) only [gq_lit, Bool.false_eq_true, gq_leT, gq_leF, gq_ltT, gq_ltF, gq_eqT, gq_eqF, if_true, if_false]
          simp (disch := omega) only [gq_lte, d0, d1, gq_ck, gq_nat, q61.1, q61.2, e25, gq_bd]
        · show νz.1 216 j = gq_I (if j = 3 + v0.toNat then v1 else w j)
          rw [ez, gq_uI1]
          by_cases j0 : j = 3 + v0.toNat
          · rw [if_pos ⟨rfl, j0⟩, if_pos j0]
          · rw [if_neg (by omega), if_neg j0, zm]; exact u2 j hj
        · show (if 2 = 3 + v0.toNat then v1 else w 2) = fu
          rw [if_neg (by omega)]; exact u3
        · rw [gq_uI1, if_neg (by omega), gq_uI1, if_neg (by omega), zh _ (by omega)]; exact u5
        · rw [gq_uI1, if_pos ⟨rfl, rfl⟩]
        · rw [fz _ _ (by omega)]; exact gm2
        · rw [fz _ _ (by omega)]; exact go2
        · rw [gq_uI1, if_neg (by omega), gq_uI1, if_neg (by omega), zz _ _ (by omega) (by omega)]
        · rw [gq_uI1, if_neg (by omega), gq_uI1, if_neg (by omega), zz _ _ (by omega) (by omega)]
        · rw [gq_uI1, if_neg (by omega), gq_uI1, if_neg (by omega)]
    · left
      intro K
      obtain ⟨μs, s1, s2, s3, s4, s5⟩ := gp_noC (i := 1) ok hl c03 hk1 r17 (by omega)
      have r0 : (gx_uI ν1 206 16 (gq_I q1)).1 217 0 = gq_I v0 := by rw [gq_uI1, if_neg (by omega)]; exact c04'
      have r1 : (gx_uI ν1 206 16 (gq_I q1)).1 217 1 = gq_I rb := by rw [gq_uI1, if_neg (by omega), c08 _ _ (by omega) (by omega), n5 _ _ (by omega) trivial]; exact hrb
      obtain ⟨νs, es, fs, fs2⟩ : ∃ νs, Jj false (gx_uI ν1 206 16 (gq_I q1)) = some (false, νs) ∧ (∀ a j, ¬ a = 216 → νs.1 a j = (gx_uI ν1 206 16 (gq_I q1)).1 a j) ∧ νs.2 = ν1.2 := by
        refine ⟨_, ?_, fun a j g => rfl, rfl⟩
        rw [eJ]; rfl
      refine ⟨μs, νs, q1, ?_, ?_, ⟨by omega, s2, s3, ?_⟩, ⟨gq_ln_w xl1 fun j => ?_, gq_ln_w xl2 fun j => ?_⟩, gp_rd2 (by rw [fs _ _ (by omega)]; exact r0) (by rw [fs _ _ (by omega)]; exact r1) (by omega) (by omega), ⟨fun a j g => ?_, ?_⟩, ⟨fun a j g => ?_, fun a j g => ?_⟩⟩
      · exact (cl K).trans ((c01 K 3999).trans (s1 K 3998))
      · rw [ml]
        simp only [c02, c04', gp_noM c03 hk1, gq_bd, if_true, Bool.false_eq_true, if_false]
        rw [es]
        rfl
      · rw [fs _ _ (by omega), gq_uI1, if_pos ⟨rfl, rfl⟩]
      · rw [s4 _ _ (by omega) (by omega), c07 _ _ (by omega) (by omega) (by omega), fμ _ _ (by omega)]
      · rw [s4 _ _ (by omega) (by omega), c07 _ _ (by omega) (by omega) (by omega), fμ _ _ (by omega)]
      · rw [s4 _ _ (by omega) (by omega), c07 _ _ (by omega) (by omega) (by omega), fμ _ _ (by omega)]
      · rw [s5, c07', fμ2]
      · rw [fs _ _ (by omega), gq_uI1, if_neg (by omega), c08 _ _ (by omega) (by omega), n5 _ _ (by omega) trivial]
      · rw [fs2, c08' _ _ (by omega), n6 _ _ (by omega)]
  · left
    intro K
    obtain ⟨μs, s1, s2, s3, s4, s5⟩ := gp_noC (i := 0) ok hl n2 hk0 r17 (by omega)
    have r0 : (gx_uI ν0 206 16 (gq_I q0)).1 217 0 = gq_I ra := by rw [gq_uI1, if_neg (by omega), n5 _ _ (by omega) trivial]; exact hra
    have r1 : (gx_uI ν0 206 16 (gq_I q0)).1 217 1 = gq_I rb := by rw [gq_uI1, if_neg (by omega), n5 _ _ (by omega) trivial]; exact hrb
    obtain ⟨νs, es, fs, fs2⟩ : ∃ νs, Jj false (gx_uI ν0 206 16 (gq_I q0)) = some (false, νs) ∧ (∀ a j, ¬ a = 216 → νs.1 a j = (gx_uI ν0 206 16 (gq_I q0)).1 a j) ∧ νs.2 = ν0.2 := by
      refine ⟨_, ?_, fun a j g => rfl, rfl⟩
      rw [eJ]; rfl
    refine ⟨μs, νs, q0, ?_, ?_, ⟨by omega, s2, s3, ?_⟩, ⟨gq_ln_w xl1 fun j => ?_, gq_ln_w xl2 fun j => ?_⟩, gp_rd2 (by rw [fs _ _ (by omega)]; exact r0) (by rw [fs _ _ (by omega)]; exact r1) (by omega) (by omega), ⟨fun a j g => ?_, ?_⟩, ⟨fun a j g => ?_, fun a j g => ?_⟩⟩
    · exact (cl K).trans (s1 K 3999)
    · rw [ml]
      simp only [gp_noMO n2 hk0, gq_bd, if_true, Bool.false_eq_true, if_false]
      rw [es]
      rfl
    · rw [fs _ _ (by omega), gq_uI1, if_pos ⟨rfl, rfl⟩]
    · rw [s4 _ _ (by omega) (by omega), fμ _ _ (by omega)]
    · rw [s4 _ _ (by omega) (by omega), fμ _ _ (by omega)]
    · rw [s4 _ _ (by omega) (by omega), fμ _ _ (by omega)]
    · rw [s5, fμ2]
    · rw [fs _ _ (by omega), gq_uI1, if_neg (by omega), n5 _ _ (by omega) trivial]
    · rw [fs2, n6 _ _ (by omega)]
