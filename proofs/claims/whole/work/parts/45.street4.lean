/-! lines of streets: price, has -/
set_option maxHeartbeats 8000000 in
theorem gp_LL_s3 : gp_LL 0 3 := by
  intro t len p q e v f pl fu μ ν ok hl hA hw hX hfu hg
  obtain ⟨x8, ⟨xl1, xl2⟩, ⟨⟨m0, hm0, hm0b⟩, o0, ho0, ho0b⟩, xr, xn, xc⟩ := hX
  obtain ⟨ra, rb, hra, hrb, hrab, hrbb⟩ := gp_rd_ex xr
  have tb := gt_tk_b hA.1
  have r17 : 3 < 17 := by omega
  have hsh : gt_sh 3 = 20 := rfl
  have hwl : gt_wl (gt_sh 3) = 3 := by rw [hsh]; rfl
  have mf : f_X4_mostFurther (gq_I (0 : Nat)) (gq_I (3 : Nat)) = gq_I 0 := by decide +kernel
  have cf := gp_cf0 (μ := μ) mf
  have hA' := hA
  obtain ⟨k0, q0, e0, v0, f0, pl0, ν0, n1, n2, n3, n4, n5', n6⟩ := gp_next ok hl hA' (by decide) (False)
  have n5 : ∀ a j, ¬ (a = 206 ∧ 10 ≤ j ∧ j ≤ 18 ∧ j ≠ 11) → True → ν0.1 a j = ν.1 a j := fun a j g1 _ => n5' a j g1
  obtain ⟨μ0, eμ⟩ : ∃ μ0, μ0 = μ := ⟨_, rfl⟩
  have n0 : gp_n3 False f q μ = μ := by unfold gp_n3; rw [if_neg (fun g => g.1)]
  have l0 : gp_l3 False f q ν = ν := by unfold gp_l3; rw [if_neg (fun g => g.1)]
  rw [n0, ← eμ] at n2
  rw [l0] at n1
  have fμ : ∀ a j, ¬ (a = 42 ∧ 6 ≤ j ∧ j ≤ 8) → μ0.1 a j = μ.1 a j := fun a j g => by rw [eμ]
  have fμ2 : μ0.2 = μ.2 := by rw [eμ]
  have y8 : μ0.1 42 8 = gq_I (fu : Nat) := by rw [eμ]; exact x8
  have g0 : ν0.1 206 23 = gq_I 1 := by rw [n5 _ _ (by omega) trivial]; exact hg
  have gm0 : ν0.1 206 21 = gq_I m0 := by rw [n5 _ _ (by omega) trivial]; exact hm0
  have go0 : ν0.1 206 22 = gq_I o0 := by rw [n5 _ _ (by omega) trivial]; exact ho0
  have tb0 := gt_tk_b n2.1
  obtain ⟨Jj, eJ⟩ : ∃ Jj : Bool → gx_M → Option (Bool × gx_M), Jj = (fun (j : Bool) (μ57 : gx_M) => gx_bd (f_X12_fill (gq_I 31) (μ57.1 217 0) (if j = true then μ57.1 217 1 else gq_I (-1)) (μ57.1 217 2) μ57) (fun (_ : Unit) (μ63 : gx_M) => some (j, μ63))) := ⟨_, rfl⟩
  have ml : f_X12_lineOf (gq_I (0 : Nat)) (gq_L (gt_kw 3)) (gq_I q) ν = gx_bd (gx_bd (f_X12_takeMinute (gq_I (0 : Nat)) (gq_I 0) ν0) (fun (b0 : Bool) (μm0 : gx_M) => if b0 = true then gx_bd (f_X12_takeMinute (gq_I (1 : Nat)) (μm0.1 217 0) μm0) (fun (b1 : Bool) (μm1 : gx_M) => if b1 = true then gx_bd (f_X12_take (gq_I (2 : Nat)) (gq_I 0) (gq_I 9) μm1) (fun (b2 : Bool) (μm2 : gx_M) => if b2 = true then Jj true μm2 else Jj false μm2) else Jj false μm1) else Jj false μm0)) (fun (r5 : Bool) (μ6 : gx_M) => some (r5, μ6)) := by
    unfold f_X12_lineOf f_X12_streetLine
    rw [show gt_kw 3 = 482955846501 by decide +kernel]
    simp (disch := omega) only [gq_lit, gq_neg, gq_Llit, gq_Leq, gq_lte, Bool.false_eq_true, gq_leT, gq_leF, gq_ltT, gq_ltF, gq_eqT, gq_eqF, if_true, if_false, Int.reduceEq, gq_bd, n1, gq_biT, gq_biF]
    rw [eJ]
    first | rfl | (refine congrArg (fun T => gx_bd T _) (congrArg _ (funext fun b => funext fun x => ?_)); cases b <;> rfl)
  have cl : ∀ K, gp_cl 0 3 K μ = L_X4_readLine_48 (gq_I (3 : Nat)) K 4000 (gq_I 0) μ0 := fun K => by
    unfold gp_cl
    rw [cf, gq_bd, eμ]
  by_cases hk0 : k0 = 2
  · obtain ⟨k1, q1, e1, v1, f1, pl1, μ1, ν1, c01, c02, c03, ⟨c04, c04', c04b⟩, c05, ⟨c06, gm1, go1⟩, ⟨c07, c07'⟩, c08, c08'⟩ := gp_sM (i := 0) (i' := 0) (r := 3) (s := 109) (lo0 := 0) (lo := 0) ok hl n2 hk0 r17 (by omega) (by rw [hsh]; decide +kernel) (by omega) (by omega) (by decide +kernel) (by decide +kernel) (Or.inl ⟨by omega, rfl⟩) g0 gm0 hm0b go0
    have tb1 := gt_tk_b c03.1
    obtain ⟨w1, g1⟩ : ∃ w : Int, ν1.1 206 23 = gq_I w := by
      rw [c06]
      by_cases gg : 0 ≤ v0 ∧ v0 ≤ 39
      · rw [if_pos gg]; exact ⟨_, rfl⟩
      · rw [if_neg gg]; exact ⟨0, rfl⟩
    have mb1 : -1 ≤ (if m0 ≤ v0 then v0 else m0) ∧ (if m0 ≤ v0 then v0 else m0) ≤ 99 := by
      have h1 := hm0b
      split <;> omega
    obtain ⟨mm1, em1⟩ : ∃ mm : Int, mm = (if m0 ≤ v0 then v0 else m0) := ⟨_, rfl⟩
    rw [← em1] at gm1 mb1
    by_cases hk1 : k1 = 2
    · obtain ⟨k2, q2, e2, v2, f2, pl2, μ2, ν2, c11, c12, c13, ⟨c14, c14', c14b⟩, c15, ⟨c16, gm2, go2⟩, ⟨c17, c17'⟩, c18, c18'⟩ := gp_sM (i := 1) (i' := 1) (r := 3) (s := 116) (lo0 := 0) (lo := v0) ok hl c03 hk1 r17 (by omega) (by rw [hsh]; decide +kernel) (by omega) (by omega) (by decide +kernel) (by decide +kernel) (Or.inr ⟨rfl, by omega, c04, rfl, c04b.1, c04b.2⟩) g1 gm1 mb1 go1
      have tb2 := gt_tk_b c13.1
      obtain ⟨w2, g2⟩ : ∃ w : Int, ν2.1 206 23 = gq_I w := by
        rw [c16]
        by_cases gg : v0 ≤ v1 ∧ v1 ≤ 39
        · rw [if_pos gg]; exact ⟨_, rfl⟩
        · rw [if_neg gg]; exact ⟨0, rfl⟩
      have mb2 : -1 ≤ (if mm1 ≤ v1 then v1 else mm1) ∧ (if mm1 ≤ v1 then v1 else mm1) ≤ 99 := by
        have h1 := mb1
        split <;> omega
      obtain ⟨mm2, em2⟩ : ∃ mm : Int, mm = (if mm1 ≤ v1 then v1 else mm1) := ⟨_, rfl⟩
      rw [← em2] at gm2 mb2
      by_cases hk2 : k2 = 2
      · obtain ⟨k3, q3, e3, v3, f3, pl3, μ3, ν3, c21, c22, c23, ⟨c24, c24', c24b⟩, c25, ⟨c26, gm3, go3⟩, ⟨c27, c27'⟩, c28, c28'⟩ := gp_sT (i := 2) (i' := 2) (r := 3) (s := 120) (lo0 := 0) (lo := 0) (hi := 9) ok hl c13 hk2 r17 (by omega) (by rw [hsh]; decide +kernel) (by omega) (by omega) (by omega) (by decide +kernel) (by decide +kernel) (Or.inl ⟨by omega, rfl⟩) g2 gm2 go2
        have tb3 := gt_tk_b c23.1
        obtain ⟨w3, g3⟩ : ∃ w : Int, ν3.1 206 23 = gq_I w := by
          rw [c26]
          by_cases gg : 0 ≤ v2 ∧ v2 ≤ 9
          · rw [if_pos gg]; exact ⟨_, rfl⟩
          · rw [if_neg gg]; exact ⟨0, rfl⟩
        have gd : ¬ ν3.1 206 23 = gq_I 0 → (0 ≤ v0 ∧ v0 ≤ 39) ∧ (v0 ≤ v1 ∧ v1 ≤ 39) ∧ (0 ≤ v2 ∧ v2 ≤ 9) := fun gz => by
          have h2 : 0 ≤ v2 ∧ v2 ≤ 9 := by
            by_cases hh : 0 ≤ v2 ∧ v2 ≤ 9
            · exact hh
            · rw [c26, if_neg hh] at gz
              exact absurd rfl gz
          rw [c26, if_pos h2, ← g2] at gz
          have h1 : v0 ≤ v1 ∧ v1 ≤ 39 := by
            by_cases hh : v0 ≤ v1 ∧ v1 ≤ 39
            · exact hh
            · rw [c16, if_neg hh] at gz
              exact absurd rfl gz
          rw [c16, if_pos h1, ← g1] at gz
          have h0 : 0 ≤ v0 ∧ v0 ≤ 39 := by
            by_cases hh : 0 ≤ v0 ∧ v0 ≤ 39
            · exact hh
            · rw [c06, if_neg hh] at gz
              exact absurd rfl gz
          rw [c06, if_pos h0] at gz
          exact ⟨h0, h1, h2⟩
        have gd' : f3 = 0 → ¬ ν3.1 206 23 = gq_I 0 := fun hf gz => by
          have h2 := c25.mp hf
          have h1 := c15.mp h2.1
          have h0 := c05.mp h1.1
          rw [c26, if_pos h2.2, ← g2] at gz
          rw [c16, if_pos h1.2, ← g1] at gz
          rw [c06, if_pos h0.2] at gz
          rw [gq_eq (by omega)] at gz
          omega
        have y0 : ν3.1 217 0 = gq_I v0 := (by rw [c28 _ _ (by omega) (by omega), c18 _ _ (by omega) (by omega)]; exact c04')
        have y1 : ν3.1 217 1 = gq_I v1 := (by rw [c28 _ _ (by omega) (by omega)]; exact c14')
        have y2 : ν3.1 217 2 = gq_I v2 := c24'
        obtain ⟨νz, tz, tf, tf2, tf3, tn2, tc⟩ : ∃ νz, Jj true ν3 = some (true, νz) ∧ (∀ a j, ¬ a = 216 → νz.1 a j = ν3.1 a j) ∧ νz.2 206 15 = ν3.2 206 15 ∧ νz.2 = ν3.2 ∧ νz.1 216 2 = ν3.1 216 2 ∧ (f3 = 0 → (∀ j : Nat, v0 ≤ j → (j : Int) ≤ v1 → νz.1 216 (31 + j) = gq_I v2) ∧ ∀ j, ¬ (31 + v0.toNat ≤ j ∧ j ≤ 31 + v1.toNat) → νz.1 216 j = ν3.1 216 j) := by
          by_cases gz : ν3.1 206 23 = gq_I 0
          · refine ⟨ν3, ?_, fun _ _ _ => rfl, rfl, rfl, rfl, fun h => absurd gz (gd' h)⟩
            rw [eJ]
            simp only [if_true]
            rw [y0, gp_fill0 gz]
            rfl
          · have hh := gd gz
            obtain ⟨νz, z1, z2, z3, z4⟩ := gp_fill (a := 31) (x := v0) (y := v1) (v := gq_I v2) (ν := ν3) (by omega) (by omega) (by omega) gz
            refine ⟨νz, ?_, fun a j g => z3 _ _ (by omega), by rw [z4], z4, z3 _ _ (by omega), fun _ => ⟨z2, fun j g => z3 _ _ (by omega)⟩⟩
            rw [eJ]
            simp only [if_true]
            rw [y0, y1, y2, show gq_I 31 = gq_I ((31 : Nat) : Int) from rfl, z1]
            rfl
        have t2 : gp_CN 0 νz fu := ⟨fun _ => by rw [tn2, c28 _ _ (by omega) (by omega), c18 _ _ (by omega) (by omega), c08 _ _ (by omega) (by omega), n5 _ _ (by omega) trivial]; exact xn.1 rfl, fun g => absurd g (by decide), fun g => absurd g (by decide)⟩
        have fz : ∀ a j, ¬ a = 216 → νz.1 a j = ν3.1 a j := tf
        right
        refine ⟨k3, q3, e3, e2, v3, f3, pl3, fu, μ3, νz, fun K => ?_, ?_, gp_R_m c23 (fun a j g => fz _ _ (by omega)) tf2, by omega, ?_, ⟨gq_ln_w xl1 fun j => ?_, gq_ln_w xl2 fun j => ?_⟩, ⟨⟨_, by rw [fz _ _ (by omega)]; exact gm3, mb2⟩, _, by rw [fz _ _ (by omega)]; exact go3, ho0b⟩, gp_rd2 (by rw [fz _ _ (by omega)]; exact (by rw [c28 _ _ (by omega) (by omega), c18 _ _ (by omega) (by omega)]; exact c04')) (by rw [fz _ _ (by omega)]; exact (by rw [c28 _ _ (by omega) (by omega)]; exact c14')) (by omega) (by omega), t2, ⟨fun a j g => ?_, ?_⟩, ⟨fun a j g => ?_, fun a j g => ?_⟩, fun hf μ4 h4 => ?_⟩
        · exact (cl K).trans ((c01 K 3999).trans ((c11 K 3998).trans ((c21 K 3997).trans (gp_exit r17 (by omega)))))
        · rw [ml]
          simp only [c02, c04', c12, c14', c22, c24', gq_bd, if_true]
          rw [tz]
          rfl
        · rw [c27 _ _ (by omega) (by omega) (by omega), c17 _ _ (by omega) (by omega) (by omega), c07 _ _ (by omega) (by omega) (by omega)]; exact y8
        · rw [c27 _ _ (by omega) (by omega) (by omega), c17 _ _ (by omega) (by omega) (by omega), c07 _ _ (by omega) (by omega) (by omega), fμ _ _ (by omega)]
        · rw [c27 _ _ (by omega) (by omega) (by omega), c17 _ _ (by omega) (by omega) (by omega), c07 _ _ (by omega) (by omega) (by omega), fμ _ _ (by omega)]
        · rw [c27 _ _ (by omega) (by omega) (by omega), c17 _ _ (by omega) (by omega) (by omega), c07 _ _ (by omega) (by omega) (by omega), fμ _ _ (by omega)]
        · rw [c27', c17', c07', fμ2]
        · rw [fz _ _ (by omega), c28 _ _ (by omega) (by omega), c18 _ _ (by omega) (by omega), c08 _ _ (by omega) (by omega), n5 _ _ (by omega) trivial]
        · rw [tf3, c28' _ _ (by omega), c18' _ _ (by omega), c08' _ _ (by omega), n6 _ _ (by omega)]
        · have hh2 := c25.mp hf
          have hh1 := c15.mp hh2.1
          have hh0 := c05.mp hh1.1
          obtain ⟨hff, ho⟩ := n3.mp hh0.1
          have zz : ∀ a j, 45 ≤ a → a ≤ 60 → μ4.1 a j = μ.1 a j := fun a j h1 h2 => by
            rw [h4 _ _ (by omega), c27 _ _ (by omega) (by omega) (by omega), c17 _ _ (by omega) (by omega) (by omega), c07 _ _ (by omega) (by omega) (by omega), fμ _ _ (by omega)]
          have zh : ∀ j, 9 ≤ j → μ4.1 42 j = μ.1 42 j := fun j h1 => by
            rw [h4 _ _ (by omega), c27 _ _ (by omega) (by omega) (by omega), c17 _ _ (by omega) (by omega) (by omega), c07 _ _ (by omega) (by omega) (by omega), fμ _ _ (by omega)]
          have zm : ∀ j, ν3.1 216 j = ν.1 216 j := fun j => by
            rw [c28 _ _ (by omega) (by omega), c18 _ _ (by omega) (by omega), c08 _ _ (by omega) (by omega), n5 _ _ (by omega) trivial]
          have d0 : μ4.1 61 0 = gq_I v0 := by rw [h4 _ _ (by omega), c27 _ _ (by omega) (by omega) (by omega), c17 _ _ (by omega) (by omega) (by omega)]; exact c04
          have d1 : μ4.1 61 1 = gq_I v1 := by rw [h4 _ _ (by omega), c27 _ _ (by omega) (by omega) (by omega)]; exact c14
          have d2 : μ4.1 61 2 = gq_I v2 := by rw [h4 _ _ (by omega)]; exact c24
          obtain ⟨w, m, o, u1, u2, u3, u4, u5, u6, u7, u8⟩ := (xc hff).1 rfl
          have u9 := u4.2.2.2.2.2.2.2
          have em0 : m = m0 := gp_inj2 u7 hm0 (by omega)
          have eo0 : o = o0 := gp_inj2 u8 ho0 (by omega)
          subst em0 eo0
          have uc : gq_cS μ4 45 w := gq_cS_sm u1 fun i hi => by funext j; exact zz _ _ (by omega) (by omega)
          obtain ⟨t3, t4⟩ := tc hf
          have em : (if m < v1 then v1 else m) = mm2 := by
            rw [em2, em1]
            repeat' split
            all_goals omega
          have e25 : (if gq_I m < gq_I v1 then gq_I v1 else gq_I m) = gq_I mm2 := by
            rw [← em]
            exact gp_mx (by omega)
          have mb3 : m ≤ mm2 ∧ mm2 ≤ 39 ∧ v1 ≤ mm2 := by
            rw [em2, em1]
            repeat' split
            all_goals omega
          obtain ⟨μ5, s1, s2, s3, s4⟩ := gp_jf (a := 47) (x := v0) (y := v1) (v := gq_I v2) (μ := μ4) (by omega)
          have w26 := u4.2.2.1.2
          refine ⟨gx_uI μ5 42 9 (gq_I mm2), ?_, ⟨fun _ => ⟨fun j => if 31 + v0 ≤ j ∧ (j : Int) ≤ 31 + v1 then v2 else w j, mm2, o, gp_cS_3 uc (by omega) (fun j h1 h2 => by rw [gq_uI1, if_neg (by omega)]; exact s2 j h1 h2) (fun a j h1 h2 h3 => by rw [gq_uI1, if_neg (by omega), s3 _ _ h3]) w26, fun j hj => ?_, ?_, gp_pS_3 (gp_pS_up u4 (by omega) (by omega)) (by omega) (by omega), ?_, ?_, ?_, ?_⟩, fun g => absurd g (by decide), fun g => absurd g (by decide), fun g => absurd g (by decide)⟩, ⟨gq_ln_w xl1 fun j => ?_, gq_ln_w xl2 fun j => ?_⟩, fun a j g1 g2 => ?_, by rw [gq_uI2, s4]⟩
          · have q61 : μ5.1 61 1 = gq_I v1 ∧ μ5.1 42 9 = gq_I m := by
              refine ⟨?_, ?_⟩
              · rw [s3 _ _ (by omega)]; exact d1
              · rw [s3 _ _ (by omega), zh _ (by omega)]; exact u5
            unfold f_X4_tellLine f_X4_tellStreet
            simp (disch := omega) only [gq_lit, Bool.false_eq_true, gq_leT, gq_leF, gq_ltT, gq_ltF, gq_eqT, gq_eqF, if_true, if_false]
            simp (disch := omega) only [gq_lte, d0, d1, d2, gq_add, s1, gq_bd, q61.1, q61.2, e25]
          · show νz.1 216 j = gq_I (if 31 + v0 ≤ j ∧ (j : Int) ≤ 31 + v1 then v2 else w j)
            by_cases j0 : 31 + v0 ≤ j ∧ (j : Int) ≤ 31 + v1
            · rw [if_pos j0, show j = 31 + (j - 31) by omega]
              exact t3 _ (by omega) (by omega)
            · rw [if_neg j0, t4 _ (by omega), zm]; exact u2 j hj
          · show (if 31 + v0 ≤ ((2 : Nat) : Int) ∧ ((2 : Nat) : Int) ≤ 31 + v1 then v2 else w 2) = fu
            rw [if_neg (by omega)]; exact u3
          · rw [gq_uI1, if_pos ⟨rfl, rfl⟩]
          · rw [gq_uI1, if_neg (by omega), s3 _ _ (by omega), zh _ (by omega)]; exact u6
          · rw [fz _ _ (by omega)]; exact gm3
          · rw [fz _ _ (by omega)]; exact go3
          · rw [gq_uI1, if_neg (by omega), s3 _ _ (by omega), zz _ _ (by omega) (by omega)]
          · rw [gq_uI1, if_neg (by omega), s3 _ _ (by omega), zz _ _ (by omega) (by omega)]
          · rw [gq_uI1, if_neg (by omega), s3 _ _ (by omega)]
      · left
        intro K
        obtain ⟨μs, s1, s2, s3, s4, s5⟩ := gp_noC (i := 2) ok hl c13 hk2 r17 (by omega)
        have r0 : (gx_uI ν2 206 16 (gq_I q2)).1 217 0 = gq_I v0 := by rw [gq_uI1, if_neg (by omega), c18 _ _ (by omega) (by omega)]; exact c04'
        have r1 : (gx_uI ν2 206 16 (gq_I q2)).1 217 1 = gq_I v1 := by rw [gq_uI1, if_neg (by omega)]; exact c14'
        obtain ⟨νs, es, fs, fs2⟩ : ∃ νs, Jj false (gx_uI ν2 206 16 (gq_I q2)) = some (false, νs) ∧ (∀ a j, ¬ a = 216 → νs.1 a j = (gx_uI ν2 206 16 (gq_I q2)).1 a j) ∧ νs.2 = ν2.2 := by
          refine ⟨_, ?_, fun a j g => rfl, rfl⟩
          rw [eJ]
          simp only [Bool.false_eq_true, if_false]
          rw [r0, gp_fillN (by omega)]
          rfl
        refine ⟨μs, νs, q2, ?_, ?_, ⟨by omega, s2, s3, ?_⟩, ⟨gq_ln_w xl1 fun j => ?_, gq_ln_w xl2 fun j => ?_⟩, gp_rd2 (by rw [fs _ _ (by omega)]; exact r0) (by rw [fs _ _ (by omega)]; exact r1) (by omega) (by omega), ⟨fun a j g => ?_, ?_⟩, ⟨fun a j g => ?_, fun a j g => ?_⟩⟩
        · exact (cl K).trans ((c01 K 3999).trans ((c11 K 3998).trans (s1 K 3997)))
        · rw [ml]
          simp only [c02, c04', c12, c14', gp_noM c13 hk2, gq_bd, if_true, Bool.false_eq_true, if_false]
          rw [es]
          rfl
        · rw [fs _ _ (by omega), gq_uI1, if_pos ⟨rfl, rfl⟩]
        · rw [s4 _ _ (by omega) (by omega), c17 _ _ (by omega) (by omega) (by omega), c07 _ _ (by omega) (by omega) (by omega), fμ _ _ (by omega)]
        · rw [s4 _ _ (by omega) (by omega), c17 _ _ (by omega) (by omega) (by omega), c07 _ _ (by omega) (by omega) (by omega), fμ _ _ (by omega)]
        · rw [s4 _ _ (by omega) (by omega), c17 _ _ (by omega) (by omega) (by omega), c07 _ _ (by omega) (by omega) (by omega), fμ _ _ (by omega)]
        · rw [s5, c17', c07', fμ2]
        · rw [fs _ _ (by omega), gq_uI1, if_neg (by omega), c18 _ _ (by omega) (by omega), c08 _ _ (by omega) (by omega), n5 _ _ (by omega) trivial]
        · rw [fs2, c18' _ _ (by omega), c08' _ _ (by omega), n6 _ _ (by omega)]
    · left
      intro K
      obtain ⟨μs, s1, s2, s3, s4, s5⟩ := gp_noC (i := 1) ok hl c03 hk1 r17 (by omega)
      have r0 : (gx_uI ν1 206 16 (gq_I q1)).1 217 0 = gq_I v0 := by rw [gq_uI1, if_neg (by omega)]; exact c04'
      have r1 : (gx_uI ν1 206 16 (gq_I q1)).1 217 1 = gq_I rb := by rw [gq_uI1, if_neg (by omega), c08 _ _ (by omega) (by omega), n5 _ _ (by omega) trivial]; exact hrb
      obtain ⟨νs, es, fs, fs2⟩ : ∃ νs, Jj false (gx_uI ν1 206 16 (gq_I q1)) = some (false, νs) ∧ (∀ a j, ¬ a = 216 → νs.1 a j = (gx_uI ν1 206 16 (gq_I q1)).1 a j) ∧ νs.2 = ν1.2 := by
        refine ⟨_, ?_, fun a j g => rfl, rfl⟩
        rw [eJ]
        simp only [Bool.false_eq_true, if_false]
        rw [r0, gp_fillN (by omega)]
        rfl
      refine ⟨μs, νs, q1, ?_, ?_, ⟨by omega, s2, s3, ?_⟩, ⟨gq_ln_w xl1 fun j => ?_, gq_ln_w xl2 fun j => ?_⟩, gp_rd2 (by rw [fs _ _ (by omega)]; exact r0) (by rw [fs _ _ (by omega)]; exact r1) (by omega) (by omega), ⟨fun a j g => ?_, ?_⟩, ⟨fun a j g => ?_, fun a j g => ?_⟩⟩
      · exact (cl K).trans ((c01 K 3999).trans (s1 K 3998))
      · rw [ml]
        simp only [c02, c04', gp_noMM c03 hk1, gq_bd, if_true, Bool.false_eq_true, if_false]
        rw [es]
        rfl
      · rw [fs _ _ (by omega), gq_uI1, if_pos ⟨rfl, rfl⟩]
      · rw [s4 _ _ (by omega) (by omega), c07 _ _ (by omega) (by omega) (by omega), fμ _ _ (by omega)]
      · rw [s4 _ _ (by omega) (by omega), c07 _ _ (by omega) (by omega) (by omega), fμ _ _ (by omega)]
      · rw [s4 _ _ (by omega) (by omega), c07 _ _ (by omega) (by omega) (by omega), fμ _ _ (by omega)]
      · rw [s5, c07', fμ2]
      · rw [fs _ _ (by omega), gq_uI1, if_neg (by omega), c08 _ _ (by omega) (by omega), n5 _ _ (by omega) trivial]
      · rw [fs2, c08' _ _ (by omega), n6 _ _ (by omega)]
  · left
    intro K
    obtain ⟨μs, s1, s2, s3, s4, s5⟩ := gp_noC (i := 0) ok hl n2 hk0 r17 (by omega)
    have r0 : (gx_uI ν0 206 16 (gq_I q0)).1 217 0 = gq_I ra := by rw [gq_uI1, if_neg (by omega), n5 _ _ (by omega) trivial]; exact hra
    have r1 : (gx_uI ν0 206 16 (gq_I q0)).1 217 1 = gq_I rb := by rw [gq_uI1, if_neg (by omega), n5 _ _ (by omega) trivial]; exact hrb
    obtain ⟨νs, es, fs, fs2⟩ : ∃ νs, Jj false (gx_uI ν0 206 16 (gq_I q0)) = some (false, νs) ∧ (∀ a j, ¬ a = 216 → νs.1 a j = (gx_uI ν0 206 16 (gq_I q0)).1 a j) ∧ νs.2 = ν0.2 := by
      refine ⟨_, ?_, fun a j g => rfl, rfl⟩
      rw [eJ]
      simp only [Bool.false_eq_true, if_false]
      rw [r0, gp_fillN (by omega)]
      rfl
    refine ⟨μs, νs, q0, ?_, ?_, ⟨by omega, s2, s3, ?_⟩, ⟨gq_ln_w xl1 fun j => ?_, gq_ln_w xl2 fun j => ?_⟩, gp_rd2 (by rw [fs _ _ (by omega)]; exact r0) (by rw [fs _ _ (by omega)]; exact r1) (by omega) (by omega), ⟨fun a j g => ?_, ?_⟩, ⟨fun a j g => ?_, fun a j g => ?_⟩⟩
    · exact (cl K).trans (s1 K 3999)
    · rw [ml]
      simp only [gp_noMM n2 hk0, gq_bd, if_true, Bool.false_eq_true, if_false]
      rw [es]
      rfl
    · rw [fs _ _ (by omega), gq_uI1, if_pos ⟨rfl, rfl⟩]
    · rw [s4 _ _ (by omega) (by omega), fμ _ _ (by omega)]
    · rw [s4 _ _ (by omega) (by omega), fμ _ _ (by omega)]
    · rw [s4 _ _ (by omega) (by omega), fμ _ _ (by omega)]
    · rw [s5, fμ2]
    · rw [fs _ _ (by omega), gq_uI1, if_neg (by omega), n5 _ _ (by omega) trivial]
    · rw [fs2, n6 _ _ (by omega)]
set_option maxHeartbeats 8000000 in
theorem gp_LL_s4 : gp_LL 0 4 := by
  intro t len p q e v f pl fu μ ν ok hl hA hw hX hfu hg
  obtain ⟨x8, ⟨xl1, xl2⟩, ⟨⟨m0, hm0, hm0b⟩, o0, ho0, ho0b⟩, xr, xn, xc⟩ := hX
  obtain ⟨ra, rb, hra, hrb, hrab, hrbb⟩ := gp_rd_ex xr
  have tb := gt_tk_b hA.1
  have r17 : 4 < 17 := by omega
  have hsh : gt_sh 4 = 21 := rfl
  have hwl : gt_wl (gt_sh 4) = 3 := by rw [hsh]; rfl
  have mf : f_X4_mostFurther (gq_I (0 : Nat)) (gq_I (4 : Nat)) = gq_I 0 := by decide +kernel
  have cf := gp_cf0 (μ := μ) mf
  have hA' := hA
  obtain ⟨k0, q0, e0, v0, f0, pl0, ν0, n1, n2, n3, n4, n5', n6⟩ := gp_next ok hl hA' (by decide) (False)
  have n5 : ∀ a j, ¬ (a = 206 ∧ 10 ≤ j ∧ j ≤ 18 ∧ j ≠ 11) → True → ν0.1 a j = ν.1 a j := fun a j g1 _ => n5' a j g1
  obtain ⟨μ0, eμ⟩ : ∃ μ0, μ0 = μ := ⟨_, rfl⟩
  have n0 : gp_n3 False f q μ = μ := by unfold gp_n3; rw [if_neg (fun g => g.1)]
  have l0 : gp_l3 False f q ν = ν := by unfold gp_l3; rw [if_neg (fun g => g.1)]
  rw [n0, ← eμ] at n2
  rw [l0] at n1
  have fμ : ∀ a j, ¬ (a = 42 ∧ 6 ≤ j ∧ j ≤ 8) → μ0.1 a j = μ.1 a j := fun a j g => by rw [eμ]
  have fμ2 : μ0.2 = μ.2 := by rw [eμ]
  have y8 : μ0.1 42 8 = gq_I (fu : Nat) := by rw [eμ]; exact x8
  have g0 : ν0.1 206 23 = gq_I 1 := by rw [n5 _ _ (by omega) trivial]; exact hg
  have gm0 : ν0.1 206 21 = gq_I m0 := by rw [n5 _ _ (by omega) trivial]; exact hm0
  have go0 : ν0.1 206 22 = gq_I o0 := by rw [n5 _ _ (by omega) trivial]; exact ho0
  have tb0 := gt_tk_b n2.1
  obtain ⟨Jj, eJ⟩ : ∃ Jj : Bool → gx_M → Option (Bool × gx_M), Jj = (fun (j : Bool) (μ57 : gx_M) => gx_bd (f_X12_fill (gq_I 71) (μ57.1 217 1) (if j = true then μ57.1 217 2 else gq_I (-1)) (μ57.1 217 0) μ57) (fun (_ : Unit) (μ63 : gx_M) => some (j, μ63))) := ⟨_, rfl⟩
  have ml : f_X12_lineOf (gq_I (0 : Nat)) (gq_L (gt_kw 4)) (gq_I q) ν = gx_bd (gx_bd (f_X12_takeOne (gq_I (0 : Nat)) (gq_I 3) ν0) (fun (b0 : Bool) (μm0 : gx_M) => if b0 = true then gx_bd (f_X12_takeMinute (gq_I (1 : Nat)) (gq_I 0) μm0) (fun (b1 : Bool) (μm1 : gx_M) => if b1 = true then gx_bd (f_X12_takeMinute (gq_I (2 : Nat)) (μm1.1 217 1) μm1) (fun (b2 : Bool) (μm2 : gx_M) => if b2 = true then Jj true μm2 else Jj false μm2) else Jj false μm1) else Jj false μm0)) (fun (r5 : Bool) (μ6 : gx_M) => some (r5, μ6)) := by
    unfold f_X12_lineOf f_X12_streetLine
    rw [show gt_kw 4 = 6840691 by decide +kernel]
    simp (disch := omega) only [gq_lit, gq_neg, gq_Llit, gq_Leq, gq_lte, Bool.false_eq_true, gq_leT, gq_leF, gq_ltT, gq_ltF, gq_eqT, gq_eqF, if_true, if_false, Int.reduceEq, gq_bd, n1, gq_biT, gq_biF]
    rw [eJ]
    first | rfl | (refine congrArg (fun T => gx_bd T _) (congrArg _ (funext fun b => funext fun x => ?_)); cases b <;> rfl)
  have cl : ∀ K, gp_cl 0 4 K μ = L_X4_readLine_48 (gq_I (4 : Nat)) K 4000 (gq_I 0) μ0 := fun K => by
    unfold gp_cl
    rw [cf, gq_bd, eμ]
  by_cases hk0 : k0 = 2
  · obtain ⟨k1, q1, e1, v1, f1, pl1, μ1, ν1, c01, c02, c03, ⟨c04, c04', c04b⟩, c05, ⟨c06, gm1, go1⟩, ⟨c07, c07'⟩, c08, c08'⟩ := gp_sO (i := 0) (i' := 0) (r := 4) (s := 112) (lo := 0) (hi := 3) ok hl n2 hk0 r17 (by omega) (by rw [hsh]; decide +kernel) (by omega) (by omega) (by decide +kernel) (by decide +kernel) (by omega) g0 gm0 go0 ho0b
    have tb1 := gt_tk_b c03.1
    obtain ⟨w1, g1⟩ : ∃ w : Int, ν1.1 206 23 = gq_I w := by
      rw [c06]
      by_cases gg : 0 ≤ v0 ∧ v0 ≤ 3
      · rw [if_pos gg]; exact ⟨_, rfl⟩
      · rw [if_neg gg]; exact ⟨0, rfl⟩
    have ob1 : -1 ≤ (if o0 ≤ v0 then v0 else o0) ∧ (if o0 ≤ v0 then v0 else o0) ≤ 99 := by
      have h1 := ho0b
      split <;> omega
    obtain ⟨oo1, eo1⟩ : ∃ oo : Int, oo = (if o0 ≤ v0 then v0 else o0) := ⟨_, rfl⟩
    rw [← eo1] at go1 ob1
    by_cases hk1 : k1 = 2
    · obtain ⟨k2, q2, e2, v2, f2, pl2, μ2, ν2, c11, c12, c13, ⟨c14, c14', c14b⟩, c15, ⟨c16, gm2, go2⟩, ⟨c17, c17'⟩, c18, c18'⟩ := gp_sM (i := 1) (i' := 1) (r := 4) (s := 109) (lo0 := 0) (lo := 0) ok hl c03 hk1 r17 (by omega) (by rw [hsh]; decide +kernel) (by omega) (by omega) (by decide +kernel) (by decide +kernel) (Or.inl ⟨by omega, rfl⟩) g1 gm1 hm0b go1
      have tb2 := gt_tk_b c13.1
      obtain ⟨w2, g2⟩ : ∃ w : Int, ν2.1 206 23 = gq_I w := by
        rw [c16]
        by_cases gg : 0 ≤ v1 ∧ v1 ≤ 39
        · rw [if_pos gg]; exact ⟨_, rfl⟩
        · rw [if_neg gg]; exact ⟨0, rfl⟩
      have mb2 : -1 ≤ (if m0 ≤ v1 then v1 else m0) ∧ (if m0 ≤ v1 then v1 else m0) ≤ 99 := by
        have h1 := hm0b
        split <;> omega
      obtain ⟨mm2, em2⟩ : ∃ mm : Int, mm = (if m0 ≤ v1 then v1 else m0) := ⟨_, rfl⟩
      rw [← em2] at gm2 mb2
      by_cases hk2 : k2 = 2
      · obtain ⟨k3, q3, e3, v3, f3, pl3, μ3, ν3, c21, c22, c23, ⟨c24, c24', c24b⟩, c25, ⟨c26, gm3, go3⟩, ⟨c27, c27'⟩, c28, c28'⟩ := gp_sM (i := 2) (i' := 2) (r := 4) (s := 116) (lo0 := 0) (lo := v1) ok hl c13 hk2 r17 (by omega) (by rw [hsh]; decide +kernel) (by omega) (by omega) (by decide +kernel) (by decide +kernel) (Or.inr ⟨rfl, by omega, c14, rfl, c14b.1, c14b.2⟩) g2 gm2 mb2 go2
        have tb3 := gt_tk_b c23.1
        obtain ⟨w3, g3⟩ : ∃ w : Int, ν3.1 206 23 = gq_I w := by
          rw [c26]
          by_cases gg : v1 ≤ v2 ∧ v2 ≤ 39
          · rw [if_pos gg]; exact ⟨_, rfl⟩
          · rw [if_neg gg]; exact ⟨0, rfl⟩
        have mb3 : -1 ≤ (if mm2 ≤ v2 then v2 else mm2) ∧ (if mm2 ≤ v2 then v2 else mm2) ≤ 99 := by
          have h1 := mb2
          split <;> omega
        obtain ⟨mm3, em3⟩ : ∃ mm : Int, mm = (if mm2 ≤ v2 then v2 else mm2) := ⟨_, rfl⟩
        rw [← em3] at gm3 mb3
        have gd : ¬ ν3.1 206 23 = gq_I 0 → (0 ≤ v0 ∧ v0 ≤ 3) ∧ (0 ≤ v1 ∧ v1 ≤ 39) ∧ (v1 ≤ v2 ∧ v2 ≤ 39) := fun gz => by
          have h2 : v1 ≤ v2 ∧ v2 ≤ 39 := by
            by_cases hh : v1 ≤ v2 ∧ v2 ≤ 39
            · exact hh
            · rw [c26, if_neg hh] at gz
              exact absurd rfl gz
          rw [c26, if_pos h2, ← g2] at gz
          have h1 : 0 ≤ v1 ∧ v1 ≤ 39 := by
            by_cases hh : 0 ≤ v1 ∧ v1 ≤ 39
            · exact hh
            · rw [c16, if_neg hh] at gz
              exact absurd rfl gz
          rw [c16, if_pos h1, ← g1] at gz
          have h0 : 0 ≤ v0 ∧ v0 ≤ 3 := by
            by_cases hh : 0 ≤ v0 ∧ v0 ≤ 3
            · exact hh
            · rw [c06, if_neg hh] at gz
              exact absurd rfl gz
          rw [c06, if_pos h0] at gz
          exact ⟨h0, h1, h2⟩
        have gd' : f3 = 0 → ¬ ν3.1 206 23 = gq_I 0 := fun hf gz => by
          have h2 := c25.mp hf
          have h1 := c15.mp h2.1
          have h0 := c05.mp h1.1
          rw [c26, if_pos h2.2, ← g2] at gz
          rw [c16, if_pos h1.2, ← g1] at gz
          rw [c06, if_pos h0.2] at gz
          rw [gq_eq (by omega)] at gz
          omega
        have y0 : ν3.1 217 1 = gq_I v1 := (by rw [c28 _ _ (by omega) (by omega)]; exact c14')
        have y1 : ν3.1 217 2 = gq_I v2 := c24'
        have y2 : ν3.1 217 0 = gq_I v0 := (by rw [c28 _ _ (by omega) (by omega), c18 _ _ (by omega) (by omega)]; exact c04')
        obtain ⟨νz, tz, tf, tf2, tf3, tn2, tc⟩ : ∃ νz, Jj true ν3 = some (true, νz) ∧ (∀ a j, ¬ a = 216 → νz.1 a j = ν3.1 a j) ∧ νz.2 206 15 = ν3.2 206 15 ∧ νz.2 = ν3.2 ∧ νz.1 216 2 = ν3.1 216 2 ∧ (f3 = 0 → (∀ j : Nat, v1 ≤ j → (j : Int) ≤ v2 → νz.1 216 (71 + j) = gq_I v0) ∧ ∀ j, ¬ (71 + v1.toNat ≤ j ∧ j ≤ 71 + v2.toNat) → νz.1 216 j = ν3.1 216 j) := by
          by_cases gz : ν3.1 206 23 = gq_I 0
          · refine ⟨ν3, ?_, fun _ _ _ => rfl, rfl, rfl, rfl, fun h => absurd gz (gd' h)⟩
            rw [eJ]
            simp only [if_true]
            rw [y0, gp_fill0 gz]
            rfl
          · have hh := gd gz
            obtain ⟨νz, z1, z2, z3, z4⟩ := gp_fill (a := 71) (x := v1) (y := v2) (v := gq_I v0) (ν := ν3) (by omega) (by omega) (by omega) gz
            refine ⟨νz, ?_, fun a j g => z3 _ _ (by omega), by rw [z4], z4, z3 _ _ (by omega), fun _ => ⟨z2, fun j g => z3 _ _ (by omega)⟩⟩
            rw [eJ]
            simp only [if_true]
            rw [y0, y1, y2, show gq_I 71 = gq_I ((71 : Nat) : Int) from rfl, z1]
            rfl
        have t2 : gp_CN 0 νz fu := ⟨fun _ => by rw [tn2, c28 _ _ (by omega) (by omega), c18 _ _ (by omega) (by omega), c08 _ _ (by omega) (by omega), n5 _ _ (by omega) trivial]; exact xn.1 rfl, fun g => absurd g (by decide), fun g => absurd g (by decide)⟩
        have fz : ∀ a j, ¬ a = 216 → νz.1 a j = ν3.1 a j := tf
        right
        refine ⟨k3, q3, e3, e2, v3, f3, pl3, fu, μ3, νz, fun K => ?_, ?_, gp_R_m c23 (fun a j g => fz _ _ (by omega)) tf2, by omega, ?_, ⟨gq_ln_w xl1 fun j => ?_, gq_ln_w xl2 fun j => ?_⟩, ⟨⟨_, by rw [fz _ _ (by omega)]; exact gm3, mb3⟩, _, by rw [fz _ _ (by omega)]; exact go3, ob1⟩, gp_rd2 (by rw [fz _ _ (by omega)]; exact (by rw [c28 _ _ (by omega) (by omega), c18 _ _ (by omega) (by omega)]; exact c04')) (by rw [fz _ _ (by omega)]; exact (by rw [c28 _ _ (by omega) (by omega)]; exact c14')) (by omega) (by omega), t2, ⟨fun a j g => ?_, ?_⟩, ⟨fun a j g => ?_, fun a j g => ?_⟩, fun hf μ4 h4 => ?_⟩
        · exact (cl K).trans ((c01 K 3999).trans ((c11 K 3998).trans ((c21 K 3997).trans (gp_exit r17 (by omega)))))
        · rw [ml]
          simp only [c02, c04', c12, c14', c22, c24', gq_bd, if_true]
          rw [tz]
          rfl
        · rw [c27 _ _ (by omega) (by omega) (by omega), c17 _ _ (by omega) (by omega) (by omega), c07 _ _ (by omega) (by omega) (by omega)]; exact y8
        · rw [c27 _ _ (by omega) (by omega) (by omega), c17 _ _ (by omega) (by omega) (by omega), c07 _ _ (by omega) (by omega) (by omega), fμ _ _ (by omega)]
        · rw [c27 _ _ (by omega) (by omega) (by omega), c17 _ _ (by omega) (by omega) (by omega), c07 _ _ (by omega) (by omega) (by omega), fμ _ _ (by omega)]
        · rw [c27 _ _ (by omega) (by omega) (by omega), c17 _ _ (by omega) (by omega) (by omega), c07 _ _ (by omega) (by omega) (by omega), fμ _ _ (by omega)]
        · rw [c27', c17', c07', fμ2]
        · rw [fz _ _ (by omega), c28 _ _ (by omega) (by omega), c18 _ _ (by omega) (by omega), c08 _ _ (by omega) (by omega), n5 _ _ (by omega) trivial]
        · rw [tf3, c28' _ _ (by omega), c18' _ _ (by omega), c08' _ _ (by omega), n6 _ _ (by omega)]
        · have hh2 := c25.mp hf
          have hh1 := c15.mp hh2.1
          have hh0 := c05.mp hh1.1
          obtain ⟨hff, ho⟩ := n3.mp hh0.1
          have zz : ∀ a j, 45 ≤ a → a ≤ 60 → μ4.1 a j = μ.1 a j := fun a j h1 h2 => by
            rw [h4 _ _ (by omega), c27 _ _ (by omega) (by omega) (by omega), c17 _ _ (by omega) (by omega) (by omega), c07 _ _ (by omega) (by omega) (by omega), fμ _ _ (by omega)]
          have zh : ∀ j, 9 ≤ j → μ4.1 42 j = μ.1 42 j := fun j h1 => by
            rw [h4 _ _ (by omega), c27 _ _ (by omega) (by omega) (by omega), c17 _ _ (by omega) (by omega) (by omega), c07 _ _ (by omega) (by omega) (by omega), fμ _ _ (by omega)]
          have zm : ∀ j, ν3.1 216 j = ν.1 216 j := fun j => by
            rw [c28 _ _ (by omega) (by omega), c18 _ _ (by omega) (by omega), c08 _ _ (by omega) (by omega), n5 _ _ (by omega) trivial]
          have d0 : μ4.1 61 0 = gq_I v0 := by rw [h4 _ _ (by omega), c27 _ _ (by omega) (by omega) (by omega), c17 _ _ (by omega) (by omega) (by omega)]; exact c04
          have d1 : μ4.1 61 1 = gq_I v1 := by rw [h4 _ _ (by omega), c27 _ _ (by omega) (by omega) (by omega)]; exact c14
          have d2 : μ4.1 61 2 = gq_I v2 := by rw [h4 _ _ (by omega)]; exact c24
          obtain ⟨w, m, o, u1, u2, u3, u4, u5, u6, u7, u8⟩ := (xc hff).1 rfl
          have u9 := u4.2.2.2.2.2.2.2
          have em0 : m = m0 := gp_inj2 u7 hm0 (by omega)
          have eo0 : o = o0 := gp_inj2 u8 ho0 (by omega)
          subst em0 eo0
          have uc : gq_cS μ4 45 w := gq_cS_sm u1 fun i hi => by funext j; exact zz _ _ (by omega) (by omega)
          obtain ⟨t3, t4⟩ := tc hf
          have em : (if m < v2 then v2 else m) = mm3 := by
            rw [em3, em2]
            repeat' split
            all_goals omega
          have e25 : (if gq_I m < gq_I v2 then gq_I v2 else gq_I m) = gq_I mm3 := by
            rw [← em]
            exact gp_mx (by omega)
          have mb4 : m ≤ mm3 ∧ mm3 ≤ 39 ∧ v2 ≤ mm3 := by
            rw [em3, em2]
            repeat' split
            all_goals omega
          have eo : (if o < v0 then v0 else o) = oo1 := by
            rw [eo1]
            repeat' split
            all_goals omega
          have e26 : (if gq_I o < gq_I v0 then gq_I v0 else gq_I o) = gq_I oo1 := by
            rw [← eo]
            exact gp_mx (by omega)
          have ob4 : o ≤ oo1 ∧ oo1 ≤ 3 ∧ v0 ≤ oo1 := by
            rw [eo1]
            repeat' split
            all_goals omega
          obtain ⟨μ5, s1, s2, s3, s4⟩ := gp_jf (a := 48) (x := v1) (y := v2) (v := gq_I v0) (μ := μ4) (by omega)
          have w26 := u4.2.2.1.2
          refine ⟨gx_uI (gx_uI μ5 42 10 (gq_I oo1)) 42 9 (gq_I mm3), ?_, ⟨fun _ => ⟨fun j => if 71 + v1 ≤ j ∧ (j : Int) ≤ 71 + v2 then v0 else w j, mm3, oo1, gp_cS_4 uc (by omega) (fun j h1 h2 => by rw [gq_uI1, if_neg (by omega), gq_uI1, if_neg (by omega)]; exact s2 j h1 h2) (fun a j h1 h2 h3 => by rw [gq_uI1, if_neg (by omega), gq_uI1, if_neg (by omega), s3 _ _ h3]) w26, fun j hj => ?_, ?_, gp_pS_4 (gp_pS_up u4 (by omega) (by omega)) (by omega) (by omega), ?_, ?_, ?_, ?_⟩, fun g => absurd g (by decide), fun g => absurd g (by decide), fun g => absurd g (by decide)⟩, ⟨gq_ln_w xl1 fun j => ?_, gq_ln_w xl2 fun j => ?_⟩, fun a j g1 g2 => ?_, by rw [gq_uI2, gq_uI2, s4]⟩
          · have q61 : μ5.1 61 0 = gq_I v0 ∧ μ5.1 42 10 = gq_I o ∧ (gx_uI μ5 42 10 (gq_I oo1)).1 61 2 = gq_I v2 ∧ (gx_uI μ5 42 10 (gq_I oo1)).1 42 9 = gq_I m := by
              refine ⟨?_, ?_, ?_, ?_⟩
              · rw [s3 _ _ (by omega)]; exact d0
              · rw [s3 _ _ (by omega), zh _ (by omega)]; exact u6
              · rw [gq_uI1, if_neg (by omega), s3 _ _ (by omega)]; exact d2
              · rw [gq_uI1, if_neg (by omega), s3 _ _ (by omega), zh _ (by omega)]; exact u5
            unfold f_X4_tellLine f_X4_tellStreet
            simp (disch := omega) only [gq_lit, Bool.false_eq_true, gq_leT, gq_leF, gq_ltT, gq_ltF, gq_eqT, gq_eqF, if_true, if_false]
            simp (disch := omega) only [gq_lte, d0, d1, d2, gq_add, s1, gq_bd, q61.1, q61.2.1, e26, q61.2.2.1, q61.2.2.2, e25]
          · show νz.1 216 j = gq_I (if 71 + v1 ≤ j ∧ (j : Int) ≤ 71 + v2 then v0 else w j)
            by_cases j0 : 71 + v1 ≤ j ∧ (j : Int) ≤ 71 + v2
            · rw [if_pos j0, show j = 71 + (j - 71) by omega]
              exact t3 _ (by omega) (by omega)
            · rw [if_neg j0, t4 _ (by omega), zm]; exact u2 j hj
          · show (if 71 + v1 ≤ ((2 : Nat) : Int) ∧ ((2 : Nat) : Int) ≤ 71 + v2 then v0 else w 2) = fu
            rw [if_neg (by omega)]; exact u3
          · rw [gq_uI1, if_pos ⟨rfl, rfl⟩]
          · rw [gq_uI1, if_neg (by omega), gq_uI1, if_pos ⟨rfl, rfl⟩]
          · rw [fz _ _ (by omega)]; exact gm3
          · rw [fz _ _ (by omega)]; exact go3
          · rw [gq_uI1, if_neg (by omega), gq_uI1, if_neg (by omega), s3 _ _ (by omega), zz _ _ (by omega) (by omega)]
          · rw [gq_uI1, if_neg (by omega), gq_uI1, if_neg (by omega), s3 _ _ (by omega), zz _ _ (by omega) (by omega)]
          · rw [gq_uI1, if_neg (by omega), gq_uI1, if_neg (by omega), s3 _ _ (by omega)]
      · left
        intro K
        obtain ⟨μs, s1, s2, s3, s4, s5⟩ := gp_noC (i := 2) ok hl c13 hk2 r17 (by omega)
        have r0 : (gx_uI ν2 206 16 (gq_I q2)).1 217 0 = gq_I v0 := by rw [gq_uI1, if_neg (by omega), c18 _ _ (by omega) (by omega)]; exact c04'
        have r1 : (gx_uI ν2 206 16 (gq_I q2)).1 217 1 = gq_I v1 := by rw [gq_uI1, if_neg (by omega)]; exact c14'
        obtain ⟨νs, es, fs, fs2⟩ : ∃ νs, Jj false (gx_uI ν2 206 16 (gq_I q2)) = some (false, νs) ∧ (∀ a j, ¬ a = 216 → νs.1 a j = (gx_uI ν2 206 16 (gq_I q2)).1 a j) ∧ νs.2 = ν2.2 := by
          refine ⟨_, ?_, fun a j g => rfl, rfl⟩
          rw [eJ]
          simp only [Bool.false_eq_true, if_false]
          rw [r1, gp_fillN (by omega)]
          rfl
        refine ⟨μs, νs, q2, ?_, ?_, ⟨by omega, s2, s3, ?_⟩, ⟨gq_ln_w xl1 fun j => ?_, gq_ln_w xl2 fun j => ?_⟩, gp_rd2 (by rw [fs _ _ (by omega)]; exact r0) (by rw [fs _ _ (by omega)]; exact r1) (by omega) (by omega), ⟨fun a j g => ?_, ?_⟩, ⟨fun a j g => ?_, fun a j g => ?_⟩⟩
        · exact (cl K).trans ((c01 K 3999).trans ((c11 K 3998).trans (s1 K 3997)))
        · rw [ml]
          simp only [c02, c04', c12, c14', gp_noMM c13 hk2, gq_bd, if_true, Bool.false_eq_true, if_false]
          rw [es]
          rfl
        · rw [fs _ _ (by omega), gq_uI1, if_pos ⟨rfl, rfl⟩]
        · rw [s4 _ _ (by omega) (by omega), c17 _ _ (by omega) (by omega) (by omega), c07 _ _ (by omega) (by omega) (by omega), fμ _ _ (by omega)]
        · rw [s4 _ _ (by omega) (by omega), c17 _ _ (by omega) (by omega) (by omega), c07 _ _ (by omega) (by omega) (by omega), fμ _ _ (by omega)]
        · rw [s4 _ _ (by omega) (by omega), c17 _ _ (by omega) (by omega) (by omega), c07 _ _ (by omega) (by omega) (by omega), fμ _ _ (by omega)]
        · rw [s5, c17', c07', fμ2]
        · rw [fs _ _ (by omega), gq_uI1, if_neg (by omega), c18 _ _ (by omega) (by omega), c08 _ _ (by omega) (by omega), n5 _ _ (by omega) trivial]
        · rw [fs2, c18' _ _ (by omega), c08' _ _ (by omega), n6 _ _ (by omega)]
    · left
      intro K
      obtain ⟨μs, s1, s2, s3, s4, s5⟩ := gp_noC (i := 1) ok hl c03 hk1 r17 (by omega)
      have r0 : (gx_uI ν1 206 16 (gq_I q1)).1 217 0 = gq_I v0 := by rw [gq_uI1, if_neg (by omega)]; exact c04'
      have r1 : (gx_uI ν1 206 16 (gq_I q1)).1 217 1 = gq_I rb := by rw [gq_uI1, if_neg (by omega), c08 _ _ (by omega) (by omega), n5 _ _ (by omega) trivial]; exact hrb
      obtain ⟨νs, es, fs, fs2⟩ : ∃ νs, Jj false (gx_uI ν1 206 16 (gq_I q1)) = some (false, νs) ∧ (∀ a j, ¬ a = 216 → νs.1 a j = (gx_uI ν1 206 16 (gq_I q1)).1 a j) ∧ νs.2 = ν1.2 := by
        refine ⟨_, ?_, fun a j g => rfl, rfl⟩
        rw [eJ]
        simp only [Bool.false_eq_true, if_false]
        rw [r1, gp_fillN (by omega)]
        rfl
      refine ⟨μs, νs, q1, ?_, ?_, ⟨by omega, s2, s3, ?_⟩, ⟨gq_ln_w xl1 fun j => ?_, gq_ln_w xl2 fun j => ?_⟩, gp_rd2 (by rw [fs _ _ (by omega)]; exact r0) (by rw [fs _ _ (by omega)]; exact r1) (by omega) (by omega), ⟨fun a j g => ?_, ?_⟩, ⟨fun a j g => ?_, fun a j g => ?_⟩⟩
      · exact (cl K).trans ((c01 K 3999).trans (s1 K 3998))
      · rw [ml]
        simp only [c02, c04', gp_noMM c03 hk1, gq_bd, if_true, Bool.false_eq_true, if_false]
        rw [es]
        rfl
      · rw [fs _ _ (by omega), gq_uI1, if_pos ⟨rfl, rfl⟩]
      · rw [s4 _ _ (by omega) (by omega), c07 _ _ (by omega) (by omega) (by omega), fμ _ _ (by omega)]
      · rw [s4 _ _ (by omega) (by omega), c07 _ _ (by omega) (by omega) (by omega), fμ _ _ (by omega)]
      · rw [s4 _ _ (by omega) (by omega), c07 _ _ (by omega) (by omega) (by omega), fμ _ _ (by omega)]
      · rw [s5, c07', fμ2]
      · rw [fs _ _ (by omega), gq_uI1, if_neg (by omega), c08 _ _ (by omega) (by omega), n5 _ _ (by omega) trivial]
      · rw [fs2, c08' _ _ (by omega), n6 _ _ (by omega)]
  · left
    intro K
    obtain ⟨μs, s1, s2, s3, s4, s5⟩ := gp_noC (i := 0) ok hl n2 hk0 r17 (by omega)
    have r0 : (gx_uI ν0 206 16 (gq_I q0)).1 217 0 = gq_I ra := by rw [gq_uI1, if_neg (by omega), n5 _ _ (by omega) trivial]; exact hra
    have r1 : (gx_uI ν0 206 16 (gq_I q0)).1 217 1 = gq_I rb := by rw [gq_uI1, if_neg (by omega), n5 _ _ (by omega) trivial]; exact hrb
    obtain ⟨νs, es, fs, fs2⟩ : ∃ νs, Jj false (gx_uI ν0 206 16 (gq_I q0)) = some (false, νs) ∧ (∀ a j, ¬ a = 216 → νs.1 a j = (gx_uI ν0 206 16 (gq_I q0)).1 a j) ∧ νs.2 = ν0.2 := by
      refine ⟨_, ?_, fun a j g => rfl, rfl⟩
      rw [eJ]
      simp only [Bool.false_eq_true, if_false]
      rw [r1, gp_fillN (by omega)]
      rfl
    refine ⟨μs, νs, q0, ?_, ?_, ⟨by omega, s2, s3, ?_⟩, ⟨gq_ln_w xl1 fun j => ?_, gq_ln_w xl2 fun j => ?_⟩, gp_rd2 (by rw [fs _ _ (by omega)]; exact r0) (by rw [fs _ _ (by omega)]; exact r1) (by omega) (by omega), ⟨fun a j g => ?_, ?_⟩, ⟨fun a j g => ?_, fun a j g => ?_⟩⟩
    · exact (cl K).trans (s1 K 3999)
    · rw [ml]
      simp only [gp_noMO n2 hk0, gq_bd, if_true, Bool.false_eq_true, if_false]
      rw [es]
      rfl
    · rw [fs _ _ (by omega), gq_uI1, if_pos ⟨rfl, rfl⟩]
    · rw [s4 _ _ (by omega) (by omega), fμ _ _ (by omega)]
    · rw [s4 _ _ (by omega) (by omega), fμ _ _ (by omega)]
    · rw [s4 _ _ (by omega) (by omega), fμ _ _ (by omega)]
    · rw [s5, fμ2]
    · rw [fs _ _ (by omega), gq_uI1, if_neg (by omega), n5 _ _ (by omega) trivial]
    · rw [fs2, n6 _ _ (by omega)]
