/-! lines of swaps -/
theorem gp_mx {a b : Int} (h : (-2147483648 ≤ a ∧ a < 2147483648) ∧ -2147483648 ≤ b ∧ b < 2147483648) : (if gq_I a < gq_I b then gq_I b else gq_I a) = gq_I (if a < b then b else a) := by
  simp (disch := omega) only [gq_lt]
  split <;> rfl
set_option maxHeartbeats 8000000 in
theorem gp_LL_w15 : gp_LL 3 15 := by
  intro t len p q e v f pl fu μ ν ok hl hA hw hX hfu hg
  obtain ⟨x8, ⟨xl1, xl2⟩, ⟨⟨m0, hm0, hm0b⟩, o0, ho0, ho0b⟩, xr, xn, xc⟩ := hX
  obtain ⟨ra, rb, hra, hrb, hrab, hrbb⟩ := gp_rd_ex xr
  have tb := gt_tk_b hA.1
  have r17 : 15 < 17 := by omega
  have hsh : gt_sh 15 = 25 := rfl
  have hwl : gt_wl (gt_sh 15) = 1 := by rw [hsh]; rfl
  have mf : f_X4_mostFurther (gq_I (3 : Nat)) (gq_I (15 : Nat)) = gq_I 0 := by decide +kernel
  have cf := gp_cf0 (μ := μ) mf
  have hA' := hA
  obtain ⟨k0, q0, e0, v0, f0, pl0, ν0, n1, n2, n3, n4, n5', n6⟩ := gp_next ok hl hA' (by decide) (False)
  have n5 : ∀ a j, ¬ (a = 206 ∧ 10 ≤ j ∧ j ≤ 18 ∧ j ≠ 11) → True → ν0.1 a j = ν.1 a j := fun a j g1 _ => n5' a j g1
  obtain ⟨μ0, eμ⟩ : ∃ μ0, μ0 = μ := ⟨_, rfl⟩
  have n0 : gp_n3 False f q μ = μ := by unfold gp_n3; rw [if_neg (fun g => g.1)]
  have l0 : gp_l3 False f q ν = ν := by unfold gp_l3; rw [if_neg (fun g => g.1)]
  rw [n0, ← eμ] at n2
  rw [l0] at n1
  have fμ : ∀ a j, ¬ (a = 42 ∧ 6 ≤ j ∧ j ≤ 8) → μ0.1 a j = μ.1 a j := fun a j g => by rw [eμ]
  have fμ2 : μ0.2 = μ.2 := by rw [eμ]
  have y8 : μ0.1 42 8 = gq_I (fu : Nat) := by rw [eμ]; exact x8
  have g0 : ν0.1 206 23 = gq_I 1 := by rw [n5 _ _ (by omega) trivial]; exact hg
  have gm0 : ν0.1 206 21 = gq_I m0 := by rw [n5 _ _ (by omega) trivial]; exact hm0
  have go0 : ν0.1 206 22 = gq_I o0 := by rw [n5 _ _ (by omega) trivial]; exact ho0
  have tb0 := gt_tk_b n2.1
  obtain ⟨Jj, eJ⟩ : ∃ Jj : Bool → gx_M → Option (Bool × gx_M), Jj = (fun (j : Bool) (μ23 : gx_M) => if j = true then some (true, gx_uI μ23 216 0 (μ23.1 217 0)) else some (false, μ23)) := ⟨_, rfl⟩
  have ml : f_X12_lineOf (gq_I (3 : Nat)) (gq_L (gt_kw 15)) (gq_I q) ν = gx_bd (gx_bd (f_X12_take (gq_I (0 : Nat)) (gq_I 2) (gq_I 6) ν0) (fun (b0 : Bool) (μm0 : gx_M) => Jj b0 μm0)) (fun (r5 : Bool) (μ6 : gx_M) => some (r5, μ6)) := by
    unfold f_X12_lineOf f_X12_swapLine
    rw [show gt_kw 15 = 448311223411 by decide +kernel]
    simp (disch := omega) only [gq_lit, gq_neg, gq_Llit, gq_Leq, gq_lte, Bool.false_eq_true, gq_leT, gq_leF, gq_ltT, gq_ltF, gq_eqT, gq_eqF, if_true, if_false, Int.reduceEq, gq_bd, n1, gq_biT, gq_biF]
    rw [eJ]
    first | rfl | (refine congrArg (fun T => gx_bd T _) (congrArg _ (funext fun b => funext fun x => ?_)); cases b <;> rfl)
  have cl : ∀ K, gp_cl 3 15 K μ = L_X4_readLine_48 (gq_I (15 : Nat)) K 4000 (gq_I 0) μ0 := fun K => by
    unfold gp_cl
    rw [cf, gq_bd, eμ]
  by_cases hk0 : k0 = 2
  · obtain ⟨k1, q1, e1, v1, f1, pl1, μ1, ν1, c01, c02, c03, ⟨c04, c04', c04b⟩, c05, ⟨c06, gm1, go1⟩, ⟨c07, c07'⟩, c08, c08'⟩ := gp_sT (i := 0) (i' := 0) (r := 15) (s := 72) (lo0 := 2) (lo := 2) (hi := 6) ok hl n2 hk0 r17 (by omega) (by rw [hsh]; decide +kernel) (by omega) (by omega) (by omega) (by decide +kernel) (by decide +kernel) (Or.inl ⟨by omega, rfl⟩) g0 gm0 go0
    have tb1 := gt_tk_b c03.1
    obtain ⟨w1, g1⟩ : ∃ w : Int, ν1.1 206 23 = gq_I w := by
      rw [c06]
      by_cases gg : 2 ≤ v0 ∧ v0 ≤ 6
      · rw [if_pos gg]; exact ⟨_, rfl⟩
      · rw [if_neg gg]; exact ⟨0, rfl⟩
    obtain ⟨νz, ez⟩ : ∃ νz, νz = gx_uI ν1 216 0 (gq_I v0) := ⟨_, rfl⟩
    have tz : Jj true ν1 = some (true, νz) := by
      rw [eJ, ez]
      simp only [if_true, c04']
    have tf : ∀ a j, ¬ a = 216 → νz.1 a j = ν1.1 a j := fun a j g => by rw [ez, gq_uI1, if_neg (by omega)]
    have tf2 : νz.2 206 15 = ν1.2 206 15 := by rw [ez]; rfl
    have tf3 : νz.2 = ν1.2 := by rw [ez]; rfl
    have t2 : gp_CN 3 νz fu := ⟨fun g => absurd g (by decide), fun g => absurd g (by decide), fun g => absurd g (by decide)⟩
    have fz : ∀ a j, ¬ a = 216 → νz.1 a j = ν1.1 a j := tf
    right
    refine ⟨k1, q1, e1, e0, v1, f1, pl1, fu, μ1, νz, fun K => ?_, ?_, gp_R_m c03 (fun a j g => fz _ _ (by omega)) tf2, by omega, ?_, ⟨gq_ln_w xl1 fun j => ?_, gq_ln_w xl2 fun j => ?_⟩, ⟨⟨_, by rw [fz _ _ (by omega)]; exact gm1, hm0b⟩, _, by rw [fz _ _ (by omega)]; exact go1, ho0b⟩, gp_rd2 (by rw [fz _ _ (by omega)]; exact c04') (by rw [fz _ _ (by omega)]; exact (by rw [c08 _ _ (by omega) (by omega), n5 _ _ (by omega) trivial]; exact hrb)) (by omega) (by omega), t2, ⟨fun a j g => ?_, ?_⟩, ⟨fun a j g => ?_, fun a j g => ?_⟩, fun hf μ4 h4 => ?_⟩
    · exact (cl K).trans ((c01 K 3999).trans (gp_exit r17 (by omega)))
    · rw [ml]
      simp only [c02, c04', gq_bd, if_true]
      rw [tz]
      rfl
    · rw [c07 _ _ (by omega) (by omega) (by omega)]; exact y8
    · rw [c07 _ _ (by omega) (by omega) (by omega), fμ _ _ (by omega)]
    · rw [c07 _ _ (by omega) (by omega) (by omega), fμ _ _ (by omega)]
    · rw [c07 _ _ (by omega) (by omega) (by omega), fμ _ _ (by omega)]
    · rw [c07', fμ2]
    · rw [fz _ _ (by omega), c08 _ _ (by omega) (by omega), n5 _ _ (by omega) trivial]
    · rw [tf3, c08' _ _ (by omega), n6 _ _ (by omega)]
    · have hh0 := c05.mp hf
      obtain ⟨hff, ho⟩ := n3.mp hh0.1
      have zz : ∀ a j, 45 ≤ a → a ≤ 60 → μ4.1 a j = μ.1 a j := fun a j h1 h2 => by
        rw [h4 _ _ (by omega), c07 _ _ (by omega) (by omega) (by omega), fμ _ _ (by omega)]
      have zh : ∀ j, 9 ≤ j → μ4.1 42 j = μ.1 42 j := fun j h1 => by
        rw [h4 _ _ (by omega), c07 _ _ (by omega) (by omega) (by omega), fμ _ _ (by omega)]
      have zm : ∀ j, ν1.1 216 j = ν.1 216 j := fun j => by
        rw [c08 _ _ (by omega) (by omega), n5 _ _ (by omega) trivial]
      have d0 : μ4.1 61 0 = gq_I v0 := by rw [h4 _ _ (by omega)]; exact c04
      obtain ⟨w, o, u1, u2, u3, u4, u5, u6⟩ := (xc hff).2.2.2 rfl
      obtain ⟨u7, u8⟩ := u1
      refine ⟨gx_uI μ4 59 0 (gq_I v0), ?_, ⟨fun g => absurd g (by decide), fun g => absurd g (by decide), fun g => absurd g (by decide), fun _ => ⟨fun j => if j = 0 then v0 else w j, o, ⟨?_, fun j hj => ?_⟩, fun j hj => ?_, ⟨?_, fun j hj => ?_⟩, u4, ?_, ?_⟩⟩, ⟨gq_ln_w xl1 fun j => ?_, gq_ln_w xl2 fun j => ?_⟩, fun a j g1 g2 => ?_, rfl⟩
      · unfold f_X4_tellLine f_X4_tellSwaps
        simp (disch := omega) only [gq_lit, Bool.false_eq_true, gq_leT, gq_leF, gq_ltT, gq_ltF, gq_eqT, gq_eqF, if_true, if_false, gq_lte, d0, gq_bd]
      · rw [gq_uI1, if_pos ⟨rfl, rfl⟩]; rfl
      · show _ = gq_I (if 1 + j = 0 then v0 else w (1 + j))
        rw [gq_uI1, if_neg (by omega), zz _ _ (by omega) (by omega), u8 j hj, if_neg (by omega)]
      · show νz.1 216 j = gq_I (if j = 0 then v0 else w j)
        rw [ez, gq_uI1]
        by_cases j0 : j = 0
        · rw [if_pos ⟨rfl, j0⟩, if_pos j0]
        · rw [if_neg (by omega), if_neg j0, zm]; exact u2 j hj
      · show 2 ≤ v0 ∧ v0 ≤ 6
        omega
      · have := u3.2 j hj
        show 0 ≤ (if 1 + j = 0 then v0 else w (1 + j)) ∧ (if 1 + j = 0 then v0 else w (1 + j)) ≤ 9
        rw [if_neg (by omega)]
        exact this
      · rw [gq_uI1, if_neg (by omega), zh _ (by omega)]; exact u5
      · rw [fz _ _ (by omega), go1, ← ho0]; exact u6
      · rw [gq_uI1, if_neg (by omega), zz _ _ (by omega) (by omega)]
      · rw [gq_uI1, if_neg (by omega), zz _ _ (by omega) (by omega)]
      · rw [gq_uI1, if_neg (by omega)]
  · left
    intro K
    obtain ⟨μs, s1, s2, s3, s4, s5⟩ := gp_noC (i := 0) ok hl n2 hk0 r17 (by omega)
    have r0 : (gx_uI ν0 206 16 (gq_I q0)).1 217 0 = gq_I ra := by rw [gq_uI1, if_neg (by omega), n5 _ _ (by omega) trivial]; exact hra
    have r1 : (gx_uI ν0 206 16 (gq_I q0)).1 217 1 = gq_I rb := by rw [gq_uI1, if_neg (by omega), n5 _ _ (by omega) trivial]; exact hrb
    obtain ⟨νs, es, fs, fs2⟩ : ∃ νs, Jj false (gx_uI ν0 206 16 (gq_I q0)) = some (false, νs) ∧ (∀ a j, ¬ a = 216 → νs.1 a j = (gx_uI ν0 206 16 (gq_I q0)).1 a j) ∧ νs.2 = ν0.2 := by
      refine ⟨_, ?_, fun a j g => rfl, rfl⟩
      rw [eJ]; rfl
    refine ⟨μs, νs, q0, ?_, ?_, ⟨by omega, s2, s3, ?_⟩, ⟨gq_ln_w xl1 fun j => ?_, gq_ln_w xl2 fun j => ?_⟩, gp_rd2 (by rw [fs _ _ (by omega)]; exact r0) (by rw [fs _ _ (by omega)]; exact r1) (by omega) (by omega), ⟨fun a j g => ?_, ?_⟩, ⟨fun a j g => ?_, fun a j g => ?_⟩⟩
    · exact (cl K).trans (s1 K 3999)
    · rw [ml]
      simp only [gp_noM n2 hk0, gq_bd, if_true, Bool.false_eq_true, if_false]
      rw [es]
      rfl
    · rw [fs _ _ (by omega), gq_uI1, if_pos ⟨rfl, rfl⟩]
    · rw [s4 _ _ (by omega) (by omega), fμ _ _ (by omega)]
    · rw [s4 _ _ (by omega) (by omega), fμ _ _ (by omega)]
    · rw [s4 _ _ (by omega) (by omega), fμ _ _ (by omega)]
    · rw [s5, fμ2]
    · rw [fs _ _ (by omega), gq_uI1, if_neg (by omega), n5 _ _ (by omega) trivial]
    · rw [fs2, n6 _ _ (by omega)]
set_option maxHeartbeats 8000000 in
theorem gp_LL_w16 : gp_LL 3 16 := by
  intro t len p q e v f pl fu μ ν ok hl hA hw hX hfu hg
  obtain ⟨x8, ⟨xl1, xl2⟩, ⟨⟨m0, hm0, hm0b⟩, o0, ho0, ho0b⟩, xr, xn, xc⟩ := hX
  obtain ⟨ra, rb, hra, hrb, hrab, hrbb⟩ := gp_rd_ex xr
  have tb := gt_tk_b hA.1
  have r17 : 16 < 17 := by omega
  have hsh : gt_sh 16 = 26 := rfl
  have hwl : gt_wl (gt_sh 16) = 3 := by rw [hsh]; rfl
  have mf : f_X4_mostFurther (gq_I (3 : Nat)) (gq_I (16 : Nat)) = gq_I 0 := by decide +kernel
  have cf := gp_cf0 (μ := μ) mf
  have hA' := hA
  obtain ⟨k0, q0, e0, v0, f0, pl0, ν0, n1, n2, n3, n4, n5', n6⟩ := gp_next ok hl hA' (by decide) (False)
  have n5 : ∀ a j, ¬ (a = 206 ∧ 10 ≤ j ∧ j ≤ 18 ∧ j ≠ 11) → True → ν0.1 a j = ν.1 a j := fun a j g1 _ => n5' a j g1
  obtain ⟨μ0, eμ⟩ : ∃ μ0, μ0 = μ := ⟨_, rfl⟩
  have n0 : gp_n3 False f q μ = μ := by unfold gp_n3; rw [if_neg (fun g => g.1)]
  have l0 : gp_l3 False f q ν = ν := by unfold gp_l3; rw [if_neg (fun g => g.1)]
  rw [n0, ← eμ] at n2
  rw [l0] at n1
  have fμ : ∀ a j, ¬ (a = 42 ∧ 6 ≤ j ∧ j ≤ 8) → μ0.1 a j = μ.1 a j := fun a j g => by rw [eμ]
  have fμ2 : μ0.2 = μ.2 := by rw [eμ]
  have y8 : μ0.1 42 8 = gq_I (fu : Nat) := by rw [eμ]; exact x8
  have g0 : ν0.1 206 23 = gq_I 1 := by rw [n5 _ _ (by omega) trivial]; exact hg
  have gm0 : ν0.1 206 21 = gq_I m0 := by rw [n5 _ _ (by omega) trivial]; exact hm0
  have go0 : ν0.1 206 22 = gq_I o0 := by rw [n5 _ _ (by omega) trivial]; exact ho0
  have tb0 := gt_tk_b n2.1
  obtain ⟨Jj, eJ⟩ : ∃ Jj : Bool → gx_M → Option (Bool × gx_M), Jj = (fun (j : Bool) (μ17 : gx_M) => if j = true then (if (μ17.1 206 23) = gq_I 0 then some (true, μ17) else gx_ck (gx_ix ((gq_I 1 + (gq_I 6 * (μ17.1 217 0))) + (μ17.1 217 1)) 161 = true) (some (true, gx_uI μ17 216 ((gq_I 1 + (gq_I 6 * (μ17.1 217 0))) + (μ17.1 217 1)).toNatClampNeg (μ17.1 217 2)))) else some (false, μ17)) := ⟨_, rfl⟩
  have ml : f_X12_lineOf (gq_I (3 : Nat)) (gq_L (gt_kw 16)) (gq_I q) ν = gx_bd (gx_bd (f_X12_takeOne (gq_I (0 : Nat)) (gq_I 5) ν0) (fun (b0 : Bool) (μm0 : gx_M) => if b0 = true then gx_bd (f_X12_takeOne (gq_I (1 : Nat)) (gq_I 5) μm0) (fun (b1 : Bool) (μm1 : gx_M) => if b1 = true then gx_bd (f_X12_take (gq_I (2 : Nat)) (gq_I 0) (gq_I 9) μm1) (fun (b2 : Bool) (μm2 : gx_M) => if b2 = true then Jj true μm2 else Jj false μm2) else Jj false μm1) else Jj false μm0)) (fun (r5 : Bool) (μ6 : gx_M) => some (r5, μ6)) := by
    unfold f_X12_lineOf f_X12_swapLine
    rw [show gt_kw 16 = 512970880104 by decide +kernel]
    simp (disch := omega) only [gq_lit, gq_neg, gq_Llit, gq_Leq, gq_lte, Bool.false_eq_true, gq_leT, gq_leF, gq_ltT, gq_ltF, gq_eqT, gq_eqF, if_true, if_false, Int.reduceEq, gq_bd, n1, gq_biT, gq_biF]
    rw [eJ]
    first | rfl | (refine congrArg (fun T => gx_bd T _) (congrArg _ (funext fun b => funext fun x => ?_)); cases b <;> rfl)
  have cl : ∀ K, gp_cl 3 16 K μ = L_X4_readLine_48 (gq_I (16 : Nat)) K 4000 (gq_I 0) μ0 := fun K => by
    unfold gp_cl
    rw [cf, gq_bd, eμ]
  by_cases hk0 : k0 = 2
  · obtain ⟨k1, q1, e1, v1, f1, pl1, μ1, ν1, c01, c02, c03, ⟨c04, c04', c04b⟩, c05, ⟨c06, gm1, go1⟩, ⟨c07, c07'⟩, c08, c08'⟩ := gp_sO (i := 0) (i' := 0) (r := 16) (s := 104) (lo := 0) (hi := 5) ok hl n2 hk0 r17 (by omega) (by rw [hsh]; decide +kernel) (by omega) (by omega) (by decide +kernel) (by decide +kernel) (by omega) g0 gm0 go0 ho0b
    have tb1 := gt_tk_b c03.1
    obtain ⟨w1, g1⟩ : ∃ w : Int, ν1.1 206 23 = gq_I w := by
      rw [c06]
      by_cases gg : 0 ≤ v0 ∧ v0 ≤ 5
      · rw [if_pos gg]; exact ⟨_, rfl⟩
      · rw [if_neg gg]; exact ⟨0, rfl⟩
    have ob1 : -1 ≤ (if o0 ≤ v0 then v0 else o0) ∧ (if o0 ≤ v0 then v0 else o0) ≤ 99 := by
      have h1 := ho0b
      split <;> omega
    obtain ⟨oo1, eo1⟩ : ∃ oo : Int, oo = (if o0 ≤ v0 then v0 else o0) := ⟨_, rfl⟩
    rw [← eo1] at go1 ob1
    by_cases hk1 : k1 = 2
    · obtain ⟨k2, q2, e2, v2, f2, pl2, μ2, ν2, c11, c12, c13, ⟨c14, c14', c14b⟩, c15, ⟨c16, gm2, go2⟩, ⟨c17, c17'⟩, c18, c18'⟩ := gp_sO (i := 1) (i' := 1) (r := 16) (s := 104) (lo := 0) (hi := 5) ok hl c03 hk1 r17 (by omega) (by rw [hsh]; decide +kernel) (by omega) (by omega) (by decide +kernel) (by decide +kernel) (by omega) g1 gm1 go1 ob1
      have tb2 := gt_tk_b c13.1
      obtain ⟨w2, g2⟩ : ∃ w : Int, ν2.1 206 23 = gq_I w := by
        rw [c16]
        by_cases gg : 0 ≤ v1 ∧ v1 ≤ 5
        · rw [if_pos gg]; exact ⟨_, rfl⟩
        · rw [if_neg gg]; exact ⟨0, rfl⟩
      have ob2 : -1 ≤ (if oo1 ≤ v1 then v1 else oo1) ∧ (if oo1 ≤ v1 then v1 else oo1) ≤ 99 := by
        have h1 := ob1
        split <;> omega
      obtain ⟨oo2, eo2⟩ : ∃ oo : Int, oo = (if oo1 ≤ v1 then v1 else oo1) := ⟨_, rfl⟩
      rw [← eo2] at go2 ob2
      by_cases hk2 : k2 = 2
      · obtain ⟨k3, q3, e3, v3, f3, pl3, μ3, ν3, c21, c22, c23, ⟨c24, c24', c24b⟩, c25, ⟨c26, gm3, go3⟩, ⟨c27, c27'⟩, c28, c28'⟩ := gp_sT (i := 2) (i' := 2) (r := 16) (s := 120) (lo0 := 0) (lo := 0) (hi := 9) ok hl c13 hk2 r17 (by omega) (by rw [hsh]; decide +kernel) (by omega) (by omega) (by omega) (by decide +kernel) (by decide +kernel) (Or.inl ⟨by omega, rfl⟩) g2 gm2 go2
        have tb3 := gt_tk_b c23.1
        obtain ⟨w3, g3⟩ : ∃ w : Int, ν3.1 206 23 = gq_I w := by
          rw [c26]
          by_cases gg : 0 ≤ v2 ∧ v2 ≤ 9
          · rw [if_pos gg]; exact ⟨_, rfl⟩
          · rw [if_neg gg]; exact ⟨0, rfl⟩
        have y0 : ν3.1 217 0 = gq_I v0 := (by rw [c28 _ _ (by omega) (by omega), c18 _ _ (by omega) (by omega)]; exact c04')
        have y1 : ν3.1 217 1 = gq_I v1 := (by rw [c28 _ _ (by omega) (by omega)]; exact c14')
        obtain ⟨νz, tz, tf, tf2, tf3, tc⟩ : ∃ νz, Jj true ν3 = some (true, νz) ∧ (∀ a j, ¬ a = 216 → νz.1 a j = ν3.1 a j) ∧ νz.2 206 15 = ν3.2 206 15 ∧ νz.2 = ν3.2 ∧ (f3 = 0 → νz = gx_uI ν3 216 (1 + 6 * v0.toNat + v1.toNat) (gq_I v2)) := by
          by_cases gz : ν3.1 206 23 = gq_I 0
          · refine ⟨ν3, ?_, fun _ _ _ => rfl, rfl, rfl, fun h => ?_⟩
            · rw [eJ]
              simp only [gz, if_true]
            · have h2 := c25.mp h
              have h1 := c15.mp h2.1
              have h0 := c05.mp h1.1
              rw [c26, if_pos h2.2] at gz
              rw [← g2, c16, if_pos h1.2, ← g1, c06, if_pos h0.2, gq_eq (by omega)] at gz
              omega
          · have h2 : 0 ≤ v2 ∧ v2 ≤ 9 := by
              rw [c26] at gz
              split at gz
              · assumption
              · exact absurd rfl gz
            have h1 : 0 ≤ v1 ∧ v1 ≤ 5 := by
              rw [c26, if_pos h2, ← g2, c16] at gz
              split at gz
              · assumption
              · exact absurd rfl gz
            have h0 : 0 ≤ v0 ∧ v0 ≤ 5 := by
              rw [c26, if_pos h2, ← g2, c16, if_pos h1, ← g1, c06] at gz
              split at gz
              · assumption
              · exact absurd rfl gz
            refine ⟨gx_uI ν3 216 (1 + 6 * v0.toNat + v1.toNat) (gq_I v2), ?_, fun a j g => by rw [gq_uI1, if_neg (by omega)], rfl, rfl, fun _ => rfl⟩
            rw [eJ]
            have et : ((1 : Int) + 6 * v0 + v1).toNat = 1 + 6 * v0.toNat + v1.toNat := by omega
            simp (disch := omega) only [gz, if_true, if_false, y0, y1, c24', gq_mul, gq_add, gq_ck, gq_nat, et]
        have t2 : gp_CN 3 νz fu := ⟨fun g => absurd g (by decide), fun g => absurd g (by decide), fun g => absurd g (by decide)⟩
        have fz : ∀ a j, ¬ a = 216 → νz.1 a j = ν3.1 a j := tf
        right
        refine ⟨k3, q3, e3, e2, v3, f3, pl3, fu, μ3, νz, fun K => ?_, ?_, gp_R_m c23 (fun a j g => fz _ _ (by omega)) tf2, by omega, ?_, ⟨gq_ln_w xl1 fun j => ?_, gq_ln_w xl2 fun j => ?_⟩, ⟨⟨_, by rw [fz _ _ (by omega)]; exact gm3, hm0b⟩, _, by rw [fz _ _ (by omega)]; exact go3, ob2⟩, gp_rd2 (by rw [fz _ _ (by omega)]; exact (by rw [c28 _ _ (by omega) (by omega), c18 _ _ (by omega) (by omega)]; exact c04')) (by rw [fz _ _ (by omega)]; exact (by rw [c28 _ _ (by omega) (by omega)]; exact c14')) (by omega) (by omega), t2, ⟨fun a j g => ?_, ?_⟩, ⟨fun a j g => ?_, fun a j g => ?_⟩, fun hf μ4 h4 => ?_⟩
        · exact (cl K).trans ((c01 K 3999).trans ((c11 K 3998).trans ((c21 K 3997).trans (gp_exit r17 (by omega)))))
        · rw [ml]
          simp only [c02, c04', c12, c14', c22, c24', gq_bd, if_true]
          rw [tz]
          rfl
        · rw [c27 _ _ (by omega) (by omega) (by omega), c17 _ _ (by omega) (by omega) (by omega), c07 _ _ (by omega) (by omega) (by omega)]; exact y8
        · rw [c27 _ _ (by omega) (by omega) (by omega), c17 _ _ (by omega) (by omega) (by omega), c07 _ _ (by omega) (by omega) (by omega), fμ _ _ (by omega)]
        · rw [c27 _ _ (by omega) (by omega) (by omega), c17 _ _ (by omega) (by omega) (by omega), c07 _ _ (by omega) (by omega) (by omega), fμ _ _ (by omega)]
        · rw [c27 _ _ (by omega) (by omega) (by omega), c17 _ _ (by omega) (by omega) (by omega), c07 _ _ (by omega) (by omega) (by omega), fμ _ _ (by omega)]
        · rw [c27', c17', c07', fμ2]
        · rw [fz _ _ (by omega), c28 _ _ (by omega) (by omega), c18 _ _ (by omega) (by omega), c08 _ _ (by omega) (by omega), n5 _ _ (by omega) trivial]
        · rw [tf3, c28' _ _ (by omega), c18' _ _ (by omega), c08' _ _ (by omega), n6 _ _ (by omega)]
        · have hh2 := c25.mp hf
          have hh1 := c15.mp hh2.1
          have hh0 := c05.mp hh1.1
          obtain ⟨hff, ho⟩ := n3.mp hh0.1
          have zz : ∀ a j, 45 ≤ a → a ≤ 60 → μ4.1 a j = μ.1 a j := fun a j h1 h2 => by
            rw [h4 _ _ (by omega), c27 _ _ (by omega) (by omega) (by omega), c17 _ _ (by omega) (by omega) (by omega), c07 _ _ (by omega) (by omega) (by omega), fμ _ _ (by omega)]
          have zh : ∀ j, 9 ≤ j → μ4.1 42 j = μ.1 42 j := fun j h1 => by
            rw [h4 _ _ (by omega), c27 _ _ (by omega) (by omega) (by omega), c17 _ _ (by omega) (by omega) (by omega), c07 _ _ (by omega) (by omega) (by omega), fμ _ _ (by omega)]
          have zm : ∀ j, ν3.1 216 j = ν.1 216 j := fun j => by
            rw [c28 _ _ (by omega) (by omega), c18 _ _ (by omega) (by omega), c08 _ _ (by omega) (by omega), n5 _ _ (by omega) trivial]
          have d0 : μ4.1 61 0 = gq_I v0 := by rw [h4 _ _ (by omega), c27 _ _ (by omega) (by omega) (by omega), c17 _ _ (by omega) (by omega) (by omega)]; exact c04
          have d1 : μ4.1 61 1 = gq_I v1 := by rw [h4 _ _ (by omega), c27 _ _ (by omega) (by omega) (by omega)]; exact c14
          have d2 : μ4.1 61 2 = gq_I v2 := by rw [h4 _ _ (by omega)]; exact c24
          obtain ⟨w, o, u1, u2, u3, u4, u5, u6⟩ := (xc hff).2.2.2 rfl
          obtain ⟨u7, u8⟩ := u1
          have oo : o = o0 := by
            rw [ho0] at u6
            have := gq_eq (a := o0) (b := o) (by omega)
            rw [this] at u6
            exact u6.symm
          subst oo
          have ez := tc hf
          obtain ⟨x, ex, exb⟩ : ∃ x : Nat, x = 6 * v0.toNat + v1.toNat ∧ x < 36 := ⟨_, rfl, by omega⟩
          have et : (v0 * 6 + v1).toNat = x := by omega
          have eo : (if o < (if v0 < v1 then v1 else v0) then (if v0 < v1 then v1 else v0) else o) = oo2 := by
            rw [eo2, eo1]
            repeat' split
            all_goals omega
          have e23 : gq_I v0 * 6 + gq_I v1 = gq_I (v0 * 6 + v1) := by simp only [gq_lit, gq_mul, gq_add]
          have e24 : (if gq_I v0 < gq_I v1 then gq_I v1 else gq_I v0) = gq_I (if v0 < v1 then v1 else v0) := gp_mx (by omega)
          have hb : -2147483648 ≤ (if v0 < v1 then v1 else v0) ∧ (if v0 < v1 then v1 else v0) < 2147483648 := by split <;> omega
          have e25 : (if gq_I o < gq_I (if v0 < v1 then v1 else v0) then gq_I (if v0 < v1 then v1 else v0) else gq_I o) = gq_I oo2 := by
            rw [← eo]
            exact gp_mx (by omega)
          refine ⟨gx_uI (gx_uI μ4 60 x (gq_I v2)) 42 10 (gq_I oo2), ?_, ⟨fun g => absurd g (by decide), fun g => absurd g (by decide), fun g => absurd g (by decide), fun _ => ⟨fun j => if j = 1 + x then v2 else w j, oo2, ⟨?_, fun j hj => ?_⟩, fun j hj => ?_, ⟨?_, fun j hj => ?_⟩, ?_, ?_, ?_⟩⟩, ⟨gq_ln_w xl1 fun j => ?_, gq_ln_w xl2 fun j => ?_⟩, fun a j g1 g2 => ?_, rfl⟩
          · have q61 : (gx_uI μ4 60 x (gq_I v2)).1 61 0 = gq_I v0 ∧ (gx_uI μ4 60 x (gq_I v2)).1 61 1 = gq_I v1 ∧ (gx_uI μ4 60 x (gq_I v2)).1 42 10 = gq_I o := by
              refine ⟨?_, ?_, ?_⟩
              · rw [gq_uI1, if_neg (by omega)]; exact d0
              · rw [gq_uI1, if_neg (by omega)]; exact d1
              · rw [gq_uI1, if_neg (by omega), zh _ (by omega)]; exact u5
            unfold f_X4_tellLine f_X4_tellSwaps
            simp (disch := omega) only [gq_lit, Bool.false_eq_true, gq_leT, gq_leF, gq_ltT, gq_ltF, gq_eqT, gq_eqF, if_true, if_false]
            simp (disch := omega) only [gq_lte, d0, d1, d2, gq_mul, gq_add, gq_ck, gq_nat, et, q61.1, q61.2.1, q61.2.2, e24, e25, gq_bd]
          · rw [gq_uI1, if_neg (by omega), gq_uI1, if_neg (by omega), zz _ _ (by omega) (by omega), u7]
            show gq_I (w 0) = gq_I (if 0 = 1 + x then v2 else w 0)
            rw [if_neg (by omega)]
          · show (gx_uI (gx_uI μ4 60 x (gq_I v2)) 42 10 (gq_I oo2)).1 60 j = gq_I (if 1 + j = 1 + x then v2 else w (1 + j))
            rw [gq_uI1, if_neg (by omega), gq_uI1]
            by_cases jx : j = x
            · rw [if_pos ⟨rfl, jx⟩, if_pos (by omega)]
            · rw [if_neg (by omega), if_neg (by omega), zz _ _ (by omega) (by omega)]; exact u8 j hj
          · show νz.1 216 j = gq_I (if j = 1 + x then v2 else w j)
            rw [ez, gq_uI1]
            by_cases jx : j = 1 + x
            · rw [if_pos ⟨rfl, by omega⟩, if_pos jx]
            · rw [if_neg (by omega), if_neg jx, zm]; exact u2 j hj
          · show 2 ≤ (if 0 = 1 + x then v2 else w 0) ∧ (if 0 = 1 + x then v2 else w 0) ≤ 6
            rw [if_neg (by omega)]
            exact u3.1
          · have := u3.2 j hj
            show 0 ≤ (if 1 + j = 1 + x then v2 else w (1 + j)) ∧ (if 1 + j = 1 + x then v2 else w (1 + j)) ≤ 9
            split
            · omega
            · exact this
          · rw [eo2, eo1]
            repeat' split
            all_goals omega
          · rw [gq_uI1, if_pos ⟨rfl, rfl⟩]
          · rw [fz _ _ (by omega)]; exact go3
          · rw [gq_uI1, if_neg (by omega), gq_uI1, if_neg (by omega), zz _ _ (by omega) (by omega)]
          · rw [gq_uI1, if_neg (by omega), gq_uI1, if_neg (by omega), zz _ _ (by omega) (by omega)]
          · rw [gq_uI1, if_neg (by omega), gq_uI1, if_neg (by omega)]
      · left
        intro K
        obtain ⟨μs, s1, s2, s3, s4, s5⟩ := gp_noC (i := 2) ok hl c13 hk2 r17 (by omega)
        have r0 : (gx_uI ν2 206 16 (gq_I q2)).1 217 0 = gq_I v0 := by rw [gq_uI1, if_neg (by omega), c18 _ _ (by omega) (by omega)]; exact c04'
        have r1 : (gx_uI ν2 206 16 (gq_I q2)).1 217 1 = gq_I v1 := by rw [gq_uI1, if_neg (by omega)]; exact c14'
        obtain ⟨νs, es, fs, fs2⟩ : ∃ νs, Jj false (gx_uI ν2 206 16 (gq_I q2)) = some (false, νs) ∧ (∀ a j, ¬ a = 216 → νs.1 a j = (gx_uI ν2 206 16 (gq_I q2)).1 a j) ∧ νs.2 = ν2.2 := by
          refine ⟨_, ?_, fun a j g => rfl, rfl⟩
          rw [eJ]; rfl
        refine ⟨μs, νs, q2, ?_, ?_, ⟨by omega, s2, s3, ?_⟩, ⟨gq_ln_w xl1 fun j => ?_, gq_ln_w xl2 fun j => ?_⟩, gp_rd2 (by rw [fs _ _ (by omega)]; exact r0) (by rw [fs _ _ (by omega)]; exact r1) (by omega) (by omega), ⟨fun a j g => ?_, ?_⟩, ⟨fun a j g => ?_, fun a j g => ?_⟩⟩
        · exact (cl K).trans ((c01 K 3999).trans ((c11 K 3998).trans (s1 K 3997)))
        · rw [ml]
          simp only [c02, c04', c12, c14', gp_noM c13 hk2, gq_bd, if_true, Bool.false_eq_true, if_false]
          rw [es]
          rfl
        · rw [fs _ _ (by omega), gq_uI1, if_pos ⟨rfl, rfl⟩]
        · rw [s4 _ _ (by omega) (by omega), c17 _ _ (by omega) (by omega) (by omega), c07 _ _ (by omega) (by omega) (by omega), fμ _ _ (by omega)]
        · rw [s4 _ _ (by omega) (by omega), c17 _ _ (by omega) (by omega) (by omega), c07 _ _ (by omega) (by omega) (by omega), fμ _ _ (by omega)]
        · rw [s4 _ _ (by omega) (by omega), c17 _ _ (by omega) (by omega) (by omega), c07 _ _ (by omega) (by omega) (by omega), fμ _ _ (by omega)]
        · rw [s5, c17', c07', fμ2]
        · rw [fs _ _ (by omega), gq_uI1, if_neg (by omega), c18 _ _ (by omega) (by omega), c08 _ _ (by omega) (by omega), n5 _ _ (by omega) trivial]
        · rw [fs2, c18' _ _ (by omega), c08' _ _ (by omega), n6 _ _ (by omega)]
    · left
      intro K
      obtain ⟨μs, s1, s2, s3, s4, s5⟩ := gp_noC (i := 1) ok hl c03 hk1 r17 (by omega)
      have r0 : (gx_uI ν1 206 16 (gq_I q1)).1 217 0 = gq_I v0 := by rw [gq_uI1, if_neg (by omega)]; exact c04'
      have r1 : (gx_uI ν1 206 16 (gq_I q1)).1 217 1 = gq_I rb := by rw [gq_uI1, if_neg (by omega), c08 _ _ (by omega) (by omega), n5 _ _ (by omega) trivial]; exact hrb
      obtain ⟨νs, es, fs, fs2⟩ : ∃ νs, Jj false (gx_uI ν1 206 16 (gq_I q1)) = some (false, νs) ∧ (∀ a j, ¬ a = 216 → νs.1 a j = (gx_uI ν1 206 16 (gq_I q1)).1 a j) ∧ νs.2 = ν1.2 := by
        refine ⟨_, ?_, fun a j g => rfl, rfl⟩
        rw [eJ]; rfl
      refine ⟨μs, νs, q1, ?_, ?_, ⟨by omega, s2, s3, ?_⟩, ⟨gq_ln_w xl1 fun j => ?_, gq_ln_w xl2 fun j => ?_⟩, gp_rd2 (by rw [fs _ _ (by omega)]; exact r0) (by rw [fs _ _ (by omega)]; exact r1) (by omega) (by omega), ⟨fun a j g => ?_, ?_⟩, ⟨fun a j g => ?_, fun a j g => ?_⟩⟩
      · exact (cl K).trans ((c01 K 3999).trans (s1 K 3998))
      · rw [ml]
        simp only [c02, c04', gp_noMO c03 hk1, gq_bd, if_true, Bool.false_eq_true, if_false]
        rw [es]
        rfl
      · rw [fs _ _ (by omega), gq_uI1, if_pos ⟨rfl, rfl⟩]
      · rw [s4 _ _ (by omega) (by omega), c07 _ _ (by omega) (by omega) (by omega), fμ _ _ (by omega)]
      · rw [s4 _ _ (by omega) (by omega), c07 _ _ (by omega) (by omega) (by omega), fμ _ _ (by omega)]
      · rw [s4 _ _ (by omega) (by omega), c07 _ _ (by omega) (by omega) (by omega), fμ _ _ (by omega)]
      · rw [s5, c07', fμ2]
      · rw [fs _ _ (by omega), gq_uI1, if_neg (by omega), c08 _ _ (by omega) (by omega), n5 _ _ (by omega) trivial]
      · rw [fs2, c08' _ _ (by omega), n6 _ _ (by omega)]
  · left
    intro K
    obtain ⟨μs, s1, s2, s3, s4, s5⟩ := gp_noC (i := 0) ok hl n2 hk0 r17 (by omega)
    have r0 : (gx_uI ν0 206 16 (gq_I q0)).1 217 0 = gq_I ra := by rw [gq_uI1, if_neg (by omega), n5 _ _ (by omega) trivial]; exact hra
    have r1 : (gx_uI ν0 206 16 (gq_I q0)).1 217 1 = gq_I rb := by rw [gq_uI1, if_neg (by omega), n5 _ _ (by omega) trivial]; exact hrb
    obtain ⟨νs, es, fs, fs2⟩ : ∃ νs, Jj false (gx_uI ν0 206 16 (gq_I q0)) = some (false, νs) ∧ (∀ a j, ¬ a = 216 → νs.1 a j = (gx_uI ν0 206 16 (gq_I q0)).1 a j) ∧ νs.2 = ν0.2 := by
      refine ⟨_, ?_, fun a j g => rfl, rfl⟩
      rw [eJ]; rfl
    refine ⟨μs, νs, q0, ?_, ?_, ⟨by omega, s2, s3, ?_⟩, ⟨gq_ln_w xl1 fun j => ?_, gq_ln_w xl2 fun j => ?_⟩, gp_rd2 (by rw [fs _ _ (by omega)]; exact r0) (by rw [fs _ _ (by omega)]; exact r1) (by omega) (by omega), ⟨fun a j g => ?_, ?_⟩, ⟨fun a j g => ?_, fun a j g => ?_⟩⟩
    · exact (cl K).trans (s1 K 3999)
    · rw [ml]
      simp only [gp_noMO n2 hk0, gq_bd, if_true, Bool.false_eq_true, if_false]
      rw [es]
      rfl
    · rw [fs _ _ (by omega), gq_uI1, if_pos ⟨rfl, rfl⟩]
    · rw [s4 _ _ (by omega) (by omega), fμ _ _ (by omega)]
    · rw [s4 _ _ (by omega) (by omega), fμ _ _ (by omega)]
    · rw [s4 _ _ (by omega) (by omega), fμ _ _ (by omega)]
    · rw [s5, fμ2]
    · rw [fs _ _ (by omega), gq_uI1, if_neg (by omega), n5 _ _ (by omega) trivial]
    · rw [fs2, n6 _ _ (by omega)]
