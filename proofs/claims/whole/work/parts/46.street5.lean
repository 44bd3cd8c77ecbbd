/-! lines of streets: business -/
theorem gp_taskL {c : Nat} (hc : c < 6) {k : gx_M → Option (Bool × gx_M)} : ∀ (d f i : Nat) (ν : gx_M), d < f → i + d = 4 → ∃ ν', L_X12_taskLine_62 (gq_I c) k f (gq_I i) ν = k ν' ∧ (∀ j, i ≤ j → j < 4 → ν'.1 216 (7 + 6 * j + c) = ν.1 217 j) ∧ (∀ a j, (a = 216 → ∀ x, i ≤ x → x < 4 → j ≠ 7 + 6 * x + c) → ν'.1 a j = ν.1 a j) ∧ ν'.2 = ν.2
  | _, 0, _, _, hf, _ => absurd hf (Nat.not_lt_zero _)
  | 0, f + 1, i, ν, hf, hi => by
    refine ⟨ν, ?_, fun j h2 h3 => absurd h3 (by omega), fun _ _ _ => rfl, rfl⟩
    rw [L_X12_taskLine_62.eq_2]
    simp (disch := omega) only [gq_lit, Bool.false_eq_true, gq_leT, gq_leF, gq_ltT, gq_ltF, gq_eqT, gq_eqF, if_true, if_false]
  | d + 1, f + 1, i, ν, hf, hi => by
    obtain ⟨ν', e1, e2, e3, e4⟩ := gp_taskL hc (k := k) d f (i + 1) (gx_uI ν 216 (7 + 6 * i + c) (ν.1 217 i)) (by omega) (by omega)
    refine ⟨ν', ?_, fun j h2 h3 => ?_, fun a j ha => ?_, e4⟩
    · rw [L_X12_taskLine_62.eq_2, ← e1]
      simp (disch := omega) only [Int.reduceToNat, gq_lit, gq_neg, gq_add, gq_sub, gq_mul, gq_nat, Int.toNat_natCast, gq_tadd, gq_tmul, gq_lte, gq_br, gq_bd, gq_ck, Bool.false_eq_true, gq_leT, gq_leF, gq_ltT, gq_ltF, gq_eqT, gq_eqF, if_true, if_false]
      rfl
    · by_cases hj : j = i
      · subst hj
        rw [e3 _ _ (fun _ x h1 h2 => by omega), gq_uI1, if_pos ⟨rfl, rfl⟩]
      · rw [e2 j (by omega) h3, gq_uI1, if_neg (by omega)]
    · rw [e3 _ _ (fun h x h1 h2 => ha h x (by omega) h2), gq_uI1, if_neg (fun h => ha h.1 i (by omega) (by omega) h.2)]
set_option maxHeartbeats 8000000 in
theorem gp_LL_s5 : gp_LL 0 5 := by
  intro t len p q e v f pl fu μ ν ok hl hA hw hX hfu hg
  obtain ⟨x8, ⟨xl1, xl2⟩, ⟨⟨m0, hm0, hm0b⟩, o0, ho0, ho0b⟩, xr, xn, xc⟩ := hX
  obtain ⟨ra, rb, hra, hrb, hrab, hrbb⟩ := gp_rd_ex xr
  have tb := gt_tk_b hA.1
  have r17 : 5 < 17 := by omega
  have hsh : gt_sh 5 = 22 := rfl
  have hwl : gt_wl (gt_sh 5) = 4 := by rw [hsh]; rfl
  have mf : f_X4_mostFurther (gq_I (0 : Nat)) (gq_I (5 : Nat)) = gq_I (6 : Nat) := by decide +kernel
  have cf := gp_cf (M := 6) (by omega) hfu mf hA x8
  have hA' : gp_A (gx_uI μ 42 8 (gq_I (fu + 1 : Nat))) ν t len p 1 q e v f pl := gp_A_c hA fun a j g => by simp (disch := omega) only [gq_uI1, gq_uI2, gq_uL1, gq_uL2, gq_ifF]
  have fl := gp_full (c := 2) (M := 6) (fu := fu) (by omega) (by omega) hl hfu hA (xn.1 rfl)
  obtain ⟨k0, q0, e0, v0, f0, pl0, ν0, n1, n2, n3, n4, n5', n6⟩ := gp_next ok hl hA' (by decide) (6 < fu + 1)
  have n5 : ∀ a j, ¬ (a = 206 ∧ 10 ≤ j ∧ j ≤ 18 ∧ j ≠ 11) → True → ν0.1 a j = ν.1 a j := fun a j g1 _ => n5' a j g1
  obtain ⟨μ0, eμ⟩ : ∃ μ0, μ0 = gp_n3 (6 < fu + 1) f q (gx_uI μ 42 8 (gq_I (fu + 1 : Nat))) := ⟨_, rfl⟩
  rw [← eμ] at n2 cf
  have fμ : ∀ a j, ¬ (a = 42 ∧ 6 ≤ j ∧ j ≤ 8) → μ0.1 a j = μ.1 a j := fun a j g => by
    rw [eμ, (gp_n3_f _ _ _ _).1 _ _ (by omega), gq_uI1, if_neg (by omega)]
  have fμ2 : μ0.2 = μ.2 := by rw [eμ, (gp_n3_f _ _ _ _).2]; rfl
  have y8 : μ0.1 42 8 = gq_I (fu + 1 : Nat) := by rw [eμ, (gp_n3_f _ _ _ _).1 _ _ (by omega), gq_uI1, if_pos ⟨rfl, rfl⟩]
  have g0 : ν0.1 206 23 = gq_I 1 := by rw [n5 _ _ (by omega) trivial]; exact hg
  have gm0 : ν0.1 206 21 = gq_I m0 := by rw [n5 _ _ (by omega) trivial]; exact hm0
  have go0 : ν0.1 206 22 = gq_I o0 := by rw [n5 _ _ (by omega) trivial]; exact ho0
  have tb0 := gt_tk_b n2.1
  obtain ⟨Jj, eJ⟩ : ∃ Jj : Bool → gx_M → Option (Bool × gx_M), Jj = (fun (j : Bool) (μ11 : gx_M) => if j = true then (if gq_I 6 ≤ (μ11.1 216 2) then some (true, μ11) else L_X12_taskLine_62 (μ11.1 216 2) (fun (μ23 : gx_M) => some (true, gx_uI μ23 216 2 ((μ23.1 216 2) + gq_I 1))) 4000 (gq_I 0) μ11) else some (false, μ11)) := ⟨_, rfl⟩
  have ml : f_X12_lineOf (gq_I (0 : Nat)) (gq_L (gt_kw 5)) (gq_I q) ν = gx_bd (gx_bd (gx_bd (f_X12_take (gq_I (0 : Nat)) (gq_I 1) (gq_I 9) ν0) (fun (b0 : Bool) (μm0 : gx_M) => if b0 = true then gx_bd (f_X12_takeMinute (gq_I (1 : Nat)) (gq_I 0) μm0) (fun (b1 : Bool) (μm1 : gx_M) => if b1 = true then gx_bd (f_X12_takeMinute (gq_I (2 : Nat)) (μm1.1 217 1) μm1) (fun (b2 : Bool) (μm2 : gx_M) => if b2 = true then gx_bd (f_X12_take (gq_I (3 : Nat)) (gq_I 0) (gq_I 99) μm2) (fun (b3 : Bool) (μm3 : gx_M) => if b3 = true then Jj true μm3 else Jj false μm3) else Jj false μm2) else Jj false μm1) else Jj false μm0)) (fun (r5 : Bool) (μ6 : gx_M) => some (r5, μ6))) (fun (r5 : Bool) (μ6 : gx_M) => some (r5, μ6)) := by
    have fl' : f_X12_full (gq_I 2) (gq_I 6) (gq_I q) ν = some ((), gp_l3 (6 < fu + 1) f q ν) := fl
    unfold f_X12_lineOf f_X12_streetLine f_X12_taskLine
    rw [show gt_kw 5 = 7094703684652987251 by decide +kernel]
    simp (disch := omega) only [gq_lit, gq_neg, gq_Llit, gq_Leq, gq_lte, Bool.false_eq_true, gq_leT, gq_leF, gq_ltT, gq_ltF, gq_eqT, gq_eqF, if_true, if_false, Int.reduceEq, fl', gq_bd, n1, gq_biT, gq_biF]
    rw [eJ]
    first | rfl | (refine congrArg (fun T => gx_bd T _) (congrArg _ (funext fun b => funext fun x => ?_)); cases b <;> rfl)
  have cl : ∀ K, gp_cl 0 5 K μ = L_X4_readLine_48 (gq_I (5 : Nat)) K 4000 (gq_I 0) μ0 := fun K => by
    unfold gp_cl
    rw [cf, gq_bd]
  by_cases hk0 : k0 = 2
  · obtain ⟨k1, q1, e1, v1, f1, pl1, μ1, ν1, c01, c02, c03, ⟨c04, c04', c04b⟩, c05, ⟨c06, gm1, go1⟩, ⟨c07, c07'⟩, c08, c08'⟩ := gp_sT (i := 0) (i' := 0) (r := 5) (s := 76) (lo0 := 1) (lo := 1) (hi := 9) ok hl n2 hk0 r17 (by omega) (by rw [hsh]; decide +kernel) (by omega) (by omega) (by omega) (by decide +kernel) (by decide +kernel) (Or.inl ⟨by omega, rfl⟩) g0 gm0 go0
    have tb1 := gt_tk_b c03.1
    obtain ⟨w1, g1⟩ : ∃ w : Int, ν1.1 206 23 = gq_I w := by
      rw [c06]
      by_cases gg : 1 ≤ v0 ∧ v0 ≤ 9
      · rw [if_pos gg]; exact ⟨_, rfl⟩
      · rw [if_neg gg]; exact ⟨0, rfl⟩
    by_cases hk1 : k1 = 2
    · obtain ⟨k2, q2, e2, v2, f2, pl2, μ2, ν2, c11, c12, c13, ⟨c14, c14', c14b⟩, c15, ⟨c16, gm2, go2⟩, ⟨c17, c17'⟩, c18, c18'⟩ := gp_sM (i := 1) (i' := 1) (r := 5) (s := 109) (lo0 := 0) (lo := 0) ok hl c03 hk1 r17 (by omega) (by rw [hsh]; decide +kernel) (by omega) (by omega) (by decide +kernel) (by decide +kernel) (Or.inl ⟨by omega, rfl⟩) g1 gm1 hm0b go1
      have tb2 := gt_tk_b c13.1
      obtain ⟨w2, g2⟩ : ∃ w : Int, ν2.1 206 23 = gq_I w := by
        rw [c16]
        by_cases gg : 0 ≤ v1 ∧ v1 ≤ 39
        · rw [if_pos gg]; exact ⟨_, rfl⟩
        · rw [if_neg gg]; exact ⟨0, rfl⟩
      have mb2 : -1 ≤ (if m0 ≤ v1 then v1 else m0) ∧ (if m0 ≤ v1 then v1 else m0) ≤ 99 := by
        have h1 := hm0b
        split <;> omega
      obtain ⟨mm2, em2⟩ : ∃ mm : Int, mm = (if m0 ≤ v1 then v1 else m0) := ⟨_, rfl⟩
      rw [← em2] at gm2 mb2
      by_cases hk2 : k2 = 2
      · obtain ⟨k3, q3, e3, v3, f3, pl3, μ3, ν3, c21, c22, c23, ⟨c24, c24', c24b⟩, c25, ⟨c26, gm3, go3⟩, ⟨c27, c27'⟩, c28, c28'⟩ := gp_sM (i := 2) (i' := 2) (r := 5) (s := 116) (lo0 := 0) (lo := v1) ok hl c13 hk2 r17 (by omega) (by rw [hsh]; decide +kernel) (by omega) (by omega) (by decide +kernel) (by decide +kernel) (Or.inr ⟨rfl, by omega, c14, rfl, c14b.1, c14b.2⟩) g2 gm2 mb2 go2
        have tb3 := gt_tk_b c23.1
        obtain ⟨w3, g3⟩ : ∃ w : Int, ν3.1 206 23 = gq_I w := by
          rw [c26]
          by_cases gg : v1 ≤ v2 ∧ v2 ≤ 39
          · rw [if_pos gg]; exact ⟨_, rfl⟩
          · rw [if_neg gg]; exact ⟨0, rfl⟩
        have mb3 : -1 ≤ (if mm2 ≤ v2 then v2 else mm2) ∧ (if mm2 ≤ v2 then v2 else mm2) ≤ 99 := by
          have h1 := mb2
          split <;> omega
        obtain ⟨mm3, em3⟩ : ∃ mm : Int, mm = (if mm2 ≤ v2 then v2 else mm2) := ⟨_, rfl⟩
        rw [← em3] at gm3 mb3
        by_cases hk3 : k3 = 2
        · obtain ⟨k4, q4, e4, v4, f4, pl4, μ4, ν4, c31, c32, c33, ⟨c34, c34', c34b⟩, c35, ⟨c36, gm4, go4⟩, ⟨c37, c37'⟩, c38, c38'⟩ := gp_sT (i := 3) (i' := 3) (r := 5) (s := 99) (lo0 := 0) (lo := 0) (hi := 99) ok hl c23 hk3 r17 (by omega) (by rw [hsh]; decide +kernel) (by omega) (by omega) (by omega) (by decide +kernel) (by decide +kernel) (Or.inl ⟨by omega, rfl⟩) g3 gm3 go3
          have tb4 := gt_tk_b c33.1
          obtain ⟨w4, g4⟩ : ∃ w : Int, ν4.1 206 23 = gq_I w := by
            rw [c36]
            by_cases gg : 0 ≤ v3 ∧ v3 ≤ 99
            · rw [if_pos gg]; exact ⟨_, rfl⟩
            · rw [if_neg gg]; exact ⟨0, rfl⟩
          have y0 : ν4.1 217 0 = gq_I v0 := (by rw [c38 _ _ (by omega) (by omega), c28 _ _ (by omega) (by omega), c18 _ _ (by omega) (by omega)]; exact c04')
          have y1 : ν4.1 217 1 = gq_I v1 := (by rw [c38 _ _ (by omega) (by omega), c28 _ _ (by omega) (by omega)]; exact c14')
          have y2 : ν4.1 217 2 = gq_I v2 := (by rw [c38 _ _ (by omega) (by omega)]; exact c24')
          have y3 : ν4.1 217 3 = gq_I v3 := c34'
          have x2 : ν4.1 216 2 = gq_I (if fu ≤ 6 then (fu : Int) else 6) := by
            rw [c38 _ _ (by omega) (by omega), c28 _ _ (by omega) (by omega), c18 _ _ (by omega) (by omega), c08 _ _ (by omega) (by omega), n5 _ _ (by omega) trivial]
            exact xn.1 rfl
          obtain ⟨νz, tz, tf, tf2, tf3, tn2, tc⟩ : ∃ νz, Jj true ν4 = some (true, νz) ∧ (∀ a j, ¬ a = 216 → νz.1 a j = ν4.1 a j) ∧ νz.2 206 15 = ν4.2 206 15 ∧ νz.2 = ν4.2 ∧ νz.1 216 2 = gq_I (if fu + 1 ≤ 6 then ((fu + 1 : Nat) : Int) else 6) ∧ (fu < 6 → ∀ w : Nat → Int, (∀ j, j < 111 → ν4.1 216 j = gq_I (w j)) → ∀ j, j < 111 → νz.1 216 j = gq_I (gp_u5 w fu v0 v1 v2 v3 j)) := by
            by_cases gz : fu < 6
            · rw [if_pos (by omega)] at x2
              obtain ⟨ν5, z1, z2, z3, z4⟩ := gp_taskL (c := fu) gz (k := fun (μ23 : gx_M) => some (true, gx_uI μ23 216 2 ((μ23.1 216 2) + gq_I 1))) 4 4000 0 ν4 (by omega) (by omega)
              have z5 : ν5.1 216 2 = gq_I fu := by rw [z3 _ _ (fun _ x h1 h2 => by omega)]; exact x2
              refine ⟨gx_uI ν5 216 2 (gq_I (fu + 1 : Nat)), ?_, fun a j g => ?_, ?_, ?_, ?_, fun _ w hw j hj => ?_⟩
              · rw [eJ]
                simp only [if_true]
                rw [x2, if_neg (by rw [gq_le (by omega)]; omega)]
                refine Eq.trans z1 ?_
                rw [z5, gq_add]
                rfl
              · rw [gq_uI1, if_neg (by omega), z3 _ _ (fun h => absurd h g)]
              · rw [gq_uI2, z4]
              · rw [gq_uI2, z4]
              · rw [gq_uI1, if_pos ⟨rfl, rfl⟩, if_pos (by omega)]
              · unfold gp_u5
                rw [gq_uI1]
                by_cases j0 : j = 2
                · rw [if_pos ⟨rfl, j0⟩, if_pos j0]
                · rw [if_neg (by omega), if_neg j0]
                  by_cases j1 : j = 7 + fu
                  · rw [if_pos j1, j1, show 7 + fu = 7 + 6 * 0 + fu by omega, z2 0 (by omega) (by omega)]; exact y0
                  · rw [if_neg j1]
                    by_cases j2 : j = 13 + fu
                    · rw [if_pos j2, j2, show 13 + fu = 7 + 6 * 1 + fu by omega, z2 1 (by omega) (by omega)]; exact y1
                    · rw [if_neg j2]
                      by_cases j3 : j = 19 + fu
                      · rw [if_pos j3, j3, show 19 + fu = 7 + 6 * 2 + fu by omega, z2 2 (by omega) (by omega)]; exact y2
                      · rw [if_neg j3]
                        by_cases j4 : j = 25 + fu
                        · rw [if_pos j4, j4, show 25 + fu = 7 + 6 * 3 + fu by omega, z2 3 (by omega) (by omega)]; exact y3
                        · rw [if_neg j4, z3 _ _ (fun _ x h1 h2 => by omega)]; exact hw j hj
            · have x3 : ν4.1 216 2 = gq_I 6 := by
                rw [x2]
                by_cases g6 : fu ≤ 6
                · rw [if_pos g6]; congr 1; omega
                · rw [if_neg g6]
              refine ⟨ν4, ?_, fun _ _ _ => rfl, rfl, rfl, ?_, fun g => absurd g gz⟩
              · rw [eJ]
                simp only [if_true]
                rw [x3, if_pos (by rw [gq_le (by omega)]; omega)]
              · rw [x3, if_neg (by omega)]
          have t2 : gp_CN 0 νz (fu + 1) := ⟨fun _ => tn2, fun g => absurd g (by decide), fun g => absurd g (by decide)⟩
          have fz : ∀ a j, ¬ a = 216 → νz.1 a j = ν4.1 a j := tf
          right
          refine ⟨k4, q4, e4, e3, v4, f4, pl4, fu + 1, μ4, νz, fun K => ?_, ?_, gp_R_m c33 (fun a j g => fz _ _ (by omega)) tf2, by omega, ?_, ⟨gq_ln_w xl1 fun j => ?_, gq_ln_w xl2 fun j => ?_⟩, ⟨⟨_, by rw [fz _ _ (by omega)]; exact gm4, mb3⟩, _, by rw [fz _ _ (by omega)]; exact go4, ho0b⟩, gp_rd2 (by rw [fz _ _ (by omega)]; exact (by rw [c38 _ _ (by omega) (by omega), c28 _ _ (by omega) (by omega), c18 _ _ (by omega) (by omega)]; exact c04')) (by rw [fz _ _ (by omega)]; exact (by rw [c38 _ _ (by omega) (by omega), c28 _ _ (by omega) (by omega)]; exact c14')) (by omega) (by omega), t2, ⟨fun a j g => ?_, ?_⟩, ⟨fun a j g => ?_, fun a j g => ?_⟩, fun hf μ4 h4 => ?_⟩
          · exact (cl K).trans ((c01 K 3999).trans ((c11 K 3998).trans ((c21 K 3997).trans ((c31 K 3996).trans (gp_exit r17 (by omega))))))
          · rw [ml]
            simp only [c02, c04', c12, c14', c22, c24', c32, c34', gq_bd, if_true]
            rw [tz]
            rfl
          · rw [c37 _ _ (by omega) (by omega) (by omega), c27 _ _ (by omega) (by omega) (by omega), c17 _ _ (by omega) (by omega) (by omega), c07 _ _ (by omega) (by omega) (by omega)]; exact y8
          · rw [c37 _ _ (by omega) (by omega) (by omega), c27 _ _ (by omega) (by omega) (by omega), c17 _ _ (by omega) (by omega) (by omega), c07 _ _ (by omega) (by omega) (by omega), fμ _ _ (by omega)]
          · rw [c37 _ _ (by omega) (by omega) (by omega), c27 _ _ (by omega) (by omega) (by omega), c17 _ _ (by omega) (by omega) (by omega), c07 _ _ (by omega) (by omega) (by omega), fμ _ _ (by omega)]
          · rw [c37 _ _ (by omega) (by omega) (by omega), c27 _ _ (by omega) (by omega) (by omega), c17 _ _ (by omega) (by omega) (by omega), c07 _ _ (by omega) (by omega) (by omega), fμ _ _ (by omega)]
          · rw [c37', c27', c17', c07', fμ2]
          · rw [fz _ _ (by omega), c38 _ _ (by omega) (by omega), c28 _ _ (by omega) (by omega), c18 _ _ (by omega) (by omega), c08 _ _ (by omega) (by omega), n5 _ _ (by omega) trivial]
          · rw [tf3, c38' _ _ (by omega), c28' _ _ (by omega), c18' _ _ (by omega), c08' _ _ (by omega), n6 _ _ (by omega)]
          · have hh3 := c35.mp hf
            have hh2 := c25.mp hh3.1
            have hh1 := c15.mp hh2.1
            have hh0 := c05.mp hh1.1
            obtain ⟨hff, ho⟩ := n3.mp hh0.1
            have zz : ∀ a j, 45 ≤ a → a ≤ 60 → μ4.1 a j = μ.1 a j := fun a j h1 h2 => by
              rw [h4 _ _ (by omega), c37 _ _ (by omega) (by omega) (by omega), c27 _ _ (by omega) (by omega) (by omega), c17 _ _ (by omega) (by omega) (by omega), c07 _ _ (by omega) (by omega) (by omega), fμ _ _ (by omega)]
            have zh : ∀ j, 9 ≤ j → μ4.1 42 j = μ.1 42 j := fun j h1 => by
              rw [h4 _ _ (by omega), c37 _ _ (by omega) (by omega) (by omega), c27 _ _ (by omega) (by omega) (by omega), c17 _ _ (by omega) (by omega) (by omega), c07 _ _ (by omega) (by omega) (by omega), fμ _ _ (by omega)]
            have zm : ∀ j, ν4.1 216 j = ν.1 216 j := fun j => by
              rw [c38 _ _ (by omega) (by omega), c28 _ _ (by omega) (by omega), c18 _ _ (by omega) (by omega), c08 _ _ (by omega) (by omega), n5 _ _ (by omega) trivial]
            have d0 : μ4.1 61 0 = gq_I v0 := by rw [h4 _ _ (by omega), c37 _ _ (by omega) (by omega) (by omega), c27 _ _ (by omega) (by omega) (by omega), c17 _ _ (by omega) (by omega) (by omega)]; exact c04
            have d1 : μ4.1 61 1 = gq_I v1 := by rw [h4 _ _ (by omega), c37 _ _ (by omega) (by omega) (by omega), c27 _ _ (by omega) (by omega) (by omega)]; exact c14
            have d2 : μ4.1 61 2 = gq_I v2 := by rw [h4 _ _ (by omega), c37 _ _ (by omega) (by omega) (by omega)]; exact c24
            have d3 : μ4.1 61 3 = gq_I v3 := by rw [h4 _ _ (by omega)]; exact c34
            obtain ⟨w, m, o, u1, u2, u3, u4, u5, u6, u7, u8⟩ := (xc hff).1 rfl
            have u9 := u4.2.2.2.2.2.2.2
            have em0 : m = m0 := gp_inj2 u7 hm0 (by omega)
            have eo0 : o = o0 := gp_inj2 u8 ho0 (by omega)
            subst em0 eo0
            have uc : gq_cS μ4 45 w := gq_cS_sm u1 fun i hi => by funext j; exact zz _ _ (by omega) (by omega)
            have gz : fu < 6 := by omega
            have em : (if m < v2 then v2 else m) = mm3 := by
              rw [em3, em2]
              repeat' split
              all_goals omega
            have e25 : (if gq_I m < gq_I v2 then gq_I v2 else gq_I m) = gq_I mm3 := by
              rw [← em]
              exact gp_mx (by omega)
            have mb4 : m ≤ mm3 ∧ mm3 ≤ 39 ∧ v2 ≤ mm3 := by
              rw [em3, em2]
              repeat' split
              all_goals omega
            have b2 : μ4.1 45 2 = gq_I fu := by rw [uc.1.2.2, u3]
            obtain ⟨μ5, eμ5⟩ : ∃ μ5, μ5 = gx_uI (gx_uI (gx_uI (gx_uI (gx_uI μ4 49 fu (gq_I v0)) 50 fu (gq_I v1)) 51 fu (gq_I v2)) 52 fu (gq_I v3)) 45 2 (gq_I (fu + 1 : Nat)) := ⟨_, rfl⟩
            have F5 : ∀ a j, ¬ (a = 45 ∧ j = 2) → ¬ ((49 ≤ a ∧ a ≤ 52) ∧ j = fu) → μ5.1 a j = μ4.1 a j := fun a j h1 h2 => by
              rw [eμ5]
              simp (disch := omega) only [gq_uI1, gq_ifF]
            refine ⟨gx_uI μ5 42 9 (gq_I mm3), ?_, ⟨fun _ => ⟨gp_u5 w fu v0 v1 v2 v3, mm3, o, gp_cS_5 uc u3 gz ?_ ?_ ?_ ?_ ?_ (fun a j h1 h2 h3 h4 => by rw [gq_uI1, if_neg (by omega), F5 _ _ h3 (by omega)]), tc gz w fun j hj => by rw [zm]; exact u2 j hj, (gp_u5_n gz).1, gp_pS_5 (gp_pS_up u4 (by omega) (by omega)) gz u3 (by omega) (by omega) (by omega), ?_, ?_, ?_, ?_⟩, fun g => absurd g (by decide), fun g => absurd g (by decide), fun g => absurd g (by decide)⟩, ⟨gq_ln_w xl1 fun j => ?_, gq_ln_w xl2 fun j => ?_⟩, fun a j g1 g2 => ?_, by rw [gq_uI2, eμ5]; rfl⟩
            · have q61 : μ5.1 61 2 = gq_I v2 ∧ μ5.1 42 9 = gq_I m := by
                refine ⟨?_, ?_⟩
                · rw [F5 _ _ (by omega) (by omega)]; exact d2
                · rw [F5 _ _ (by omega) (by omega), zh _ (by omega)]; exact u5
              unfold f_X4_tellLine f_X4_tellStreet f_X4_tellBusiness
              simp (disch := omega) only [gq_lit, Bool.false_eq_true, gq_leT, gq_leF, gq_ltT, gq_ltF, gq_eqT, gq_eqF, if_true, if_false]
              simp (disch := omega) only [gq_lte, b2, Bool.false_eq_true, gq_leT, gq_leF, gq_ltT, gq_ltF, gq_eqT, gq_eqF, if_true, if_false, gq_ck, gq_nat, Int.toNat_natCast, d0, d1, d2, d3, gq_uI1, gq_ifF, gq_add]
              rw [show (fu : Int) + 1 = ((fu + 1 : Nat) : Int) from rfl, ← eμ5]
              have z9 : μ4.1 42 9 = gq_I m := by rw [zh _ (by omega)]; exact u5
              rw [z9, e25]
              rfl
            · rw [gq_uI1, if_neg (by omega), eμ5, gq_uI1, if_pos ⟨rfl, rfl⟩]
            · rw [gq_uI1, if_neg (by omega), eμ5]; simp (disch := omega) only [gq_uI1, gq_ifF, Nat.reduceEqDiff, false_and, and_false, and_true, true_and, if_true, if_false]
            · rw [gq_uI1, if_neg (by omega), eμ5]; simp (disch := omega) only [gq_uI1, gq_ifF, Nat.reduceEqDiff, false_and, and_false, and_true, true_and, if_true, if_false]
            · rw [gq_uI1, if_neg (by omega), eμ5]; simp (disch := omega) only [gq_uI1, gq_ifF, Nat.reduceEqDiff, false_and, and_false, and_true, true_and, if_true, if_false]
            · rw [gq_uI1, if_neg (by omega), eμ5]; simp (disch := omega) only [gq_uI1, gq_ifF, Nat.reduceEqDiff, false_and, and_false, and_true, true_and, if_true, if_false]
            · rw [gq_uI1, if_pos ⟨rfl, rfl⟩]
            · rw [gq_uI1, if_neg (by omega), F5 _ _ (by omega) (by omega), zh _ (by omega)]; exact u6
            · rw [fz _ _ (by omega)]; exact gm4
            · rw [fz _ _ (by omega)]; exact go4
            · rw [gq_uI1, if_neg (by omega), F5 _ _ (by omega) (by omega), zz _ _ (by omega) (by omega)]
            · rw [gq_uI1, if_neg (by omega), F5 _ _ (by omega) (by omega), zz _ _ (by omega) (by omega)]
            · rw [gq_uI1, if_neg (by omega), F5 _ _ (by omega) (by omega)]
        · left
          intro K
          obtain ⟨μs, s1, s2, s3, s4, s5⟩ := gp_noC (i := 3) ok hl c23 hk3 r17 (by omega)
          have r0 : (gx_uI ν3 206 16 (gq_I q3)).1 217 0 = gq_I v0 := by rw [gq_uI1, if_neg (by omega), c28 _ _ (by omega) (by omega), c18 _ _ (by omega) (by omega)]; exact c04'
          have r1 : (gx_uI ν3 206 16 (gq_I q3)).1 217 1 = gq_I v1 := by rw [gq_uI1, if_neg (by omega), c28 _ _ (by omega) (by omega)]; exact c14'
          obtain ⟨νs, es, fs, fs2⟩ : ∃ νs, Jj false (gx_uI ν3 206 16 (gq_I q3)) = some (false, νs) ∧ (∀ a j, ¬ a = 216 → νs.1 a j = (gx_uI ν3 206 16 (gq_I q3)).1 a j) ∧ νs.2 = ν3.2 := by
            refine ⟨_, ?_, fun a j g => rfl, rfl⟩
            rw [eJ]; rfl
          refine ⟨μs, νs, q3, ?_, ?_, ⟨by omega, s2, s3, ?_⟩, ⟨gq_ln_w xl1 fun j => ?_, gq_ln_w xl2 fun j => ?_⟩, gp_rd2 (by rw [fs _ _ (by omega)]; exact r0) (by rw [fs _ _ (by omega)]; exact r1) (by omega) (by omega), ⟨fun a j g => ?_, ?_⟩, ⟨fun a j g => ?_, fun a j g => ?_⟩⟩
          · exact (cl K).trans ((c01 K 3999).trans ((c11 K 3998).trans ((c21 K 3997).trans (s1 K 3996))))
          · rw [ml]
            simp only [c02, c04', c12, c14', c22, c24', gp_noM c23 hk3, gq_bd, if_true, Bool.false_eq_true, if_false]
            rw [es]
            rfl
          · rw [fs _ _ (by omega), gq_uI1, if_pos ⟨rfl, rfl⟩]
          · rw [s4 _ _ (by omega) (by omega), c27 _ _ (by omega) (by omega) (by omega), c17 _ _ (by omega) (by omega) (by omega), c07 _ _ (by omega) (by omega) (by omega), fμ _ _ (by omega)]
          · rw [s4 _ _ (by omega) (by omega), c27 _ _ (by omega) (by omega) (by omega), c17 _ _ (by omega) (by omega) (by omega), c07 _ _ (by omega) (by omega) (by omega), fμ _ _ (by omega)]
          · rw [s4 _ _ (by omega) (by omega), c27 _ _ (by omega) (by omega) (by omega), c17 _ _ (by omega) (by omega) (by omega), c07 _ _ (by omega) (by omega) (by omega), fμ _ _ (by omega)]
          · rw [s5, c27', c17', c07', fμ2]
          · rw [fs _ _ (by omega), gq_uI1, if_neg (by omega), c28 _ _ (by omega) (by omega), c18 _ _ (by omega) (by omega), c08 _ _ (by omega) (by omega), n5 _ _ (by omega) trivial]
          · rw [fs2, c28' _ _ (by omega), c18' _ _ (by omega), c08' _ _ (by omega), n6 _ _ (by omega)]
      · left
        intro K
        obtain ⟨μs, s1, s2, s3, s4, s5⟩ := gp_noC (i := 2) ok hl c13 hk2 r17 (by omega)
        have r0 : (gx_uI ν2 206 16 (gq_I q2)).1 217 0 = gq_I v0 := by rw [gq_uI1, if_neg (by omega), c18 _ _ (by omega) (by omega)]; exact c04'
        have r1 : (gx_uI ν2 206 16 (gq_I q2)).1 217 1 = gq_I v1 := by rw [gq_uI1, if_neg (by omega)]; exact c14'
        obtain ⟨νs, es, fs, fs2⟩ : ∃ νs, Jj false (gx_uI ν2 206 16 (gq_I q2)) = some (false, νs) ∧ (∀ a j, ¬ a = 216 → νs.1 a j = (gx_uI ν2 206 16 (gq_I q2)).1 a j) ∧ νs.2 = ν2.2 := by
          refine ⟨_, ?_, fun a j g => rfl, rfl⟩
          rw [eJ]; rfl
        refine ⟨μs, νs, q2, ?_, ?_, ⟨by omega, s2, s3, ?_⟩, ⟨gq_ln_w xl1 fun j => ?_, gq_ln_w xl2 fun j => ?_⟩, gp_rd2 (by rw [fs _ _ (by omega)]; exact r0) (by rw [fs _ _ (by omega)]; exact r1) (by omega) (by omega), ⟨fun a j g => ?_, ?_⟩, ⟨fun a j g => ?_, fun a j g => ?_⟩⟩
        · exact (cl K).trans ((c01 K 3999).trans ((c11 K 3998).trans (s1 K 3997)))
        · rw [ml]
          simp only [c02, c04', c12, c14', gp_noMM c13 hk2, gq_bd, if_true, Bool.false_eq_true, if_false]
          rw [es]
          rfl
        · rw [fs _ _ (by omega), gq_uI1, if_pos ⟨rfl, rfl⟩]
        · rw [s4 _ _ (by omega) (by omega), c17 _ _ (by omega) (by omega) (by omega), c07 _ _ (by omega) (by omega) (by omega), fμ _ _ (by omega)]
        · rw [s4 _ _ (by omega) (by omega), c17 _ _ (by omega) (by omega) (by omega), c07 _ _ (by omega) (by omega) (by omega), fμ _ _ (by omega)]
        · rw [s4 _ _ (by omega) (by omega), c17 _ _ (by omega) (by omega) (by omega), c07 _ _ (by omega) (by omega) (by omega), fμ _ _ (by omega)]
        · rw [s5, c17', c07', fμ2]
        · rw [fs _ _ (by omega), gq_uI1, if_neg (by omega), c18 _ _ (by omega) (by omega), c08 _ _ (by omega) (by omega), n5 _ _ (by omega) trivial]
        · rw [fs2, c18' _ _ (by omega), c08' _ _ (by omega), n6 _ _ (by omega)]
    · left
      intro K
      obtain ⟨μs, s1, s2, s3, s4, s5⟩ := gp_noC (i := 1) ok hl c03 hk1 r17 (by omega)
      have r0 : (gx_uI ν1 206 16 (gq_I q1)).1 217 0 = gq_I v0 := by rw [gq_uI1, if_neg (by omega)]; exact c04'
      have r1 : (gx_uI ν1 206 16 (gq_I q1)).1 217 1 = gq_I rb := by rw [gq_uI1, if_neg (by omega), c08 _ _ (by omega) (by omega), n5 _ _ (by omega) trivial]; exact hrb
      obtain ⟨νs, es, fs, fs2⟩ : ∃ νs, Jj false (gx_uI ν1 206 16 (gq_I q1)) = some (false, νs) ∧ (∀ a j, ¬ a = 216 → νs.1 a j = (gx_uI ν1 206 16 (gq_I q1)).1 a j) ∧ νs.2 = ν1.2 := by
        refine ⟨_, ?_, fun a j g => rfl, rfl⟩
        rw [eJ]; rfl
      refine ⟨μs, νs, q1, ?_, ?_, ⟨by omega, s2, s3, ?_⟩, ⟨gq_ln_w xl1 fun j => ?_, gq_ln_w xl2 fun j => ?_⟩, gp_rd2 (by rw [fs _ _ (by omega)]; exact r0) (by rw [fs _ _ (by omega)]; exact r1) (by omega) (by omega), ⟨fun a j g => ?_, ?_⟩, ⟨fun a j g => ?_, fun a j g => ?_⟩⟩
      · exact (cl K).trans ((c01 K 3999).trans (s1 K 3998))
      · rw [ml]
        simp only [c02, c04', gp_noMM c03 hk1, gq_bd, if_true, Bool.false_eq_true, if_false]
        rw [es]
        rfl
      · rw [fs _ _ (by omega), gq_uI1, if_pos ⟨rfl, rfl⟩]
      · rw [s4 _ _ (by omega) (by omega), c07 _ _ (by omega) (by omega) (by omega), fμ _ _ (by omega)]
      · rw [s4 _ _ (by omega) (by omega), c07 _ _ (by omega) (by omega) (by omega), fμ _ _ (by omega)]
      · rw [s4 _ _ (by omega) (by omega), c07 _ _ (by omega) (by omega) (by omega), fμ _ _ (by omega)]
      · rw [s5, c07', fμ2]
      · rw [fs _ _ (by omega), gq_uI1, if_neg (by omega), c08 _ _ (by omega) (by omega), n5 _ _ (by omega) trivial]
      · rw [fs2, c08' _ _ (by omega), n6 _ _ (by omega)]
  · left
    intro K
    obtain ⟨μs, s1, s2, s3, s4, s5⟩ := gp_noC (i := 0) ok hl n2 hk0 r17 (by omega)
    have r0 : (gx_uI ν0 206 16 (gq_I q0)).1 217 0 = gq_I ra := by rw [gq_uI1, if_neg (by omega), n5 _ _ (by omega) trivial]; exact hra
    have r1 : (gx_uI ν0 206 16 (gq_I q0)).1 217 1 = gq_I rb := by rw [gq_uI1, if_neg (by omega), n5 _ _ (by omega) trivial]; exact hrb
    obtain ⟨νs, es, fs, fs2⟩ : ∃ νs, Jj false (gx_uI ν0 206 16 (gq_I q0)) = some (false, νs) ∧ (∀ a j, ¬ a = 216 → νs.1 a j = (gx_uI ν0 206 16 (gq_I q0)).1 a j) ∧ νs.2 = ν0.2 := by
      refine ⟨_, ?_, fun a j g => rfl, rfl⟩
      rw [eJ]; rfl
    refine ⟨μs, νs, q0, ?_, ?_, ⟨by omega, s2, s3, ?_⟩, ⟨gq_ln_w xl1 fun j => ?_, gq_ln_w xl2 fun j => ?_⟩, gp_rd2 (by rw [fs _ _ (by omega)]; exact r0) (by rw [fs _ _ (by omega)]; exact r1) (by omega) (by omega), ⟨fun a j g => ?_, ?_⟩, ⟨fun a j g => ?_, fun a j g => ?_⟩⟩
    · exact (cl K).trans (s1 K 3999)
    · rw [ml]
      simp only [gp_noM n2 hk0, gq_bd, if_true, Bool.false_eq_true, if_false]
      rw [es]
      rfl
    · rw [fs _ _ (by omega), gq_uI1, if_pos ⟨rfl, rfl⟩]
    · rw [s4 _ _ (by omega) (by omega), fμ _ _ (by omega)]
    · rw [s4 _ _ (by omega) (by omega), fμ _ _ (by omega)]
    · rw [s4 _ _ (by omega) (by omega), fμ _ _ (by omega)]
    · rw [s5, fμ2]
    · rw [fs _ _ (by omega), gq_uI1, if_neg (by omega), n5 _ _ (by omega) trivial]
    · rw [fs2, n6 _ _ (by omega)]
