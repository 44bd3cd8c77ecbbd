/-! lines of years -/
def gp_yu (y : Nat → Int) (fu : Nat) (x a b c : Int) (j : Nat) : Int := if j = 0 then ((fu + 1 : Nat) : Int) else if j = 1 + 4 * fu then x else if j = 2 + 4 * fu then a else if j = 3 + 4 * fu then b else if j = 4 + 4 * fu then c else y j
theorem gp_yu_0 {y : Nat → Int} {fu : Nat} {x a b c : Int} : gp_yu y fu x a b c 0 = ((fu + 1 : Nat) : Int) := if_pos rfl
theorem gp_yu_n {y : Nat → Int} {fu : Nat} {x a b c : Int} : gp_yu y fu x a b c (1 + 4 * fu) = x ∧ gp_yu y fu x a b c (2 + 4 * fu) = a ∧ gp_yu y fu x a b c (3 + 4 * fu) = b ∧ gp_yu y fu x a b c (4 + 4 * fu) = c := by
  unfold gp_yu
  refine ⟨?_, ?_, ?_, ?_⟩
  · rw [if_neg (by omega), if_pos rfl]
  · rw [if_neg (by omega), if_neg (by omega), if_pos rfl]
  · rw [if_neg (by omega), if_neg (by omega), if_neg (by omega), if_pos rfl]
  · rw [if_neg (by omega), if_neg (by omega), if_neg (by omega), if_neg (by omega), if_pos rfl]
theorem gp_yu_o {y : Nat → Int} {fu j : Nat} {x a b c : Int} (h0 : j ≠ 0) (h : j ≤ 4 * fu ∨ 4 + 4 * fu < j) : gp_yu y fu x a b c j = y j := by
  unfold gp_yu
  rw [if_neg h0, if_neg (by omega), if_neg (by omega), if_neg (by omega), if_neg (by omega)]
theorem gp_yr_tail {fu : Nat} {νm : gx_M} {x a b c : Int} (cnt : νm.1 216 0 = gq_I (if fu ≤ 40 then (fu : Int) else 40)) (h1 : νm.1 217 1 = gq_I a) (h2 : νm.1 217 2 = gq_I b) (h3 : νm.1 217 3 = gq_I c) : ∃ ν', f_X12_keepRow (gq_I 4) (gq_I 40) (gx_uI νm 217 0 (gq_I x)) = some ((), ν') ∧ ν'.1 216 0 = gq_I (if fu + 1 ≤ 40 then ((fu + 1 : Nat) : Int) else 40) ∧ ν'.1 217 0 = gq_I x ∧ (∀ a j, ¬ a = 216 → ¬ (a = 217 ∧ j = 0) → ν'.1 a j = νm.1 a j) ∧ ν'.2 = νm.2 ∧ (fu < 40 → ∀ y : Nat → Int, (∀ j, j < 161 → νm.1 216 j = gq_I (y j)) → ∀ j, j < 161 → ν'.1 216 j = gq_I (gp_yu y fu x a b c j)) := by
  obtain ⟨c', cb, c0, c1, c2⟩ : ∃ c' : Nat, c' ≤ 40 ∧ νm.1 216 0 = gq_I c' ∧ (fu ≤ 40 → c' = fu) ∧ (40 < fu → c' = 40) := by
    by_cases g : fu ≤ 40
    · rw [if_pos g] at cnt
      exact ⟨fu, g, cnt, fun _ => rfl, fun g2 => absurd g2 (by omega)⟩
    · rw [if_neg g] at cnt
      exact ⟨40, by omega, cnt, fun g2 => absurd g2 g, fun _ => rfl⟩
  obtain ⟨ν3, b1, b2, b3, b4, b5⟩ := gp_keep (w := 4) (M := 40) (c := c') (ν := gx_uI νm 217 0 (gq_I x)) (by omega) (by omega) (by omega) cb (by rw [gq_uI1, if_neg (by omega)]; exact c0)
  refine ⟨ν3, b1, ?_, ?_, fun a j g1 g2 => ?_, ?_, fun g y hy j hj => ?_⟩
  · by_cases g : c' < 40
    · rw [(b2 g).2, c1 (by omega), if_pos (by omega)]
    · have g2 : c' = 40 := by omega
      rw [b3 g2, gq_uI1, if_neg (by omega), c0, if_neg (by omega), g2]; rfl
  · rw [b4 _ _ (by omega), gq_uI1, if_pos ⟨rfl, rfl⟩]
  · rw [b4 _ _ (by omega), gq_uI1, if_neg (by omega)]
  · rw [b5]; rfl
  · have cf : c' = fu := c1 (by omega)
    have bb := b2 (by omega)
    have x0 := bb.1 0 (by omega)
    have x1 := bb.1 1 (by omega)
    have x2 := bb.1 2 (by omega)
    have x3 := bb.1 3 (by omega)
    rw [gq_uI1, if_pos ⟨rfl, rfl⟩] at x0
    rw [gq_uI1, if_neg (by omega)] at x1 x2 x3
    rw [cf] at x0 x1 x2 x3 bb
    unfold gp_yu
    by_cases j0 : j = 0
    · rw [if_pos j0, j0]; exact bb.2
    · rw [if_neg j0]
      by_cases j1 : j = 1 + 4 * fu
      · rw [if_pos j1, j1]; exact x0
      · rw [if_neg j1]
        by_cases j2 : j = 2 + 4 * fu
        · rw [if_pos j2, j2, show 2 + 4 * fu = 1 + 4 * fu + 1 by omega, x1]; exact h1
        · rw [if_neg j2]
          by_cases j3 : j = 3 + 4 * fu
          · rw [if_pos j3, j3, show 3 + 4 * fu = 1 + 4 * fu + 2 by omega, x2]; exact h2
          · rw [if_neg j3]
            by_cases j4 : j = 4 + 4 * fu
            · rw [if_pos j4, j4, show 4 + 4 * fu = 1 + 4 * fu + 3 by omega, x3]; exact h3
            · rw [if_neg j4, b4 _ _ (by omega), gq_uI1, if_neg (by omega)]; exact hy j hj
theorem gp_yr_tell {r fu : Nat} {μ : gx_M} {y : Nat → Int} {a b c : Int} (hr : 6 ≤ r ∧ r ≤ 12) (hl : gq_ln μ 53 40) (hy : gq_cY μ 53 y) (h0 : y 0 = fu) (hfu : fu < 40) (ok : gq_okY y) (h1 : μ.1 61 0 = gq_I a) (h2 : f_X4_numberOrNone (gq_I r) (gq_I 1) μ = some (gq_I b)) (h3 : f_X4_numberOrNone (gq_I r) (gq_I 2) μ = some (gq_I c)) (ha : -1 ≤ a ∧ a ≤ 39) (hb : -1 ≤ b ∧ b ≤ 39) (hc : -1 ≤ c ∧ c ≤ 39) : ∃ μ5, f_X4_tellLine (gq_I 1) (gq_I r) μ = some ((), μ5) ∧ gq_cY μ5 53 (gp_yu y fu ((r : Int) - 6) a b c) ∧ gq_okY (gp_yu y fu ((r : Int) - 6) a b c) ∧ gq_ln μ5 53 40 ∧ (∀ a j, ¬ (53 ≤ a ∧ a ≤ 55) → μ5.1 a j = μ.1 a j) ∧ μ5.2 = μ.2 := by
  obtain ⟨u5, u6⟩ := hy
  obtain ⟨μ5, d1, ⟨d2, d3, d4, d5, d6⟩, d7, d8⟩ := gp_app (a := 53) (n := 40) (c := fu) (μ := μ) (x1 := gq_I r) (x2 := gq_I a) (x3 := gq_I b) (x4 := gq_I c) (by omega) hl.1 (by rw [u5, h0]) hfu
  refine ⟨μ5, ?_, ⟨by rw [gp_yu_0]; exact d6, fun k hk => ?_⟩, ⟨by rw [gp_yu_0]; omega, fun k hk => ?_⟩, ⟨by rw [d7 _ _ (by omega) (by omega) (by omega)]; exact hl.1, fu + 1, by omega, d6⟩, fun a j g => d7 _ _ (by omega) (by omega) (by omega), d8⟩
  · unfold f_X4_tellLine
    simp (disch := omega) only [gq_lit, Bool.false_eq_true, gq_leT, gq_leF, gq_ltT, gq_ltF, gq_eqT, gq_eqF, if_true, if_false, h1, h2, h3, gq_br, d1, gq_bd]
  · rw [gp_yu_0] at hk
    by_cases g : k = fu
    · subst g
      obtain ⟨i1, i2, i3, i4⟩ := gp_yu_n (y := y) (fu := k) (x := (r : Int) - 6) (a := a) (b := b) (c := c)
      rw [i1, i2, i3, i4]
      refine ⟨?_, d3, d4, d5⟩
      rw [show (r : Int) - 6 + 6 = r by omega]; exact d2
    · rw [gp_yu_o (by omega) (by omega), gp_yu_o (by omega) (by omega), gp_yu_o (by omega) (by omega), gp_yu_o (by omega) (by omega), d7 _ _ (by omega) (by omega) (by omega), d7 _ _ (by omega) (by omega) (by omega), d7 _ _ (by omega) (by omega) (by omega), d7 _ _ (by omega) (by omega) (by omega)]
      exact u6 k (by omega)
  · rw [gp_yu_0] at hk
    by_cases g : k = fu
    · subst g
      obtain ⟨i1, i2, i3, i4⟩ := gp_yu_n (y := y) (fu := k) (x := (r : Int) - 6) (a := a) (b := b) (c := c)
      rw [i1, i2, i3, i4]
      omega
    · rw [gp_yu_o (by omega) (by omega), gp_yu_o (by omega) (by omega), gp_yu_o (by omega) (by omega), gp_yu_o (by omega) (by omega)]
      exact ok.2 k (by omega)
set_option maxHeartbeats 8000000 in
theorem gp_LL_y2 {r : Nat} (hr : r = 6 ∨ r = 7 ∨ r = 8 ∨ r = 9) : gp_LL 1 r := by
  intro t len p q e v f pl fu μ ν ok hl hA hw hX hfu hg
  obtain ⟨x8, ⟨xl1, xl2⟩, ⟨⟨m0, hm0, hm0b⟩, o0, ho0, ho0b⟩, xr, xn, xc⟩ := hX
  obtain ⟨ra, rb, hra, hrb, hrab, hrbb⟩ := gp_rd_ex xr
  have tb := gt_tk_b hA.1
  have r17 : r < 17 := by omega
  have hsh : gt_sh r = 23 := by rcases hr with rfl | rfl | rfl | rfl <;> rfl
  have hwl : gt_wl (gt_sh r) = 2 := by rw [hsh]; rfl
  have mf : f_X4_mostFurther (gq_I (1 : Nat)) (gq_I r) = gq_I (40 : Nat) := by rcases hr with rfl | rfl | rfl | rfl <;> decide +kernel
  have cf := gp_cf (M := 40) (by omega) hfu mf hA x8
  have hA' : gp_A (gx_uI μ 42 8 (gq_I (fu + 1 : Nat))) ν t len p 1 q e v f pl := gp_A_c hA fun a j g => by simp (disch := omega) only [gq_uI1, gq_uI2, gq_uL1, gq_uL2, gq_ifF]
  have fl := gp_full (c := 0) (M := 40) (fu := fu) (by omega) (by omega) hl hfu hA (xn.2.1 rfl)
  obtain ⟨k0, q0, e0, v0, f0, pl0, ν0', n1, n2', n3, n4, n5', n6'⟩ := gp_next ok hl hA' (by decide) (40 < fu + 1)
  obtain ⟨μ0, eμ⟩ : ∃ μ0, μ0 = gp_n3 (40 < fu + 1) f q (gx_uI μ 42 8 (gq_I (fu + 1 : Nat))) := ⟨_, rfl⟩
  obtain ⟨ν0, eν0⟩ : ∃ ν0, ν0 = gx_uI (gx_uI ν0' 217 2 (gq_I (-1))) 217 3 (gq_I (-1)) := ⟨_, rfl⟩
  have n5 : ∀ a j, ¬ (a = 206 ∧ 10 ≤ j ∧ j ≤ 18 ∧ j ≠ 11) → ¬ (a = 217 ∧ 2 ≤ j) → ν0.1 a j = ν.1 a j := fun a j g1 g2 => by
    rw [eν0, gq_uI1, if_neg (by omega), gq_uI1, if_neg (by omega), n5' _ _ g1]
  have n6 : ∀ a j, ¬ (a = 206 ∧ j = 15) → ν0.2 a j = ν.2 a j := fun a j g1 => by
    rw [eν0, gq_uI2, gq_uI2, n6' _ _ g1]
  have n2 : gp_R μ0 ν0 t len e k0 q0 e0 v0 f0 pl0 := by
    rw [← eμ] at n2'
    exact gp_R_m n2' (fun a j g => by rw [eν0, gq_uI1, if_neg (by omega), gq_uI1, if_neg (by omega)]) (by rw [eν0]; rfl)
  rw [← eμ] at cf
  have fμ : ∀ a j, ¬ (a = 42 ∧ 6 ≤ j ∧ j ≤ 8) → μ0.1 a j = μ.1 a j := fun a j g => by
    rw [eμ, (gp_n3_f _ _ _ _).1 _ _ (by omega), gq_uI1, if_neg (by omega)]
  have fμ2 : μ0.2 = μ.2 := by rw [eμ, (gp_n3_f _ _ _ _).2]; rfl
  have y8 : μ0.1 42 8 = gq_I (fu + 1 : Nat) := by rw [eμ, (gp_n3_f _ _ _ _).1 _ _ (by omega), gq_uI1, if_pos ⟨rfl, rfl⟩]
  have g0 : ν0.1 206 23 = gq_I 1 := by rw [n5 _ _ (by omega) (by omega)]; exact hg
  have gm0 : ν0.1 206 21 = gq_I m0 := by rw [n5 _ _ (by omega) (by omega)]; exact hm0
  have go0 : ν0.1 206 22 = gq_I o0 := by rw [n5 _ _ (by omega) (by omega)]; exact ho0
  have z2 : ν0.1 217 2 = gq_I (-1) := by rw [eν0]; simp only [gq_uI1, gq_uI2, gq_uL1, gq_uL2, Nat.reduceEqDiff, false_and, and_false, and_true, true_and, if_true, if_false]
  have z3 : ν0.1 217 3 = gq_I (-1) := by rw [eν0]; simp only [gq_uI1, gq_uI2, gq_uL1, gq_uL2, Nat.reduceEqDiff, false_and, and_false, and_true, true_and, if_true, if_false]
  have tb0 := gt_tk_b n2.1
  obtain ⟨Jj, eJ⟩ : ∃ Jj : Bool → gx_M → Option (Bool × gx_M), Jj = (fun (j : Bool) (μ31 : gx_M) => if j = true then gx_bd (f_X12_keepRow (gq_I 4) (gq_I 40) (gx_uI μ31 217 0 (gq_I ((r : Int) - 6)))) (fun (_ : Unit) (μ35 : gx_M) => some (j, μ35)) else some (j, μ31)) := ⟨_, rfl⟩
  have ml : f_X12_lineOf (gq_I (1 : Nat)) (gq_L (gt_kw r)) (gq_I q) ν = gx_bd (gx_bd (f_X12_takeOne (gq_I (1 : Nat)) (gq_I 3) ν0) (fun (b0 : Bool) (μm0 : gx_M) => if b0 = true then gx_bd (f_X12_takeMinute (gq_I (2 : Nat)) (gq_I 0) μm0) (fun (b1 : Bool) (μm1 : gx_M) => if b1 = true then Jj true μm1 else Jj false μm1) else Jj false μm0)) (fun (r5 : Bool) (μ6 : gx_M) => some (r5, μ6)) := by
    have fl' : f_X12_full (gq_I 0) (gq_I 40) (gq_I q) ν = some ((), gp_l3 (40 < fu + 1) f q ν) := fl
    unfold f_X12_lineOf f_X12_yearLine f_X12_deedBy
    rcases hr with rfl | rfl | rfl | rfl
    · rw [show gt_kw 6 = 6452601 by decide +kernel]
      simp (disch := omega) only [gq_lit, gq_neg, gq_Llit, gq_Leq, gq_lte, Bool.false_eq_true, gq_leT, gq_leF, gq_ltT, gq_ltF, gq_eqT, gq_eqF, if_true, if_false, Int.reduceEq, fl', gq_bd, n1]
      rw [← eν0, eJ]
      rfl
    · rw [show gt_kw 7 = 499967946347 by decide +kernel]
      simp (disch := omega) only [gq_lit, gq_neg, gq_Llit, gq_Leq, gq_lte, Bool.false_eq_true, gq_leT, gq_leF, gq_ltT, gq_ltF, gq_eqT, gq_eqF, if_true, if_false, Int.reduceEq, fl', gq_bd, n1]
      rw [← eν0, eJ]
      rfl
    · rw [show gt_kw 8 = 495874040172 by decide +kernel]
      simp (disch := omega) only [gq_lit, gq_neg, gq_Llit, gq_Leq, gq_lte, Bool.false_eq_true, gq_leT, gq_leF, gq_ltT, gq_ltF, gq_eqT, gq_eqF, if_true, if_false, Int.reduceEq, fl', gq_bd, n1]
      rw [← eν0, eJ]
      rfl
    · rw [show gt_kw 9 = 1936026732 by decide +kernel]
      simp (disch := omega) only [gq_lit, gq_neg, gq_Llit, gq_Leq, gq_lte, Bool.false_eq_true, gq_leT, gq_leF, gq_ltT, gq_ltF, gq_eqT, gq_eqF, if_true, if_false, Int.reduceEq, fl', gq_bd, n1]
      rw [← eν0, eJ]
      rfl
  have cl : ∀ K, gp_cl 1 r K μ = L_X4_readLine_48 (gq_I r) K 4000 (gq_I 0) μ0 := fun K => by
    unfold gp_cl
    rw [cf, gq_bd]
  by_cases hk0 : k0 = 2
  · obtain ⟨k1, q1, e1, v1, f1, pl1, μ1, ν1, c01, c02, c03, ⟨c04, c04', c04b⟩, c05, ⟨c06, gm1, go1⟩, ⟨c07, c07'⟩, c08, c08'⟩ := gp_sO (i := 0) (i' := 1) (r := r) (s := 112) (lo := 0) (hi := 3) ok hl n2 hk0 r17 (by omega) (by rw [hsh]; decide +kernel) (by omega) (by omega) (by decide +kernel) (by decide +kernel) (by omega) g0 gm0 go0 (by first | exact ho0b | omega)
    have tb1 := gt_tk_b c03.1
    obtain ⟨w1, g1⟩ : ∃ w : Int, ν1.1 206 23 = gq_I w := by
      rw [c06]
      split
      · exact ⟨_, rfl⟩
      · exact ⟨0, rfl⟩
    by_cases hk1 : k1 = 2
    · obtain ⟨k2, q2, e2, v2, f2, pl2, μ2, ν2, c11, c12, c13, ⟨c14, c14', c14b⟩, c15, ⟨c16, gm2, go2⟩, ⟨c17, c17'⟩, c18, c18'⟩ := gp_sM (i := 1) (i' := 2) (r := r) (s := 109) (lo0 := 0) (lo := 0) ok hl c03 hk1 r17 (by omega) (by rw [hsh]; decide +kernel) (by omega) (by omega) (by decide +kernel) (by decide +kernel) (Or.inl ⟨by omega, rfl⟩) g1 gm1 (by first | exact hm0b | omega) go1
      have tb2 := gt_tk_b c13.1
      obtain ⟨w2, g2⟩ : ∃ w : Int, ν2.1 206 23 = gq_I w := by
        rw [c16]
        split
        · exact ⟨_, rfl⟩
        · exact ⟨0, rfl⟩
      have mb2 : -1 ≤ (if m0 ≤ v1 then v1 else m0) ∧ (if m0 ≤ v1 then v1 else m0) ≤ 99 := by split <;> omega
      have ob2 := 0
      obtain ⟨νz, b1, b2, b3, b4, b5, b6⟩ := gp_yr_tail (fu := fu) (νm := ν2) (x := (r : Int) - 6) (a := v0) (b := v1) (c := (-1)) (by rw [c18 _ _ (by omega) (by omega), c08 _ _ (by omega) (by omega), n5 _ _ (by omega) (by omega)]; exact xn.2.1 rfl) (by rw [c18 _ _ (by omega) (by omega)]; exact c04') (c14') (by rw [c18 _ _ (by omega) (by omega), c08 _ _ (by omega) (by omega)]; exact z3)
      have l1 : νz.1 217 1 = gq_I v0 := by
        rw [b4 _ _ (by omega) (by omega)]
        exact (by rw [c18 _ _ (by omega) (by omega)]; exact c04')
      right
      refine ⟨k2, q2, e2, e1, v2, f2, pl2, fu + 1, μ2, νz, fun K => ?_, ?_, gp_R_m c13 (fun a j g => ?_) ?_, by omega, ?_, ⟨gq_ln_w xl1 fun j => ?_, gq_ln_w xl2 fun j => ?_⟩, ⟨⟨_, by rw [b4 _ _ (by omega) (by omega)]; exact gm2, ?_⟩, _, by rw [b4 _ _ (by omega) (by omega)]; exact go2, ?_⟩, gp_rd2 b3 l1 (by omega) (by omega), ⟨fun g => absurd g (by decide), fun _ => b2, fun g => absurd g (by decide)⟩, ⟨fun a j g => ?_, ?_⟩, ⟨fun a j g => ?_, fun a j g => ?_⟩, fun hf μ4 h4 => ?_⟩
      · exact (cl K).trans ((c01 K 3999).trans ((c11 K 3998).trans (gp_exit r17 (by omega))))
      · rw [ml]
        simp only [c02, c12, gq_bd, if_true]
        rw [eJ]
        simp only [if_true]
        rw [b1]
        rfl
      · rw [b4 _ _ (by omega) (by omega)]
      · rw [b5]
      · rw [c17 _ _ (by omega) (by omega) (by omega), c07 _ _ (by omega) (by omega) (by omega)]; exact y8
      · rw [c17 _ _ (by omega) (by omega) (by omega), c07 _ _ (by omega) (by omega) (by omega), fμ _ _ (by omega)]
      · rw [c17 _ _ (by omega) (by omega) (by omega), c07 _ _ (by omega) (by omega) (by omega), fμ _ _ (by omega)]
      · first | omega | (split <;> omega)
      · first | omega | (split <;> omega)
      · rw [c17 _ _ (by omega) (by omega) (by omega), c07 _ _ (by omega) (by omega) (by omega), fμ _ _ (by omega)]
      · rw [c17', c07', fμ2]
      · rw [b4 _ _ (by omega) (by omega), c18 _ _ (by omega) (by omega), c08 _ _ (by omega) (by omega), n5 _ _ (by omega) (by omega)]
      · rw [b5, c18' _ _ (by omega), c08' _ _ (by omega), n6 _ _ (by omega)]
      · have hf2z := hf
        have hh1 := c15.mp hf
        have hh0 := c05.mp hh1.1
        obtain ⟨hff, ho⟩ := n3.mp hh0.1
        obtain ⟨y, u1, u2, u3, u4⟩ := (xc hff).2.1 rfl
        have zz : ∀ a j, 45 ≤ a → a ≤ 60 → μ4.1 a j = μ.1 a j := fun a j h1 h2 => by
          rw [h4 _ _ (by omega), c17 _ _ (by omega) (by omega) (by omega), c07 _ _ (by omega) (by omega) (by omega), fμ _ _ (by omega)]
        have d0 : μ4.1 61 0 = gq_I v0 := by rw [h4 _ _ (by omega), c17 _ _ (by omega) (by omega) (by omega)]; exact c04
        have d1 : f_X4_numberOrNone (gq_I r) (gq_I 1) μ4 = some (gq_I v1) := by
          have d : μ4.1 61 1 = gq_I v1 := by rw [h4 _ _ (by omega)]; exact c14
          unfold f_X4_numberOrNone
          rw [gt_shapeOf r r17, gt_len _ (by rw [hsh]; omega), hwl]
          simp (disch := omega) only [Int.reduceToNat, gq_lit, gq_neg, gq_add, gq_sub, gq_mul, gq_nat, Int.toNat_natCast, gq_tadd, gq_tmul, gq_lte, gq_br, gq_bd, gq_ck, Bool.false_eq_true, gq_leT, gq_leF, gq_ltT, gq_ltF, gq_eqT, gq_eqF, if_true, if_false, d]
        have d2 : f_X4_numberOrNone (gq_I r) (gq_I 2) μ4 = some (gq_I (-1)) := by
          unfold f_X4_numberOrNone
          rw [gt_shapeOf r r17, gt_len _ (by rw [hsh]; omega), hwl]
          simp (disch := omega) only [Int.reduceToNat, gq_lit, gq_neg, gq_add, gq_sub, gq_mul, gq_nat, Int.toNat_natCast, gq_tadd, gq_tmul, gq_lte, gq_br, gq_bd, gq_ck, Bool.false_eq_true, gq_leT, gq_leF, gq_ltT, gq_ltF, gq_eqT, gq_eqF, if_true, if_false]
        obtain ⟨μ5, s1, s2, s3, s4, s5, s6⟩ := gp_yr_tell (r := r) (fu := fu) (μ := μ4) (y := y) (a := v0) (b := v1) (c := (-1)) (by omega) (gq_ln_w xl1 fun j => zz _ _ (by omega) (by omega)) (gq_cY_sm u1 fun i hi => by funext j; exact zz _ _ (by omega) (by omega)) u3 (by omega) u4 d0 d1 d2 (by omega) (by omega) (by omega)
        refine ⟨μ5, s1, ⟨fun g => absurd g (by decide), fun _ => ⟨_, s2, b6 (by omega) y fun j hj => by rw [c18 _ _ (by omega) (by omega), c08 _ _ (by omega) (by omega), n5 _ _ (by omega) (by omega)]; exact u2 j hj, gp_yu_0, s3⟩, fun g => absurd g (by decide), fun g => absurd g (by decide)⟩, ⟨s4, gq_ln_w xl2 fun j => ?_⟩, fun a j g1 g2 => s5 _ _ (by omega), s6⟩
        rw [s5 _ _ (by omega), zz _ _ (by omega) (by omega)]
    · left
      intro K
      obtain ⟨μs, s1, s2, s3, s4, s5⟩ := gp_noC (i := 1) ok hl c03 hk1 r17 (by omega)
      refine ⟨μs, gx_uI ν1 206 16 (gq_I q1), q1, ?_, ?_, ⟨by omega, s2, s3, ?_⟩, ⟨gq_ln_w xl1 fun j => ?_, gq_ln_w xl2 fun j => ?_⟩, ?_, ⟨fun a j g => ?_, ?_⟩, ⟨fun a j g => ?_, fun a j g => ?_⟩⟩
      · exact (cl K).trans ((c01 K 3999).trans (s1 K 3998))
      · rw [ml]
        simp only [c02, gp_noMM c03 hk1, gq_bd, if_true, Bool.false_eq_true, if_false]
        rw [eJ]
        rfl
      · rw [gq_uI1, if_pos ⟨rfl, rfl⟩]
      · rw [s4 _ _ (by omega) (by omega), c07 _ _ (by omega) (by omega) (by omega), fμ _ _ (by omega)]
      · rw [s4 _ _ (by omega) (by omega), c07 _ _ (by omega) (by omega) (by omega), fμ _ _ (by omega)]
      · refine gp_rd2 (a := ra) (b := v0) ?_ ?_ hrab (by omega)
        · rw [gq_uI1, if_neg (by omega), c08 _ _ (by omega) (by omega), n5 _ _ (by omega) (by omega)]; exact hra
        · rw [gq_uI1, if_neg (by omega)]; exact c04'
      · rw [s4 _ _ (by omega) (by omega), c07 _ _ (by omega) (by omega) (by omega), fμ _ _ (by omega)]
      · rw [s5, c07', fμ2]
      · rw [gq_uI1, if_neg (by omega), c08 _ _ (by omega) (by omega), n5 _ _ (by omega) (by omega)]
      · rw [gq_uI2, c08' _ _ (by omega), n6 _ _ (by omega)]
  · left
    intro K
    obtain ⟨μs, s1, s2, s3, s4, s5⟩ := gp_noC (i := 0) ok hl n2 hk0 r17 (by omega)
    refine ⟨μs, gx_uI ν0 206 16 (gq_I q0), q0, ?_, ?_, ⟨by omega, s2, s3, ?_⟩, ⟨gq_ln_w xl1 fun j => ?_, gq_ln_w xl2 fun j => ?_⟩, ?_, ⟨fun a j g => ?_, ?_⟩, ⟨fun a j g => ?_, fun a j g => ?_⟩⟩
    · exact (cl K).trans (s1 K 3999)
    · rw [ml]
      simp only [gp_noMO n2 hk0, gq_bd, if_true, Bool.false_eq_true, if_false]
      rw [eJ]
      rfl
    · rw [gq_uI1, if_pos ⟨rfl, rfl⟩]
    · rw [s4 _ _ (by omega) (by omega), fμ _ _ (by omega)]
    · rw [s4 _ _ (by omega) (by omega), fμ _ _ (by omega)]
    · refine gp_rd2 (a := ra) (b := rb) ?_ ?_ hrab hrbb
      · rw [gq_uI1, if_neg (by omega), n5 _ _ (by omega) (by omega)]; exact hra
      · rw [gq_uI1, if_neg (by omega), n5 _ _ (by omega) (by omega)]; exact hrb
    · rw [s4 _ _ (by omega) (by omega), fμ _ _ (by omega)]
    · rw [s5, fμ2]
    · rw [gq_uI1, if_neg (by omega), n5 _ _ (by omega) (by omega)]
    · rw [gq_uI2, n6 _ _ (by omega)]
set_option maxHeartbeats 8000000 in
theorem gp_LL_y3 {r : Nat} (hr : r = 10) : gp_LL 1 r := by
  intro t len p q e v f pl fu μ ν ok hl hA hw hX hfu hg
  obtain ⟨x8, ⟨xl1, xl2⟩, ⟨⟨m0, hm0, hm0b⟩, o0, ho0, ho0b⟩, xr, xn, xc⟩ := hX
  obtain ⟨ra, rb, hra, hrb, hrab, hrbb⟩ := gp_rd_ex xr
  have tb := gt_tk_b hA.1
  have r17 : r < 17 := by omega
  have hsh : gt_sh r = 24 := by rcases hr with rfl <;> rfl
  have hwl : gt_wl (gt_sh r) = 3 := by rw [hsh]; rfl
  have mf : f_X4_mostFurther (gq_I (1 : Nat)) (gq_I r) = gq_I (40 : Nat) := by rcases hr with rfl <;> decide +kernel
  have cf := gp_cf (M := 40) (by omega) hfu mf hA x8
  have hA' : gp_A (gx_uI μ 42 8 (gq_I (fu + 1 : Nat))) ν t len p 1 q e v f pl := gp_A_c hA fun a j g => by simp (disch := omega) only [gq_uI1, gq_uI2, gq_uL1, gq_uL2, gq_ifF]
  have fl := gp_full (c := 0) (M := 40) (fu := fu) (by omega) (by omega) hl hfu hA (xn.2.1 rfl)
  obtain ⟨k0, q0, e0, v0, f0, pl0, ν0', n1, n2', n3, n4, n5', n6'⟩ := gp_next ok hl hA' (by decide) (40 < fu + 1)
  obtain ⟨μ0, eμ⟩ : ∃ μ0, μ0 = gp_n3 (40 < fu + 1) f q (gx_uI μ 42 8 (gq_I (fu + 1 : Nat))) := ⟨_, rfl⟩
  obtain ⟨ν0, eν0⟩ : ∃ ν0, ν0 = gx_uI (gx_uI ν0' 217 2 (gq_I (-1))) 217 3 (gq_I (-1)) := ⟨_, rfl⟩
  have n5 : ∀ a j, ¬ (a = 206 ∧ 10 ≤ j ∧ j ≤ 18 ∧ j ≠ 11) → ¬ (a = 217 ∧ 2 ≤ j) → ν0.1 a j = ν.1 a j := fun a j g1 g2 => by
    rw [eν0, gq_uI1, if_neg (by omega), gq_uI1, if_neg (by omega), n5' _ _ g1]
  have n6 : ∀ a j, ¬ (a = 206 ∧ j = 15) → ν0.2 a j = ν.2 a j := fun a j g1 => by
    rw [eν0, gq_uI2, gq_uI2, n6' _ _ g1]
  have n2 : gp_R μ0 ν0 t len e k0 q0 e0 v0 f0 pl0 := by
    rw [← eμ] at n2'
    exact gp_R_m n2' (fun a j g => by rw [eν0, gq_uI1, if_neg (by omega), gq_uI1, if_neg (by omega)]) (by rw [eν0]; rfl)
  rw [← eμ] at cf
  have fμ : ∀ a j, ¬ (a = 42 ∧ 6 ≤ j ∧ j ≤ 8) → μ0.1 a j = μ.1 a j := fun a j g => by
    rw [eμ, (gp_n3_f _ _ _ _).1 _ _ (by omega), gq_uI1, if_neg (by omega)]
  have fμ2 : μ0.2 = μ.2 := by rw [eμ, (gp_n3_f _ _ _ _).2]; rfl
  have y8 : μ0.1 42 8 = gq_I (fu + 1 : Nat) := by rw [eμ, (gp_n3_f _ _ _ _).1 _ _ (by omega), gq_uI1, if_pos ⟨rfl, rfl⟩]
  have g0 : ν0.1 206 23 = gq_I 1 := by rw [n5 _ _ (by omega) (by omega)]; exact hg
  have gm0 : ν0.1 206 21 = gq_I m0 := by rw [n5 _ _ (by omega) (by omega)]; exact hm0
  have go0 : ν0.1 206 22 = gq_I o0 := by rw [n5 _ _ (by omega) (by omega)]; exact ho0
  have z2 : ν0.1 217 2 = gq_I (-1) := by rw [eν0]; simp only [gq_uI1, gq_uI2, gq_uL1, gq_uL2, Nat.reduceEqDiff, false_and, and_false, and_true, true_and, if_true, if_false]
  have z3 : ν0.1 217 3 = gq_I (-1) := by rw [eν0]; simp only [gq_uI1, gq_uI2, gq_uL1, gq_uL2, Nat.reduceEqDiff, false_and, and_false, and_true, true_and, if_true, if_false]
  have tb0 := gt_tk_b n2.1
  obtain ⟨Jj, eJ⟩ : ∃ Jj : Bool → gx_M → Option (Bool × gx_M), Jj = (fun (j : Bool) (μ31 : gx_M) => if j = true then gx_bd (f_X12_keepRow (gq_I 4) (gq_I 40) (gx_uI μ31 217 0 (gq_I ((r : Int) - 6)))) (fun (_ : Unit) (μ35 : gx_M) => some (j, μ35)) else some (j, μ31)) := ⟨_, rfl⟩
  have ml : f_X12_lineOf (gq_I (1 : Nat)) (gq_L (gt_kw r)) (gq_I q) ν = gx_bd (gx_bd (f_X12_takeOne (gq_I (1 : Nat)) (gq_I 3) ν0) (fun (b0 : Bool) (μm0 : gx_M) => if b0 = true then gx_bd (f_X12_take (gq_I (2 : Nat)) (gq_I 0) (gq_I 5) μm0) (fun (b1 : Bool) (μm1 : gx_M) => if b1 = true then gx_bd (f_X12_takeMinute (gq_I (3 : Nat)) (gq_I 0) μm1) (fun (b2 : Bool) (μm2 : gx_M) => if b2 = true then Jj true μm2 else Jj false μm2) else Jj false μm1) else Jj false μm0)) (fun (r5 : Bool) (μ6 : gx_M) => some (r5, μ6)) := by
    have fl' : f_X12_full (gq_I 0) (gq_I 40) (gq_I q) ν = some ((), gp_l3 (40 < fu + 1) f q ν) := fl
    unfold f_X12_lineOf f_X12_yearLine f_X12_deedBy
    rcases hr with rfl
    · rw [show gt_kw 10 = 25711 by decide +kernel]
      simp (disch := omega) only [gq_lit, gq_neg, gq_Llit, gq_Leq, gq_lte, Bool.false_eq_true, gq_leT, gq_leF, gq_ltT, gq_ltF, gq_eqT, gq_eqF, if_true, if_false, Int.reduceEq, fl', gq_bd, n1]
      rw [← eν0, eJ]
      rfl
  have cl : ∀ K, gp_cl 1 r K μ = L_X4_readLine_48 (gq_I r) K 4000 (gq_I 0) μ0 := fun K => by
    unfold gp_cl
    rw [cf, gq_bd]
  by_cases hk0 : k0 = 2
  · obtain ⟨k1, q1, e1, v1, f1, pl1, μ1, ν1, c01, c02, c03, ⟨c04, c04', c04b⟩, c05, ⟨c06, gm1, go1⟩, ⟨c07, c07'⟩, c08, c08'⟩ := gp_sO (i := 0) (i' := 1) (r := r) (s := 112) (lo := 0) (hi := 3) ok hl n2 hk0 r17 (by omega) (by rw [hsh]; decide +kernel) (by omega) (by omega) (by decide +kernel) (by decide +kernel) (by omega) g0 gm0 go0 (by first | exact ho0b | omega)
    have tb1 := gt_tk_b c03.1
    obtain ⟨w1, g1⟩ : ∃ w : Int, ν1.1 206 23 = gq_I w := by
      rw [c06]
      split
      · exact ⟨_, rfl⟩
      · exact ⟨0, rfl⟩
    by_cases hk1 : k1 = 2
    · obtain ⟨k2, q2, e2, v2, f2, pl2, μ2, ν2, c11, c12, c13, ⟨c14, c14', c14b⟩, c15, ⟨c16, gm2, go2⟩, ⟨c17, c17'⟩, c18, c18'⟩ := gp_sT (i := 1) (i' := 2) (r := r) (s := 98) (lo0 := 0) (lo := 0) (hi := 5) ok hl c03 hk1 r17 (by omega) (by rw [hsh]; decide +kernel) (by omega) (by omega) (by omega) (by decide +kernel) (by decide +kernel) (Or.inl ⟨by omega, rfl⟩) g1 gm1 go1
      have tb2 := gt_tk_b c13.1
      obtain ⟨w2, g2⟩ : ∃ w : Int, ν2.1 206 23 = gq_I w := by
        rw [c16]
        split
        · exact ⟨_, rfl⟩
        · exact ⟨0, rfl⟩
      by_cases hk2 : k2 = 2
      · obtain ⟨k3, q3, e3, v3, f3, pl3, μ3, ν3, c21, c22, c23, ⟨c24, c24', c24b⟩, c25, ⟨c26, gm3, go3⟩, ⟨c27, c27'⟩, c28, c28'⟩ := gp_sM (i := 2) (i' := 3) (r := r) (s := 109) (lo0 := 0) (lo := 0) ok hl c13 hk2 r17 (by omega) (by rw [hsh]; decide +kernel) (by omega) (by omega) (by decide +kernel) (by decide +kernel) (Or.inl ⟨by omega, rfl⟩) g2 gm2 (by first | exact hm0b | omega) go2
        have tb3 := gt_tk_b c23.1
        obtain ⟨w3, g3⟩ : ∃ w : Int, ν3.1 206 23 = gq_I w := by
          rw [c26]
          split
          · exact ⟨_, rfl⟩
          · exact ⟨0, rfl⟩
        have mb3 : -1 ≤ (if m0 ≤ v2 then v2 else m0) ∧ (if m0 ≤ v2 then v2 else m0) ≤ 99 := by split <;> omega
        have ob3 := 0
        obtain ⟨νz, b1, b2, b3, b4, b5, b6⟩ := gp_yr_tail (fu := fu) (νm := ν3) (x := (r : Int) - 6) (a := v0) (b := v1) (c := v2) (by rw [c28 _ _ (by omega) (by omega), c18 _ _ (by omega) (by omega), c08 _ _ (by omega) (by omega), n5 _ _ (by omega) (by omega)]; exact xn.2.1 rfl) (by rw [c28 _ _ (by omega) (by omega), c18 _ _ (by omega) (by omega)]; exact c04') (by rw [c28 _ _ (by omega) (by omega)]; exact c14') (c24')
        have l1 : νz.1 217 1 = gq_I v0 := by
          rw [b4 _ _ (by omega) (by omega)]
          exact (by rw [c28 _ _ (by omega) (by omega), c18 _ _ (by omega) (by omega)]; exact c04')
        right
        refine ⟨k3, q3, e3, e2, v3, f3, pl3, fu + 1, μ3, νz, fun K => ?_, ?_, gp_R_m c23 (fun a j g => ?_) ?_, by omega, ?_, ⟨gq_ln_w xl1 fun j => ?_, gq_ln_w xl2 fun j => ?_⟩, ⟨⟨_, by rw [b4 _ _ (by omega) (by omega)]; exact gm3, ?_⟩, _, by rw [b4 _ _ (by omega) (by omega)]; exact go3, ?_⟩, gp_rd2 b3 l1 (by omega) (by omega), ⟨fun g => absurd g (by decide), fun _ => b2, fun g => absurd g (by decide)⟩, ⟨fun a j g => ?_, ?_⟩, ⟨fun a j g => ?_, fun a j g => ?_⟩, fun hf μ4 h4 => ?_⟩
        · exact (cl K).trans ((c01 K 3999).trans ((c11 K 3998).trans ((c21 K 3997).trans (gp_exit r17 (by omega)))))
        · rw [ml]
          simp only [c02, c12, c22, gq_bd, if_true]
          rw [eJ]
          simp only [if_true]
          rw [b1]
          rfl
        · rw [b4 _ _ (by omega) (by omega)]
        · rw [b5]
        · rw [c27 _ _ (by omega) (by omega) (by omega), c17 _ _ (by omega) (by omega) (by omega), c07 _ _ (by omega) (by omega) (by omega)]; exact y8
        · rw [c27 _ _ (by omega) (by omega) (by omega), c17 _ _ (by omega) (by omega) (by omega), c07 _ _ (by omega) (by omega) (by omega), fμ _ _ (by omega)]
        · rw [c27 _ _ (by omega) (by omega) (by omega), c17 _ _ (by omega) (by omega) (by omega), c07 _ _ (by omega) (by omega) (by omega), fμ _ _ (by omega)]
        · first | omega | (split <;> omega)
        · first | omega | (split <;> omega)
        · rw [c27 _ _ (by omega) (by omega) (by omega), c17 _ _ (by omega) (by omega) (by omega), c07 _ _ (by omega) (by omega) (by omega), fμ _ _ (by omega)]
        · rw [c27', c17', c07', fμ2]
        · rw [b4 _ _ (by omega) (by omega), c28 _ _ (by omega) (by omega), c18 _ _ (by omega) (by omega), c08 _ _ (by omega) (by omega), n5 _ _ (by omega) (by omega)]
        · rw [b5, c28' _ _ (by omega), c18' _ _ (by omega), c08' _ _ (by omega), n6 _ _ (by omega)]
        · have hf3z := hf
          have hh2 := c25.mp hf
          have hh1 := c15.mp hh2.1
          have hh0 := c05.mp hh1.1
          obtain ⟨hff, ho⟩ := n3.mp hh0.1
          obtain ⟨y, u1, u2, u3, u4⟩ := (xc hff).2.1 rfl
          have zz : ∀ a j, 45 ≤ a → a ≤ 60 → μ4.1 a j = μ.1 a j := fun a j h1 h2 => by
            rw [h4 _ _ (by omega), c27 _ _ (by omega) (by omega) (by omega), c17 _ _ (by omega) (by omega) (by omega), c07 _ _ (by omega) (by omega) (by omega), fμ _ _ (by omega)]
          have d0 : μ4.1 61 0 = gq_I v0 := by rw [h4 _ _ (by omega), c27 _ _ (by omega) (by omega) (by omega), c17 _ _ (by omega) (by omega) (by omega)]; exact c04
          have d1 : f_X4_numberOrNone (gq_I r) (gq_I 1) μ4 = some (gq_I v1) := by
            have d : μ4.1 61 1 = gq_I v1 := by rw [h4 _ _ (by omega), c27 _ _ (by omega) (by omega) (by omega)]; exact c14
            unfold f_X4_numberOrNone
            rw [gt_shapeOf r r17, gt_len _ (by rw [hsh]; omega), hwl]
            simp (disch := omega) only [Int.reduceToNat, gq_lit, gq_neg, gq_add, gq_sub, gq_mul, gq_nat, Int.toNat_natCast, gq_tadd, gq_tmul, gq_lte, gq_br, gq_bd, gq_ck, Bool.false_eq_true, gq_leT, gq_leF, gq_ltT, gq_ltF, gq_eqT, gq_eqF, if_true, if_false, d]
          have d2 : f_X4_numberOrNone (gq_I r) (gq_I 2) μ4 = some (gq_I v2) := by
            have d : μ4.1 61 2 = gq_I v2 := by rw [h4 _ _ (by omega)]; exact c24
            unfold f_X4_numberOrNone
            rw [gt_shapeOf r r17, gt_len _ (by rw [hsh]; omega), hwl]
            simp (disch := omega) only [Int.reduceToNat, gq_lit, gq_neg, gq_add, gq_sub, gq_mul, gq_nat, Int.toNat_natCast, gq_tadd, gq_tmul, gq_lte, gq_br, gq_bd, gq_ck, Bool.false_eq_true, gq_leT, gq_leF, gq_ltT, gq_ltF, gq_eqT, gq_eqF, if_true, if_false, d]
          obtain ⟨μ5, s1, s2, s3, s4, s5, s6⟩ := gp_yr_tell (r := r) (fu := fu) (μ := μ4) (y := y) (a := v0) (b := v1) (c := v2) (by omega) (gq_ln_w xl1 fun j => zz _ _ (by omega) (by omega)) (gq_cY_sm u1 fun i hi => by funext j; exact zz _ _ (by omega) (by omega)) u3 (by omega) u4 d0 d1 d2 (by omega) (by omega) (by omega)
          refine ⟨μ5, s1, ⟨fun g => absurd g (by decide), fun _ => ⟨_, s2, b6 (by omega) y fun j hj => by rw [c28 _ _ (by omega) (by omega), c18 _ _ (by omega) (by omega), c08 _ _ (by omega) (by omega), n5 _ _ (by omega) (by omega)]; exact u2 j hj, gp_yu_0, s3⟩, fun g => absurd g (by decide), fun g => absurd g (by decide)⟩, ⟨s4, gq_ln_w xl2 fun j => ?_⟩, fun a j g1 g2 => s5 _ _ (by omega), s6⟩
          rw [s5 _ _ (by omega), zz _ _ (by omega) (by omega)]
      · left
        intro K
        obtain ⟨μs, s1, s2, s3, s4, s5⟩ := gp_noC (i := 2) ok hl c13 hk2 r17 (by omega)
        refine ⟨μs, gx_uI ν2 206 16 (gq_I q2), q2, ?_, ?_, ⟨by omega, s2, s3, ?_⟩, ⟨gq_ln_w xl1 fun j => ?_, gq_ln_w xl2 fun j => ?_⟩, ?_, ⟨fun a j g => ?_, ?_⟩, ⟨fun a j g => ?_, fun a j g => ?_⟩⟩
        · exact (cl K).trans ((c01 K 3999).trans ((c11 K 3998).trans (s1 K 3997)))
        · rw [ml]
          simp only [c02, c12, gp_noMM c13 hk2, gq_bd, if_true, Bool.false_eq_true, if_false]
          rw [eJ]
          rfl
        · rw [gq_uI1, if_pos ⟨rfl, rfl⟩]
        · rw [s4 _ _ (by omega) (by omega), c17 _ _ (by omega) (by omega) (by omega), c07 _ _ (by omega) (by omega) (by omega), fμ _ _ (by omega)]
        · rw [s4 _ _ (by omega) (by omega), c17 _ _ (by omega) (by omega) (by omega), c07 _ _ (by omega) (by omega) (by omega), fμ _ _ (by omega)]
        · refine gp_rd2 (a := ra) (b := v0) ?_ ?_ hrab (by omega)
          · rw [gq_uI1, if_neg (by omega), c18 _ _ (by omega) (by omega), c08 _ _ (by omega) (by omega), n5 _ _ (by omega) (by omega)]; exact hra
          · rw [gq_uI1, if_neg (by omega), c18 _ _ (by omega) (by omega)]; exact c04'
        · rw [s4 _ _ (by omega) (by omega), c17 _ _ (by omega) (by omega) (by omega), c07 _ _ (by omega) (by omega) (by omega), fμ _ _ (by omega)]
        · rw [s5, c17', c07', fμ2]
        · rw [gq_uI1, if_neg (by omega), c18 _ _ (by omega) (by omega), c08 _ _ (by omega) (by omega), n5 _ _ (by omega) (by omega)]
        · rw [gq_uI2, c18' _ _ (by omega), c08' _ _ (by omega), n6 _ _ (by omega)]
    · left
      intro K
      obtain ⟨μs, s1, s2, s3, s4, s5⟩ := gp_noC (i := 1) ok hl c03 hk1 r17 (by omega)
      refine ⟨μs, gx_uI ν1 206 16 (gq_I q1), q1, ?_, ?_, ⟨by omega, s2, s3, ?_⟩, ⟨gq_ln_w xl1 fun j => ?_, gq_ln_w xl2 fun j => ?_⟩, ?_, ⟨fun a j g => ?_, ?_⟩, ⟨fun a j g => ?_, fun a j g => ?_⟩⟩
      · exact (cl K).trans ((c01 K 3999).trans (s1 K 3998))
      · rw [ml]
        simp only [c02, gp_noM c03 hk1, gq_bd, if_true, Bool.false_eq_true, if_false]
        rw [eJ]
        rfl
      · rw [gq_uI1, if_pos ⟨rfl, rfl⟩]
      · rw [s4 _ _ (by omega) (by omega), c07 _ _ (by omega) (by omega) (by omega), fμ _ _ (by omega)]
      · rw [s4 _ _ (by omega) (by omega), c07 _ _ (by omega) (by omega) (by omega), fμ _ _ (by omega)]
      · refine gp_rd2 (a := ra) (b := v0) ?_ ?_ hrab (by omega)
        · rw [gq_uI1, if_neg (by omega), c08 _ _ (by omega) (by omega), n5 _ _ (by omega) (by omega)]; exact hra
        · rw [gq_uI1, if_neg (by omega)]; exact c04'
      · rw [s4 _ _ (by omega) (by omega), c07 _ _ (by omega) (by omega) (by omega), fμ _ _ (by omega)]
      · rw [s5, c07', fμ2]
      · rw [gq_uI1, if_neg (by omega), c08 _ _ (by omega) (by omega), n5 _ _ (by omega) (by omega)]
      · rw [gq_uI2, c08' _ _ (by omega), n6 _ _ (by omega)]
  · left
    intro K
    obtain ⟨μs, s1, s2, s3, s4, s5⟩ := gp_noC (i := 0) ok hl n2 hk0 r17 (by omega)
    refine ⟨μs, gx_uI ν0 206 16 (gq_I q0), q0, ?_, ?_, ⟨by omega, s2, s3, ?_⟩, ⟨gq_ln_w xl1 fun j => ?_, gq_ln_w xl2 fun j => ?_⟩, ?_, ⟨fun a j g => ?_, ?_⟩, ⟨fun a j g => ?_, fun a j g => ?_⟩⟩
    · exact (cl K).trans (s1 K 3999)
    · rw [ml]
      simp only [gp_noMO n2 hk0, gq_bd, if_true, Bool.false_eq_true, if_false]
      rw [eJ]
      rfl
    · rw [gq_uI1, if_pos ⟨rfl, rfl⟩]
    · rw [s4 _ _ (by omega) (by omega), fμ _ _ (by omega)]
    · rw [s4 _ _ (by omega) (by omega), fμ _ _ (by omega)]
    · refine gp_rd2 (a := ra) (b := rb) ?_ ?_ hrab hrbb
      · rw [gq_uI1, if_neg (by omega), n5 _ _ (by omega) (by omega)]; exact hra
      · rw [gq_uI1, if_neg (by omega), n5 _ _ (by omega) (by omega)]; exact hrb
    · rw [s4 _ _ (by omega) (by omega), fμ _ _ (by omega)]
    · rw [s5, fμ2]
    · rw [gq_uI1, if_neg (by omega), n5 _ _ (by omega) (by omega)]
    · rw [gq_uI2, n6 _ _ (by omega)]
set_option maxHeartbeats 8000000 in
theorem gp_LL_y1 {r : Nat} (hr : r = 11 ∨ r = 12) : gp_LL 1 r := by
  intro t len p q e v f pl fu μ ν ok hl hA hw hX hfu hg
  obtain ⟨x8, ⟨xl1, xl2⟩, ⟨⟨m0, hm0, hm0b⟩, o0, ho0, ho0b⟩, xr, xn, xc⟩ := hX
  obtain ⟨ra, rb, hra, hrb, hrab, hrbb⟩ := gp_rd_ex xr
  have tb := gt_tk_b hA.1
  have r17 : r < 17 := by omega
  have hsh : gt_sh r = 27 := by rcases hr with rfl | rfl <;> rfl
  have hwl : gt_wl (gt_sh r) = 1 := by rw [hsh]; rfl
  have mf : f_X4_mostFurther (gq_I (1 : Nat)) (gq_I r) = gq_I (40 : Nat) := by rcases hr with rfl | rfl <;> decide +kernel
  have cf := gp_cf (M := 40) (by omega) hfu mf hA x8
  have hA' : gp_A (gx_uI μ 42 8 (gq_I (fu + 1 : Nat))) ν t len p 1 q e v f pl := gp_A_c hA fun a j g => by simp (disch := omega) only [gq_uI1, gq_uI2, gq_uL1, gq_uL2, gq_ifF]
  have fl := gp_full (c := 0) (M := 40) (fu := fu) (by omega) (by omega) hl hfu hA (xn.2.1 rfl)
  obtain ⟨k0, q0, e0, v0, f0, pl0, ν0', n1, n2', n3, n4, n5', n6'⟩ := gp_next ok hl hA' (by decide) (40 < fu + 1)
  obtain ⟨μ0, eμ⟩ : ∃ μ0, μ0 = gp_n3 (40 < fu + 1) f q (gx_uI μ 42 8 (gq_I (fu + 1 : Nat))) := ⟨_, rfl⟩
  obtain ⟨ν0, eν0⟩ : ∃ ν0, ν0 = gx_uI (gx_uI ν0' 217 2 (gq_I (-1))) 217 3 (gq_I (-1)) := ⟨_, rfl⟩
  have n5 : ∀ a j, ¬ (a = 206 ∧ 10 ≤ j ∧ j ≤ 18 ∧ j ≠ 11) → ¬ (a = 217 ∧ 2 ≤ j) → ν0.1 a j = ν.1 a j := fun a j g1 g2 => by
    rw [eν0, gq_uI1, if_neg (by omega), gq_uI1, if_neg (by omega), n5' _ _ g1]
  have n6 : ∀ a j, ¬ (a = 206 ∧ j = 15) → ν0.2 a j = ν.2 a j := fun a j g1 => by
    rw [eν0, gq_uI2, gq_uI2, n6' _ _ g1]
  have n2 : gp_R μ0 ν0 t len e k0 q0 e0 v0 f0 pl0 := by
    rw [← eμ] at n2'
    exact gp_R_m n2' (fun a j g => by rw [eν0, gq_uI1, if_neg (by omega), gq_uI1, if_neg (by omega)]) (by rw [eν0]; rfl)
  rw [← eμ] at cf
  have fμ : ∀ a j, ¬ (a = 42 ∧ 6 ≤ j ∧ j ≤ 8) → μ0.1 a j = μ.1 a j := fun a j g => by
    rw [eμ, (gp_n3_f _ _ _ _).1 _ _ (by omega), gq_uI1, if_neg (by omega)]
  have fμ2 : μ0.2 = μ.2 := by rw [eμ, (gp_n3_f _ _ _ _).2]; rfl
  have y8 : μ0.1 42 8 = gq_I (fu + 1 : Nat) := by rw [eμ, (gp_n3_f _ _ _ _).1 _ _ (by omega), gq_uI1, if_pos ⟨rfl, rfl⟩]
  have g0 : ν0.1 206 23 = gq_I 1 := by rw [n5 _ _ (by omega) (by omega)]; exact hg
  have gm0 : ν0.1 206 21 = gq_I m0 := by rw [n5 _ _ (by omega) (by omega)]; exact hm0
  have go0 : ν0.1 206 22 = gq_I o0 := by rw [n5 _ _ (by omega) (by omega)]; exact ho0
  have z2 : ν0.1 217 2 = gq_I (-1) := by rw [eν0]; simp only [gq_uI1, gq_uI2, gq_uL1, gq_uL2, Nat.reduceEqDiff, false_and, and_false, and_true, true_and, if_true, if_false]
  have z3 : ν0.1 217 3 = gq_I (-1) := by rw [eν0]; simp only [gq_uI1, gq_uI2, gq_uL1, gq_uL2, Nat.reduceEqDiff, false_and, and_false, and_true, true_and, if_true, if_false]
  have tb0 := gt_tk_b n2.1
  obtain ⟨Jj, eJ⟩ : ∃ Jj : Bool → gx_M → Option (Bool × gx_M), Jj = (fun (j : Bool) (μ31 : gx_M) => if j = true then gx_bd (f_X12_keepRow (gq_I 4) (gq_I 40) (gx_uI μ31 217 0 (gq_I ((r : Int) - 6)))) (fun (_ : Unit) (μ35 : gx_M) => some (j, μ35)) else some (j, μ31)) := ⟨_, rfl⟩
  have ml : f_X12_lineOf (gq_I (1 : Nat)) (gq_L (gt_kw r)) (gq_I q) ν = gx_bd (gx_bd (f_X12_takeMinute (gq_I (1 : Nat)) (gq_I 0) ν0) (fun (b0 : Bool) (μm0 : gx_M) => Jj b0 μm0)) (fun (r5 : Bool) (μ6 : gx_M) => some (r5, μ6)) := by
    have fl' : f_X12_full (gq_I 0) (gq_I 40) (gq_I q) ν = some ((), gp_l3 (40 < fu + 1) f q ν) := fl
    unfold f_X12_lineOf f_X12_yearLine f_X12_deedBy
    rcases hr with rfl | rfl
    · rw [show gt_kw 11 = 110386589361522 by decide +kernel]
      simp (disch := omega) only [gq_lit, gq_neg, gq_Llit, gq_Leq, gq_lte, Bool.false_eq_true, gq_leT, gq_leF, gq_ltT, gq_ltF, gq_eqT, gq_eqF, if_true, if_false, Int.reduceEq, fl', gq_bd, n1]
      rw [← eν0, eJ]
      rfl
    · rw [show gt_kw 12 = 27980807330096498 by decide +kernel]
      simp (disch := omega) only [gq_lit, gq_neg, gq_Llit, gq_Leq, gq_lte, Bool.false_eq_true, gq_leT, gq_leF, gq_ltT, gq_ltF, gq_eqT, gq_eqF, if_true, if_false, Int.reduceEq, fl', gq_bd, n1]
      rw [← eν0, eJ]
      rfl
  have cl : ∀ K, gp_cl 1 r K μ = L_X4_readLine_48 (gq_I r) K 4000 (gq_I 0) μ0 := fun K => by
    unfold gp_cl
    rw [cf, gq_bd]
  by_cases hk0 : k0 = 2
  · obtain ⟨k1, q1, e1, v1, f1, pl1, μ1, ν1, c01, c02, c03, ⟨c04, c04', c04b⟩, c05, ⟨c06, gm1, go1⟩, ⟨c07, c07'⟩, c08, c08'⟩ := gp_sM (i := 0) (i' := 1) (r := r) (s := 109) (lo0 := 0) (lo := 0) ok hl n2 hk0 r17 (by omega) (by rw [hsh]; decide +kernel) (by omega) (by omega) (by decide +kernel) (by decide +kernel) (Or.inl ⟨by omega, rfl⟩) g0 gm0 (by first | exact hm0b | omega) go0
    have tb1 := gt_tk_b c03.1
    obtain ⟨w1, g1⟩ : ∃ w : Int, ν1.1 206 23 = gq_I w := by
      rw [c06]
      split
      · exact ⟨_, rfl⟩
      · exact ⟨0, rfl⟩
    have mb1 : -1 ≤ (if m0 ≤ v0 then v0 else m0) ∧ (if m0 ≤ v0 then v0 else m0) ≤ 99 := by split <;> omega
    have ob1 := 0
    obtain ⟨νz, b1, b2, b3, b4, b5, b6⟩ := gp_yr_tail (fu := fu) (νm := ν1) (x := (r : Int) - 6) (a := v0) (b := (-1)) (c := (-1)) (by rw [c08 _ _ (by omega) (by omega), n5 _ _ (by omega) (by omega)]; exact xn.2.1 rfl) (c04') (by rw [c08 _ _ (by omega) (by omega)]; exact z2) (by rw [c08 _ _ (by omega) (by omega)]; exact z3)
    have l1 : νz.1 217 1 = gq_I v0 := by
      rw [b4 _ _ (by omega) (by omega)]
      exact c04'
    right
    refine ⟨k1, q1, e1, e0, v1, f1, pl1, fu + 1, μ1, νz, fun K => ?_, ?_, gp_R_m c03 (fun a j g => ?_) ?_, by omega, ?_, ⟨gq_ln_w xl1 fun j => ?_, gq_ln_w xl2 fun j => ?_⟩, ⟨⟨_, by rw [b4 _ _ (by omega) (by omega)]; exact gm1, ?_⟩, _, by rw [b4 _ _ (by omega) (by omega)]; exact go1, ?_⟩, gp_rd2 b3 l1 (by omega) (by omega), ⟨fun g => absurd g (by decide), fun _ => b2, fun g => absurd g (by decide)⟩, ⟨fun a j g => ?_, ?_⟩, ⟨fun a j g => ?_, fun a j g => ?_⟩, fun hf μ4 h4 => ?_⟩
    · exact (cl K).trans ((c01 K 3999).trans (gp_exit r17 (by omega)))
    · rw [ml]
      simp only [c02, gq_bd, if_true]
      rw [eJ]
      simp only [if_true]
      rw [b1]
      rfl
    · rw [b4 _ _ (by omega) (by omega)]
    · rw [b5]
    · rw [c07 _ _ (by omega) (by omega) (by omega)]; exact y8
    · rw [c07 _ _ (by omega) (by omega) (by omega), fμ _ _ (by omega)]
    · rw [c07 _ _ (by omega) (by omega) (by omega), fμ _ _ (by omega)]
    · first | omega | (split <;> omega)
    · first | omega | (split <;> omega)
    · rw [c07 _ _ (by omega) (by omega) (by omega), fμ _ _ (by omega)]
    · rw [c07', fμ2]
    · rw [b4 _ _ (by omega) (by omega), c08 _ _ (by omega) (by omega), n5 _ _ (by omega) (by omega)]
    · rw [b5, c08' _ _ (by omega), n6 _ _ (by omega)]
    · have hf1z := hf
      have hh0 := c05.mp hf
      obtain ⟨hff, ho⟩ := n3.mp hh0.1
      obtain ⟨y, u1, u2, u3, u4⟩ := (xc hff).2.1 rfl
      have zz : ∀ a j, 45 ≤ a → a ≤ 60 → μ4.1 a j = μ.1 a j := fun a j h1 h2 => by
        rw [h4 _ _ (by omega), c07 _ _ (by omega) (by omega) (by omega), fμ _ _ (by omega)]
      have d0 : μ4.1 61 0 = gq_I v0 := by rw [h4 _ _ (by omega)]; exact c04
      have d1 : f_X4_numberOrNone (gq_I r) (gq_I 1) μ4 = some (gq_I (-1)) := by
        unfold f_X4_numberOrNone
        rw [gt_shapeOf r r17, gt_len _ (by rw [hsh]; omega), hwl]
        simp (disch := omega) only [Int.reduceToNat, gq_lit, gq_neg, gq_add, gq_sub, gq_mul, gq_nat, Int.toNat_natCast, gq_tadd, gq_tmul, gq_lte, gq_br, gq_bd, gq_ck, Bool.false_eq_true, gq_leT, gq_leF, gq_ltT, gq_ltF, gq_eqT, gq_eqF, if_true, if_false]
      have d2 : f_X4_numberOrNone (gq_I r) (gq_I 2) μ4 = some (gq_I (-1)) := by
        unfold f_X4_numberOrNone
        rw [gt_shapeOf r r17, gt_len _ (by rw [hsh]; omega), hwl]
        simp (disch := omega) only [Int.reduceToNat, gq_lit, gq_neg, gq_add, gq_sub, gq_mul, gq_nat, Int.toNat_natCast, gq_tadd, gq_tmul, gq_lte, gq_br, gq_bd, gq_ck, Bool.false_eq_true, gq_leT, gq_leF, gq_ltT, gq_ltF, gq_eqT, gq_eqF, if_true, if_false]
      obtain ⟨μ5, s1, s2, s3, s4, s5, s6⟩ := gp_yr_tell (r := r) (fu := fu) (μ := μ4) (y := y) (a := v0) (b := (-1)) (c := (-1)) (by omega) (gq_ln_w xl1 fun j => zz _ _ (by omega) (by omega)) (gq_cY_sm u1 fun i hi => by funext j; exact zz _ _ (by omega) (by omega)) u3 (by omega) u4 d0 d1 d2 (by omega) (by omega) (by omega)
      refine ⟨μ5, s1, ⟨fun g => absurd g (by decide), fun _ => ⟨_, s2, b6 (by omega) y fun j hj => by rw [c08 _ _ (by omega) (by omega), n5 _ _ (by omega) (by omega)]; exact u2 j hj, gp_yu_0, s3⟩, fun g => absurd g (by decide), fun g => absurd g (by decide)⟩, ⟨s4, gq_ln_w xl2 fun j => ?_⟩, fun a j g1 g2 => s5 _ _ (by omega), s6⟩
      rw [s5 _ _ (by omega), zz _ _ (by omega) (by omega)]
  · left
    intro K
    obtain ⟨μs, s1, s2, s3, s4, s5⟩ := gp_noC (i := 0) ok hl n2 hk0 r17 (by omega)
    refine ⟨μs, gx_uI ν0 206 16 (gq_I q0), q0, ?_, ?_, ⟨by omega, s2, s3, ?_⟩, ⟨gq_ln_w xl1 fun j => ?_, gq_ln_w xl2 fun j => ?_⟩, ?_, ⟨fun a j g => ?_, ?_⟩, ⟨fun a j g => ?_, fun a j g => ?_⟩⟩
    · exact (cl K).trans (s1 K 3999)
    · rw [ml]
      simp only [gp_noMM n2 hk0, gq_bd, if_true, Bool.false_eq_true, if_false]
      rw [eJ]
      rfl
    · rw [gq_uI1, if_pos ⟨rfl, rfl⟩]
    · rw [s4 _ _ (by omega) (by omega), fμ _ _ (by omega)]
    · rw [s4 _ _ (by omega) (by omega), fμ _ _ (by omega)]
    · refine gp_rd2 (a := ra) (b := rb) ?_ ?_ hrab hrbb
      · rw [gq_uI1, if_neg (by omega), n5 _ _ (by omega) (by omega)]; exact hra
      · rw [gq_uI1, if_neg (by omega), n5 _ _ (by omega) (by omega)]; exact hrb
    · rw [s4 _ _ (by omega) (by omega), fμ _ _ (by omega)]
    · rw [s5, fμ2]
    · rw [gq_uI1, if_neg (by omega), n5 _ _ (by omega) (by omega)]
    · rw [gq_uI2, n6 _ _ (by omega)]
