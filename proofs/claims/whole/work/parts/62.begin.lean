/-! a play begins, on both sides -/
theorem gy_begL {k : gx_M → Option (Unit × gx_M)} : ∀ (d f i : Nat) (μ : gx_M), d < f → i + d = 40 → ∃ μ', L_X3_begin_34 k f (gq_I i) μ = k μ' ∧ (∀ j, i ≤ j → j < 40 → μ'.1 71 j = gq_I 0) ∧ (∀ a j, ¬ (i ≤ j ∧ a = 71) → μ'.1 a j = μ.1 a j) ∧ μ'.2 = μ.2
  | _, 0, _, _, hf, _ => absurd hf (Nat.not_lt_zero _)
  | 0, f + 1, i, μ, hf, hi => by
    refine ⟨μ, ?_, fun j h2 h3 => absurd h3 (by omega), fun _ _ _ => rfl, rfl⟩
    rw [L_X3_begin_34.eq_2]
    simp (disch := omega) only [Int.reduceToNat, gq_lit, gq_neg, gq_add, gq_sub, gq_mul, gq_nat, Int.toNat_natCast, gq_tadd, gq_tmul, gq_lte, gq_br, gq_bd, gq_ck, Bool.false_eq_true, gq_leT, gq_leF, gq_ltT, gq_ltF, gq_eqT, gq_eqF, if_true, if_false]
  | d + 1, f + 1, i, μ, hf, hi => by
    obtain ⟨μ', e1, e2, e3, e4⟩ := gy_begL (k := k) d f (i + 1) (gx_uI μ 71 i (gq_I 0)) (by omega) (by omega)
    refine ⟨μ', ?_, fun j h2 h3 => ?_, fun a j ha => ?_, e4⟩
    · rw [L_X3_begin_34.eq_2]
      simp (disch := omega) only [Int.reduceToNat, gq_lit, gq_neg, gq_add, gq_sub, gq_mul, gq_nat, Int.toNat_natCast, gq_tadd, gq_tmul, gq_lte, gq_br, gq_bd, gq_ck, Bool.false_eq_true, gq_leT, gq_leF, gq_ltT, gq_ltF, gq_eqT, gq_eqF, if_true, if_false, gq_biF]
      exact e1
    · by_cases hj : j = i
      · subst hj
        rw [e3 71 j (by omega)]
        simp only [gq_uI1, gq_uI2, gq_uL1, gq_uL2, Nat.reduceEqDiff, false_and, and_false, and_true, true_and, if_true, and_self]
      · exact e2 j (by omega) h3
    · rw [e3 a j (by omega)]
      simp (disch := omega) only [gq_uI1, gq_uI2, gq_uL1, gq_uL2, gq_ifF]
theorem gy_op7 {k : gx_M → Option (Unit × gx_M)} : ∀ (d f i : Nat) (μ : gx_M), d < f → i + d = 4 → ∃ μ', L_X12_opens_7 k f (gq_I i) μ = k μ' ∧ (∀ j, i ≤ j → j < 4 → μ'.1 223 j = gq_I 0) ∧ (∀ a j, ¬ (i ≤ j ∧ a = 223) → μ'.1 a j = μ.1 a j) ∧ μ'.2 = μ.2
  | _, 0, _, _, hf, _ => absurd hf (Nat.not_lt_zero _)
  | 0, f + 1, i, μ, hf, hi => by
    refine ⟨μ, ?_, fun j h2 h3 => absurd h3 (by omega), fun _ _ _ => rfl, rfl⟩
    rw [L_X12_opens_7.eq_2]
    simp (disch := omega) only [Int.reduceToNat, gq_lit, gq_neg, gq_add, gq_sub, gq_mul, gq_nat, Int.toNat_natCast, gq_tadd, gq_tmul, gq_lte, gq_br, gq_bd, gq_ck, Bool.false_eq_true, gq_leT, gq_leF, gq_ltT, gq_ltF, gq_eqT, gq_eqF, if_true, if_false]
  | d + 1, f + 1, i, μ, hf, hi => by
    obtain ⟨μ', e1, e2, e3, e4⟩ := gy_op7 (k := k) d f (i + 1) (gx_uI μ 223 i (gq_I 0)) (by omega) (by omega)
    refine ⟨μ', ?_, fun j h2 h3 => ?_, fun a j ha => ?_, e4⟩
    · rw [L_X12_opens_7.eq_2]
      simp (disch := omega) only [Int.reduceToNat, gq_lit, gq_neg, gq_add, gq_sub, gq_mul, gq_nat, Int.toNat_natCast, gq_tadd, gq_tmul, gq_lte, gq_br, gq_bd, gq_ck, Bool.false_eq_true, gq_leT, gq_leF, gq_ltT, gq_ltF, gq_eqT, gq_eqF, if_true, if_false]
      exact e1
    · by_cases hj : j = i
      · subst hj
        rw [e3 223 j (by omega)]
        simp only [gq_uI1, gq_uI2, gq_uL1, gq_uL2, Nat.reduceEqDiff, false_and, and_false, and_true, true_and, if_true, and_self]
      · exact e2 j (by omega) h3
    · rw [e3 a j (by omega)]
      simp (disch := omega) only [gq_uI1, gq_uI2, gq_uL1, gq_uL2, gq_ifF]
theorem gy_op27 {k : gx_M → Option (Unit × gx_M)} : ∀ (d f i : Nat) (μ : gx_M), d < f → i + d = 40 → ∃ μ', L_X12_opens_27 k f (gq_I i) μ = k μ' ∧ (∀ j, i ≤ j → j < 40 → μ'.1 224 j = gq_I 0) ∧ (∀ a j, ¬ (i ≤ j ∧ a = 224) → μ'.1 a j = μ.1 a j) ∧ μ'.2 = μ.2
  | _, 0, _, _, hf, _ => absurd hf (Nat.not_lt_zero _)
  | 0, f + 1, i, μ, hf, hi => by
    refine ⟨μ, ?_, fun j h2 h3 => absurd h3 (by omega), fun _ _ _ => rfl, rfl⟩
    rw [L_X12_opens_27.eq_2]
    simp (disch := omega) only [Int.reduceToNat, gq_lit, gq_neg, gq_add, gq_sub, gq_mul, gq_nat, Int.toNat_natCast, gq_tadd, gq_tmul, gq_lte, gq_br, gq_bd, gq_ck, Bool.false_eq_true, gq_leT, gq_leF, gq_ltT, gq_ltF, gq_eqT, gq_eqF, if_true, if_false]
  | d + 1, f + 1, i, μ, hf, hi => by
    obtain ⟨μ', e1, e2, e3, e4⟩ := gy_op27 (k := k) d f (i + 1) (gx_uI μ 224 i (gq_I 0)) (by omega) (by omega)
    refine ⟨μ', ?_, fun j h2 h3 => ?_, fun a j ha => ?_, e4⟩
    · rw [L_X12_opens_27.eq_2]
      simp (disch := omega) only [Int.reduceToNat, gq_lit, gq_neg, gq_add, gq_sub, gq_mul, gq_nat, Int.toNat_natCast, gq_tadd, gq_tmul, gq_lte, gq_br, gq_bd, gq_ck, Bool.false_eq_true, gq_leT, gq_leF, gq_ltT, gq_ltF, gq_eqT, gq_eqF, if_true, if_false]
      exact e1
    · by_cases hj : j = i
      · subst hj
        rw [e3 224 j (by omega)]
        simp only [gq_uI1, gq_uI2, gq_uL1, gq_uL2, Nat.reduceEqDiff, false_and, and_false, and_true, true_and, if_true, and_self]
      · exact e2 j (by omega) h3
    · rw [e3 a j (by omega)]
      simp (disch := omega) only [gq_uI1, gq_uI2, gq_uL1, gq_uL2, gq_ifF]
/-- what the class does -/
theorem gy_begC {μ : gx_M} {s : Nat} {w : Nat → Int} (hs : s < 2) (ok : gq_okS w) (hc : gq_cS μ (8 + 16 * s) w) : ∃ μ', f_X3_begin (8 + 16 * s) μ = some ((), μ') ∧ gq_cS μ' 63 w ∧ (∀ j, j < 40 → μ'.1 71 j = gq_I 0) ∧ (∀ j, j < 6 → μ'.1 72 j = gq_I (-1)) ∧ (∀ j, j < 4 → μ'.1 73 j = gq_I 0) ∧ (∀ j, j < 40 → μ'.1 74 j = gq_I 0) ∧ μ'.1 62 5 = gq_I (-1) ∧ gy_kc μ μ' := by
  obtain ⟨μ1, a1, a2, a3, a4⟩ := gq_copyS (a0 := 63) (a1 := 8 + 16 * s) (μ := μ) (by omega)
  obtain ⟨μ2, b1, b2, b3, b4⟩ := gp_af (a := 72) (n := 6) (gq_I (-1)) (by omega) μ1
  obtain ⟨μ3, c1, c2, c3, c4⟩ := gp_af (a := 73) (n := 4) (gq_I 0) (by omega) μ2
  obtain ⟨μ4, d1, d2, d3, d4⟩ := gp_af (a := 74) (n := 40) (gq_I 0) (by omega) μ3
  obtain ⟨μ5, e1, e2, e3, e4⟩ := gy_begL (k := fun (μ16 : gx_M) => some ((), gx_uI μ16 62 5 (gq_I (-1)))) 40 4000 0 μ4 (by omega) (by omega)
  have o2 := ok.2.2.1
  have h5 : ∀ a j, ¬ a = 62 → ¬ a = 71 → ¬ a = 72 → ¬ a = 73 → ¬ a = 74 → (gx_uI μ5 62 5 (gq_I (-1))).1 a j = μ1.1 a j := fun a j g1 g2 g3 g4 g5 => by
    rw [gq_uI1, if_neg (by omega), e3 a j (by omega), d3 a j (by omega), c3 a j (by omega), b3 a j (by omega)]
  refine ⟨gx_uI μ5 62 5 (gq_I (-1)), ?_, gq_cS_sm (a2 w (by omega) hc) fun i hi => ?_, fun j hj => ?_, fun j hj => ?_, fun j hj => ?_, fun j hj => ?_, ?_, ⟨fun a ha => ?_, ?_, ?_⟩⟩
  · unfold f_X3_begin
    simp only [gq_lit, gq_neg, gq_lte, a1, b1, c1, d1, gq_bd]
    exact e1
  · funext j
    exact h5 _ j (by omega) (by omega) (by omega) (by omega) (by omega)
  · rw [gq_uI1, if_neg (by omega)]; exact e2 j (by omega) hj
  · rw [gq_uI1, if_neg (by omega), e3 _ _ (by omega), d3 _ _ (by omega), c3 _ _ (by omega)]; exact b2 j hj
  · rw [gq_uI1, if_neg (by omega), e3 _ _ (by omega), d3 _ _ (by omega)]; exact c2 j hj
  · rw [gq_uI1, if_neg (by omega), e3 _ _ (by omega)]; exact d2 j hj
  · rw [gq_uI1, if_pos ⟨rfl, rfl⟩]
  · funext j
    rw [h5 a j (by omega) (by omega) (by omega) (by omega) (by omega)]
    exact a3 a j (by omega)
  · rw [gq_uI2, e4, d4, c4, b4, a4]
  · rw [gq_uI1, if_neg (by omega), e3 _ _ (by omega), d3 _ _ (by omega), c3 _ _ (by omega), b3 _ _ (by omega), a3 _ _ (by omega)]
/-- what the check does -/
theorem gy_begM {ν : gx_M} : ∃ ν', f_X12_opens ν = some ((), ν') ∧ (∀ j, j < 4 → ν'.1 223 j = gq_I 0) ∧ (∀ j, j < 40 → ν'.1 224 j = gq_I 0) ∧ ν'.1 206 34 = gq_I (-1) ∧ (∀ a j, ¬ (a = 206 ∧ j = 34) → ¬ a = 223 → ¬ a = 224 → ν'.1 a j = ν.1 a j) ∧ ν'.2 = ν.2 := by
  obtain ⟨ν1, a1, a2, a3, a4⟩ := gy_op7 (k := fun (μ9 : gx_M) => L_X12_opens_27 (fun (μ17 : gx_M) => some ((), μ17)) 4000 (gq_I 0) μ9) 4 4000 0 (gx_uI ν 206 34 (gq_I (-1))) (by omega) (by omega)
  obtain ⟨ν2, b1, b2, b3, b4⟩ := gy_op27 (k := fun (μ17 : gx_M) => some ((), μ17)) 40 4000 0 ν1 (by omega) (by omega)
  refine ⟨ν2, ?_, fun j hj => ?_, fun j hj => b2 j (by omega) hj, ?_, fun a j g1 g2 g3 => ?_, ?_⟩
  · unfold f_X12_opens
    simp only [gq_lit, gq_neg, gq_lte]
    refine Eq.trans a1 ?_
    exact b1
  · rw [b3 _ _ (by omega)]; exact a2 j (by omega) hj
  · rw [b3 _ _ (by omega), a3 _ _ (by omega), gq_uI1, if_pos ⟨rfl, rfl⟩]
  · rw [b3 _ _ (by omega), a3 _ _ (by omega), gq_uI1, if_neg g1]
  · rw [b4, a4, gq_uI2]
theorem gy_beg {μ ν : gx_M} {s : Nat} {w : Nat → Int} (hs : s < 2) (ok : gq_okS w) (hc : gq_cS μ (8 + 16 * s) w) (hh : gq_hd ν s w) : ∃ μ' ν', f_X3_begin (8 + 16 * s) μ = some ((), μ') ∧ f_X12_opens ν = some ((), ν') ∧ gy_R μ' ν' s w ∧ gy_kc μ μ' ∧ gy_km ν ν' ∧ ν'.1 206 55 = ν.1 206 55 := by
  obtain ⟨μ', a1, a2, a3, a4, a5, a6, a7, a8⟩ := gy_begC hs ok hc
  obtain ⟨ν', b1, b2, b3, b4, b5, b6⟩ := gy_begM (ν := ν)
  obtain ⟨⟨h1, h2, h3, h4, h5⟩, h6, h7, h8, h9, h10, h11⟩ := hh
  obtain ⟨c1, c2, c3, c4, c5⟩ := a2
  have o1 := ok.2.1
  refine ⟨μ', ν', a1, b1, ⟨⟨c1, c5, ⟨?_, ?_, ?_, ?_⟩, gq_mS_w h11 ?_⟩, fun p hp => ?_, fun m hm => ?_, fun m hm => ?_, fun m hm => ?_, fun b hb => ?_, fun p hp => ?_, fun m hm => ?_, ?_⟩, a8, ⟨fun a j g1 g2 => ?_, b6⟩, ?_⟩
  · rw [b5 _ _ (by omega) (by omega) (by omega)]; exact h1
  · rw [b5 _ _ (by omega) (by omega) (by omega)]; exact h2
  · rw [b5 _ _ (by omega) (by omega) (by omega)]; exact h3
  · rw [b5 _ _ (by omega) (by omega) (by omega)]; exact h4
  · funext j; exact b5 _ _ (by omega) (by omega) (by omega)
  · rw [b5 _ _ (by omega) (by omega) (by omega), h6 p hp]; exact (c2 p hp).symm
  · have o5 := ok.2.2.2.2.2.1 m hm
    exact ⟨w (31 + m), o5, c3 m hm, by rw [b5 _ _ (by omega) (by omega) (by omega)]; exact h7 m hm⟩
  · have o6 := ok.2.2.2.2.2.2 m hm
    exact ⟨w (71 + m), by omega, c4 m hm, by rw [b5 _ _ (by omega) (by omega) (by omega)]; exact h8 m hm⟩
  · exact ⟨0, by omega, a3 m hm, by rw [b5 _ _ (by omega) (by omega) (by omega)]; exact h9 m hm⟩
  · exact ⟨-1, by omega, a4 b hb, by rw [b5 _ _ (by omega) (by omega) (by omega)]; exact (h10 b hb).1⟩
  · rw [b2 p hp, a5 p hp]
  · rw [b3 m hm, a6 m hm]
  · exact ⟨-1, by omega, a7, b4⟩
  · exact b5 a j (by omega) (by omega) (by omega)
  · exact b5 _ _ (by omega) (by omega) (by omega)
