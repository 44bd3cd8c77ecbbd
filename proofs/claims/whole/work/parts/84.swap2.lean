/-! swap, happy -/
theorem gs_gainL {μ ν : gx_M} {s H r : Nat} {v : Nat → Int} {D : Nat → Int} {E : Nat → Nat} (hs : s < 2) (ov : gq_okV v) (hH : v 0 = H) (hx : gs_fx μ ν s v) (hS : gs_S μ ν H r D E) (hD : ∀ h, h < H → D h ≠ -1) {k k2 : Int32 → Option Int32} : ∀ (d f i : Nat) (x : Int32), d < f → i + d = H → ∃ y, L_X10_gain_4 μ (22 + 16 * s) k f x (gq_I i) = k y ∧ L_X12_gain_4 ν k2 f x (gq_I i) = k2 y
  | _, 0, _, _, hf, _ => absurd hf (Nat.not_lt_zero _)
  | 0, f + 1, i, x, hf, hi => by
    have o0 := ov.1
    have c0 : μ.1 (22 + 16 * s) 0 = gq_I H := by rw [hx.1.1, hH]
    have m0 : ν.1 206 50 = gq_I H := by rw [hx.2.2.1, hH]
    refine ⟨x, ?_, ?_⟩
    · rw [L_X10_gain_4.eq_2, c0]
      simp (disch := omega) only [Int.reduceToNat, gq_lit, gq_neg, gq_add, gq_sub, gq_mul, gq_nat, Int.toNat_natCast, gq_tadd, gq_tmul, gq_lte, gq_br, gq_bd, gq_ck, Bool.false_eq_true, gq_leT, gq_leF, gq_ltT, gq_ltF, gq_eqT, gq_eqF, if_true, if_false]
    · rw [L_X12_gain_4.eq_2, m0]
      simp (disch := omega) only [Int.reduceToNat, gq_lit, gq_neg, gq_add, gq_sub, gq_mul, gq_nat, Int.toNat_natCast, gq_tadd, gq_tmul, gq_lte, gq_br, gq_bd, gq_ck, Bool.false_eq_true, gq_leT, gq_leF, gq_ltT, gq_ltF, gq_eqT, gq_eqF, if_true, if_false]
  | d + 1, f + 1, i, x, hf, hi => by
    have o0 := ov.1
    have c0 : μ.1 (22 + 16 * s) 0 = gq_I H := by rw [hx.1.1, hH]
    have m0 : ν.1 206 50 = gq_I H := by rw [hx.2.2.1, hH]
    obtain ⟨d1, d2, d3, d4⟩ := hS.1 i (by omega)
    obtain ⟨e1, e2, e3⟩ := d4 (hD i (by omega))
    have w1 := gs_wc (p := i) (q := E i) hx.1 (by omega) (by omega)
    have w2 := gs_wc (p := i) (q := i) hx.1 (by omega) (by omega)
    have w3 := gs_wm (p := i) (q := E i) hx.2.1 hs hx.2.2.2 (by omega) (by omega)
    have w4 := gs_wm (p := i) (q := i) hx.2.1 hs hx.2.2.2 (by omega) (by omega)
    obtain ⟨y, i1, i2⟩ := gs_gainL hs ov hH hx hS hD (k := k) (k2 := k2) d f (i + 1) (x + gq_I (v (1 + (6 * i + E i)) - v (1 + (6 * i + i)))) (by omega) (by omega)
    refine ⟨y, ?_, ?_⟩
    · rw [← i1, L_X10_gain_4.eq_2, c0]
      simp (disch := omega) only [Int.reduceToNat, gq_lit, gq_neg, gq_add, gq_sub, gq_mul, gq_nat, Int.toNat_natCast, gq_tadd, gq_tmul, gq_lte, gq_br, gq_bd, gq_ck, gq_sub, Bool.false_eq_true, gq_leT, gq_leF, gq_ltT, gq_ltF, gq_eqT, gq_eqF, if_true, if_false, e1, w1, w2]
      rfl
    · rw [← i2, L_X12_gain_4.eq_2, m0]
      simp (disch := omega) only [Int.reduceToNat, gq_lit, gq_neg, gq_add, gq_sub, gq_mul, gq_nat, Int.toNat_natCast, gq_tadd, gq_tmul, gq_lte, gq_br, gq_bd, gq_ck, gq_sub, Bool.false_eq_true, gq_leT, gq_leF, gq_ltT, gq_ltF, gq_eqT, gq_eqF, if_true, if_false, e2, w3, w4]
      rfl
theorem gq_e_swap {μ : gx_M} (hI : gq_inv μ) (p1 p2 : Int32) : gq_st (f_X11_swap p1 p2) (f_X12_swap p1 p2) μ := by
  obtain ⟨z, hz, rfl⟩ := gq_ex p1
  obtain ⟨x, hxx, rfl⟩ := gq_ex p2
  refine gq_two hI fun ν0 hν => ?_
  rcases gq_opV hI hz with ⟨h1, h2⟩ | ⟨s, H, v, hs, rfl, ov, hH, hc, h1, h2⟩
  · obtain ⟨μ2, a1, a2⟩ := h2 ν0 hν
    refine ⟨gq_I (-1000), μ, μ2, ?_, ?_, gq_sm_rf, a2⟩
    · unfold f_X11_swap
      rw [h1]
      rfl
    · unfold f_X12_swap
      rw [gq_lte, gq_lit, a1]
      rfl
  · obtain ⟨r, D, E, μ', ν', a1, a2, hx, hS, hD, a3, a4⟩ := h2 ν0 hν
    have o0 := ov.1
    have c0 : μ.1 (22 + 16 * s) 0 = gq_I H := by rw [hc.1, hH]
    have c0' : μ'.1 (22 + 16 * s) 0 = gq_I H := by rw [hx.1.1, hH]
    have m0 : ν'.1 206 50 = gq_I H := by rw [hx.2.2.1, hH]
    have fin : ∀ t, f_X11_swap (gq_I s) (gq_I x) μ = some (t, μ') → f_X12_swap (gq_I s) (gq_I x) ν0 = some (t, ν') → ∃ r μ' ν', f_X11_swap (gq_I s) (gq_I x) μ = some (r, μ') ∧ f_X12_swap (gq_I s) (gq_I x) ν0 = some (r, ν') ∧ gq_sm gq_Pc μ μ' ∧ gq_sm gq_Pm ν0 ν' := fun t t1 t2 => ⟨t, μ', ν', t1, t2, a3, a4⟩
    have fin0 : ∀ t, f_X11_swap (gq_I s) (gq_I x) μ = some (t, μ) → f_X12_swap (gq_I s) (gq_I x) ν0 = some (t, ν') → ∃ r μ' ν', f_X11_swap (gq_I s) (gq_I x) μ = some (r, μ') ∧ f_X12_swap (gq_I s) (gq_I x) ν0 = some (r, ν') ∧ gq_sm gq_Pc μ μ' ∧ gq_sm gq_Pm ν0 ν' := fun t t1 t2 => ⟨t, μ, ν', t1, t2, gq_sm_rf, a4⟩
    by_cases x0 : x = 0
    · subst x0
      refine fin0 (gq_I H) ?_ ?_
      · unfold f_X11_swap
        simp (disch := omega) only [Int.reduceToNat, gq_lit, gq_neg, gq_add, gq_sub, gq_mul, gq_nat, Int.toNat_natCast, gq_tadd, gq_tmul, gq_lte, gq_br, gq_bd, gq_ck, Bool.false_eq_true, gq_leT, gq_leF, gq_ltT, gq_ltF, gq_eqT, gq_eqF, if_true, if_false, h1, c0]
      · unfold f_X12_swap
        rw [gq_lte, gq_lit, a2, gq_bd, if_pos rfl]
        simp (disch := omega) only [Int.reduceToNat, gq_lit, gq_neg, gq_add, gq_sub, gq_mul, gq_nat, Int.toNat_natCast, gq_tadd, gq_tmul, gq_lte, gq_br, gq_bd, gq_ck, Bool.false_eq_true, gq_leT, gq_leF, gq_ltT, gq_ltF, gq_eqT, gq_eqF, if_true, if_false, gq_inF, m0]
    by_cases x1 : x = 1
    · subst x1
      obtain ⟨y, y1, y2⟩ := gs_gainL hs ov hH hx hS hD (k := fun (x2_10 : Int32) => some x2_10) (k2 := fun (x1_10 : Int32) => some x1_10) H 4000 0 (gq_I 0) (by omega) (by omega)
      have z1 : f_X10_gain (22 + 16 * s) μ' = some y := y1
      have z2 : f_X12_gain ν' = some y := y2
      refine fin y ?_ ?_
      · unfold f_X11_swap
        simp (disch := omega) only [Int.reduceToNat, gq_lit, gq_neg, gq_add, gq_sub, gq_mul, gq_nat, Int.toNat_natCast, gq_tadd, gq_tmul, gq_lte, gq_br, gq_bd, gq_ck, Bool.false_eq_true, gq_leT, gq_leF, gq_ltT, gq_ltF, gq_eqT, gq_eqF, if_true, if_false, h1, gq_amF, a1, z1]
      · unfold f_X12_swap
        rw [gq_lte, gq_lit, a2, gq_bd, if_pos rfl]
        simp (disch := omega) only [Int.reduceToNat, gq_lit, gq_neg, gq_add, gq_sub, gq_mul, gq_nat, Int.toNat_natCast, gq_tadd, gq_tmul, gq_lte, gq_br, gq_bd, gq_ck, Bool.false_eq_true, gq_leT, gq_leF, gq_ltT, gq_ltF, gq_eqT, gq_eqF, if_true, if_false, gq_inF, z2]
    by_cases x2 : x = 2
    · subst x2
      refine fin (gq_I r) ?_ ?_
      · unfold f_X11_swap
        have e := hS.2.1
        simp (disch := omega) only [Int.reduceToNat, gq_lit, gq_neg, gq_add, gq_sub, gq_mul, gq_nat, Int.toNat_natCast, gq_tadd, gq_tmul, gq_lte, gq_br, gq_bd, gq_ck, Bool.false_eq_true, gq_leT, gq_leF, gq_ltT, gq_ltF, gq_eqT, gq_eqF, if_true, if_false, h1, gq_amF, a1, e]
      · unfold f_X12_swap
        rw [gq_lte, gq_lit, a2, gq_bd, if_pos rfl]
        have e := hS.2.2
        simp (disch := omega) only [Int.reduceToNat, gq_lit, gq_neg, gq_add, gq_sub, gq_mul, gq_nat, Int.toNat_natCast, gq_tadd, gq_tmul, gq_lte, gq_br, gq_bd, gq_ck, Bool.false_eq_true, gq_leT, gq_leF, gq_ltT, gq_ltF, gq_eqT, gq_eqF, if_true, if_false, gq_inF, e]
    by_cases x3 : 100 ≤ x ∧ x ≤ 135
    · obtain ⟨p, hp⟩ : ∃ p : Nat, (x - 100) / 6 = p := ⟨((x - 100) / 6).toNat, by omega⟩
      obtain ⟨q, hq⟩ : ∃ q : Nat, (x - 100) - (x - 100) / 6 * 6 = q := ⟨((x - 100) - (x - 100) / 6 * 6).toNat, by omega⟩
      have e1 : (gq_I x - gq_I 100) / gq_I 6 = gq_I p := by rw [gq_sub, gq_div (by omega), hp]
      have e2 : (gq_I x - gq_I 100) - gq_I p * gq_I 6 = gq_I q := by rw [gq_sub, gq_mul, gq_sub]; exact congrArg gq_I (by omega)
      by_cases g1 : p < H ∧ q < H
      · have w1 := gs_wc (p := p) (q := q) hc (by omega) (by omega)
        have w2 := gs_wm (p := p) (q := q) hx.2.1 hs hx.2.2.2 (by omega) (by omega)
        refine fin0 (gq_I (v (1 + (6 * p + q)))) ?_ ?_
        · unfold f_X11_swap
          simp (disch := omega) only [gq_lit, gq_lte, gq_nat, Int.toNat_natCast, gq_ck, gq_br, Bool.false_eq_true, gq_leT, gq_leF, gq_ltT, gq_ltF, gq_eqT, gq_eqF, if_true, if_false, h1, gq_amT, e1, e2, c0, w1]
        · unfold f_X12_swap
          rw [gq_lte, gq_lit, a2, gq_bd, if_pos rfl]
          simp (disch := omega) only [gq_lit, gq_lte, gq_nat, Int.toNat_natCast, gq_ck, gq_br, Bool.false_eq_true, gq_leT, gq_leF, gq_ltT, gq_ltF, gq_eqT, gq_eqF, if_true, if_false, gq_inF, gq_inT, e1, e2, m0, w2]
      · refine fin0 (gq_I (-1000)) ?_ ?_
        · unfold f_X11_swap
          by_cases g2 : p < H
          · simp (disch := omega) only [gq_lit, gq_neg, gq_lte, gq_nat, Int.toNat_natCast, gq_ck, gq_br, Bool.false_eq_true, gq_leT, gq_leF, gq_ltT, gq_ltF, gq_eqT, gq_eqF, if_true, if_false, h1, gq_amT, e1, e2, c0]
          · simp (disch := omega) only [gq_lit, gq_neg, gq_lte, gq_nat, Int.toNat_natCast, gq_ck, gq_br, Bool.false_eq_true, gq_leT, gq_leF, gq_ltT, gq_ltF, gq_eqT, gq_eqF, if_true, if_false, h1, gq_amT, e1, e2, c0]
        · unfold f_X12_swap
          rw [gq_lte, gq_lit, a2, gq_bd, if_pos rfl]
          by_cases g2 : p < H
          · simp (disch := omega) only [gq_lit, gq_neg, gq_lte, gq_nat, Int.toNat_natCast, gq_ck, gq_br, Bool.false_eq_true, gq_leT, gq_leF, gq_ltT, gq_ltF, gq_eqT, gq_eqF, if_true, if_false, gq_inF, gq_inT, e1, e2, m0]
          · simp (disch := omega) only [gq_lit, gq_neg, gq_lte, gq_nat, Int.toNat_natCast, gq_ck, gq_br, Bool.false_eq_true, gq_leT, gq_leF, gq_ltT, gq_ltF, gq_eqT, gq_eqF, if_true, if_false, gq_inF, gq_inT, e1, e2, m0]
    by_cases x4 : 10 ≤ x ∧ x < 20
    · have e1 : x - x / 10 * 10 = x - 10 := by omega
      by_cases g1 : x - 10 < H
      · obtain ⟨d1, d2, d3, d4⟩ := hS.1 (x - 10).toNat (by omega)
        obtain ⟨f1, f2, f3⟩ := d4 (hD _ (by omega))
        refine fin (gq_I (E (x - 10).toNat)) ?_ ?_
        · unfold f_X11_swap
          simp (disch := omega) only [Int.reduceToNat, gq_lit, gq_neg, gq_add, gq_sub, gq_mul, gq_nat, Int.toNat_natCast, gq_tadd, gq_tmul, gq_lte, gq_br, gq_bd, gq_ck, gq_sub, Bool.false_eq_true, gq_leT, gq_leF, gq_ltT, gq_ltF, gq_eqT, gq_eqF, if_true, if_false, h1, gq_amF, gq_amT, a1, c0', f1]
        · unfold f_X12_swap
          rw [gq_lte, gq_lit, a2, gq_bd, if_pos rfl]
          simp (disch := omega) only [Int.reduceToNat, gq_lit, gq_neg, gq_add, gq_sub, gq_mul, gq_nat, Int.toNat_natCast, gq_tadd, gq_tmul, gq_lte, gq_br, gq_bd, gq_ck, gq_sub, gq_div, e1, Bool.false_eq_true, gq_leT, gq_leF, gq_ltT, gq_ltF, gq_eqT, gq_eqF, if_true, if_false, gq_inT, m0, f2]
      · refine fin (gq_I (-1000)) ?_ ?_
        · unfold f_X11_swap
          simp (disch := omega) only [Int.reduceToNat, gq_lit, gq_neg, gq_add, gq_sub, gq_mul, gq_nat, Int.toNat_natCast, gq_tadd, gq_tmul, gq_lte, gq_br, gq_bd, gq_ck, Bool.false_eq_true, gq_leT, gq_leF, gq_ltT, gq_ltF, gq_eqT, gq_eqF, if_true, if_false, h1, gq_amF, a1, c0']
        · unfold f_X12_swap
          rw [gq_lte, gq_lit, a2, gq_bd, if_pos rfl]
          simp (disch := omega) only [Int.reduceToNat, gq_lit, gq_neg, gq_add, gq_sub, gq_mul, gq_nat, Int.toNat_natCast, gq_tadd, gq_tmul, gq_lte, gq_br, gq_bd, gq_ck, gq_sub, gq_div, e1, Bool.false_eq_true, gq_leT, gq_leF, gq_ltT, gq_ltF, gq_eqT, gq_eqF, if_true, if_false, gq_inT, m0]
    by_cases x5 : 20 ≤ x ∧ x < 30
    · have e1 : x - x / 10 * 10 = x - 20 := by omega
      by_cases g1 : x - 20 < H
      · obtain ⟨d1, d2, d3, d4⟩ := hS.1 (x - 20).toNat (by omega)
        refine fin (gq_I (D (x - 20).toNat)) ?_ ?_
        · unfold f_X11_swap
          simp (disch := omega) only [Int.reduceToNat, gq_lit, gq_neg, gq_add, gq_sub, gq_mul, gq_nat, Int.toNat_natCast, gq_tadd, gq_tmul, gq_lte, gq_br, gq_bd, gq_ck, gq_sub, Bool.false_eq_true, gq_leT, gq_leF, gq_ltT, gq_ltF, gq_eqT, gq_eqF, if_true, if_false, h1, gq_amF, gq_amT, a1, c0', d1]
        · unfold f_X12_swap
          rw [gq_lte, gq_lit, a2, gq_bd, if_pos rfl]
          simp (disch := omega) only [Int.reduceToNat, gq_lit, gq_neg, gq_add, gq_sub, gq_mul, gq_nat, Int.toNat_natCast, gq_tadd, gq_tmul, gq_lte, gq_br, gq_bd, gq_ck, gq_sub, gq_div, e1, Bool.false_eq_true, gq_leT, gq_leF, gq_ltT, gq_ltF, gq_eqT, gq_eqF, if_true, if_false, gq_inT, m0, d2]
      · refine fin (gq_I (-1000)) ?_ ?_
        · unfold f_X11_swap
          simp (disch := omega) only [Int.reduceToNat, gq_lit, gq_neg, gq_add, gq_sub, gq_mul, gq_nat, Int.toNat_natCast, gq_tadd, gq_tmul, gq_lte, gq_br, gq_bd, gq_ck, Bool.false_eq_true, gq_leT, gq_leF, gq_ltT, gq_ltF, gq_eqT, gq_eqF, if_true, if_false, h1, gq_amF, a1, c0']
        · unfold f_X12_swap
          rw [gq_lte, gq_lit, a2, gq_bd, if_pos rfl]
          simp (disch := omega) only [Int.reduceToNat, gq_lit, gq_neg, gq_add, gq_sub, gq_mul, gq_nat, Int.toNat_natCast, gq_tadd, gq_tmul, gq_lte, gq_br, gq_bd, gq_ck, gq_sub, gq_div, e1, Bool.false_eq_true, gq_leT, gq_leF, gq_ltT, gq_ltF, gq_eqT, gq_eqF, if_true, if_false, gq_inT, m0]
    · refine fin (gq_I (-1000)) ?_ ?_
      · unfold f_X11_swap
        simp (disch := omega) only [Int.reduceToNat, gq_lit, gq_neg, gq_add, gq_sub, gq_mul, gq_nat, Int.toNat_natCast, gq_tadd, gq_tmul, gq_lte, gq_br, gq_bd, gq_ck, Bool.false_eq_true, gq_leT, gq_leF, gq_ltT, gq_ltF, gq_eqT, gq_eqF, if_true, if_false, h1, gq_amF, a1, c0']
      · unfold f_X12_swap
        rw [gq_lte, gq_lit, a2, gq_bd, if_pos rfl]
        simp (disch := omega) only [Int.reduceToNat, gq_lit, gq_neg, gq_add, gq_sub, gq_mul, gq_nat, Int.toNat_natCast, gq_tadd, gq_tmul, gq_lte, gq_br, gq_bd, gq_ck, Bool.false_eq_true, gq_leT, gq_leF, gq_ltT, gq_ltF, gq_eqT, gq_eqF, if_true, if_false, gq_inF, m0]
