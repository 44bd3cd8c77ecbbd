/-! questions about a street and a year: till, state, after; drawn -/
theorem gq_opY {μ : gx_M} (hI : gq_inv μ) {z x : Int} (hz : -2147483648 ≤ z ∧ z < 2147483648) (hx : -2147483648 ≤ x ∧ x < 2147483648) : ((f_X11_hasStreet (gq_I z) μ = some false ∨ f_X11_hasStreet (gq_I z) μ = some true ∧ f_X11_hasYear (gq_I x) μ = some false) ∧ ∀ ν, gq_sm gq_Pc μ ν → ∃ μ2, f_X12_layAll (gq_I z) (gq_I x) (gx_uI ν 206 0 (gq_I 0)) = some (false, μ2) ∧ gq_sm gq_Pm ν μ2) ∨ ∃ (s y : Nat) (w Y : Nat → Int), (s < 2 ∧ z = s) ∧ (y < 2 ∧ x = y) ∧ gq_okS w ∧ gq_okY Y ∧ gq_cS μ (8 + 16 * s) w ∧ gq_cY μ (16 + 16 * y) Y ∧ f_X11_hasStreet (gq_I z) μ = some true ∧ f_X11_hasYear (gq_I x) μ = some true ∧ ∀ ν, gq_sm gq_Pc μ ν → ∃ μ2, f_X12_layAll (gq_I z) (gq_I x) (gx_uI ν 206 0 (gq_I 0)) = some (true, μ2) ∧ gq_hd μ2 s w ∧ μ2.1 206 33 = gq_I y ∧ gq_mY μ2 y Y ∧ gq_sm gq_Pm ν μ2 := by
  obtain ⟨⟨tp, n, f, q, N, W, Y, G, V, ok, hc, hm⟩, -, -⟩ := hI
  rw [gq_ad_0] at hc
  have n0 := ok.2.2.1 0 (by omega)
  have n1 := ok.2.2.1 1 (by omega)
  have c0 : μ.1 2 0 = gq_I (N 0) := hc.2.2.1 0 (by omega)
  have c1 : μ.1 2 1 = gq_I (N 1) := hc.2.2.1 1 (by omega)
  have m0 : μ.1 211 0 = gq_I (N 0) := hm.2.2.1 0 (by omega)
  have m1 : μ.1 211 1 = gq_I (N 1) := hm.2.2.1 1 (by omega)
  have hs := gq_hasS c0 n0 hz
  have hy := gq_hasY c1 n1 hx
  have yr : ∀ ν, gq_sm gq_Pc μ ν → f_X12_hasYear (gq_I x) (gx_uI ν 206 0 (gq_I 0)) = some (decide (0 ≤ x ∧ x < N 1), gx_uI (gx_uI ν 206 0 (gq_I 0)) 206 33 (gq_I x)) := fun ν hν => by
    have e211 : ν.1 211 = μ.1 211 := (hν 211 (by unfold gq_Pc; omega)).1
    exact gq_year n1 (by rw [gq_uI1, if_neg (by omega), e211]; exact m1) hx
  have sm : ∀ ν, gq_sm gq_Pm ν (gx_uI (gx_uI ν 206 0 (gq_I 0)) 206 33 (gq_I x)) := fun ν => gq_sm_uI gq_Pm206 (gq_sm_uI gq_Pm206 gq_sm_rf)
  by_cases hs1 : 0 ≤ z ∧ z < N 0
  · rw [decide_eq_true hs1] at hs
    by_cases hy1 : 0 ≤ x ∧ x < N 1
    · rw [decide_eq_true hy1] at hy yr
      refine Or.inr ⟨z.toNat, x.toNat, W z.toNat, Y x.toNat, by omega, by omega, ok.2.2.2.1 _ (by omega), ok.2.2.2.2.1 _ (by omega), hc.2.2.2.1 _ (by omega), hc.2.2.2.2.1 _ (by omega), hs, hy, fun ν hν => ?_⟩
      have e211 : ν.1 211 = μ.1 211 := (hν 211 (by unfold gq_Pc; omega)).1
      have e212 : ν.1 212 = μ.1 212 := (hν 212 (by unfold gq_Pc; omega)).1
      have e213 : ν.1 213 = μ.1 213 := (hν 213 (by unfold gq_Pc; omega)).1
      obtain ⟨ν1, hν1⟩ : ∃ ν1, ν1 = gx_uI (gx_uI ν 206 0 (gq_I 0)) 206 33 (gq_I x) := ⟨_, rfl⟩
      have t : ∀ a j, a ≠ 206 → ν1.1 a j = ν.1 a j := fun a j g => by rw [hν1, gq_uI1, if_neg (by omega), gq_uI1, if_neg (by omega)]
      have m2 : gq_mS ν1 z.toNat (W z.toNat) := by
        have := hm.2.2.2.1 z.toNat (by omega)
        rw [show 2 * 0 + z.toNat = z.toNat by omega] at this
        exact gq_mS_w this (by funext j; rw [t _ _ (by omega), e212])
      have m3 : gq_mY ν1 x.toNat (Y x.toNat) := by
        have := hm.2.2.2.2.1 x.toNat (by omega)
        rw [show 2 * 0 + x.toNat = x.toNat by omega] at this
        exact gq_mY_w this (by funext j; rw [t _ _ (by omega), e213])
      obtain ⟨μ2, a1, a2, a3, a4⟩ := gq_hand (μ := ν1) (z := z) n0 (by rw [t _ _ (by omega), e211]; exact m0) hs1 m2
      refine ⟨μ2, ?_, a2, ?_, gq_mY_w m3 ((a3 213 (by unfold gq_Pm; omega)).1), ?_⟩
      · unfold f_X12_layAll
        rw [yr ν hν, ← hν1, gq_bd, if_pos rfl, a1]
        rfl
      · rw [a4, hν1, gq_uI1, if_pos ⟨rfl, rfl⟩, Int.toNat_of_nonneg hy1.1]
      · have := sm ν
        rw [← hν1] at this
        exact gq_sm_tr this a3
    · rw [decide_eq_false hy1] at hy yr
      refine Or.inl ⟨Or.inr ⟨hs, hy⟩, fun ν hν => ⟨_, ?_, sm ν⟩⟩
      unfold f_X12_layAll
      rw [yr ν hν]
      rfl
  · rw [decide_eq_false hs1] at hs
    refine Or.inl ⟨Or.inl hs, fun ν hν => ⟨_, ?_, sm ν⟩⟩
    have e211 : ν.1 211 = μ.1 211 := (hν 211 (by unfold gq_Pc; omega)).1
    have hn := gq_hand_no (μ := gx_uI (gx_uI ν 206 0 (gq_I 0)) 206 33 (gq_I x)) n0 (by rw [gq_uI1, if_neg (by omega), gq_uI1, if_neg (by omega), e211]; exact m0) hz hs1
    unfold f_X12_layAll
    rw [yr ν hν, gq_bd]
    by_cases g : decide (0 ≤ x ∧ x < (N 1 : Int)) = true
    · rw [if_pos g, hn]
      rfl
    · rw [if_neg g]
theorem gq_e_till {μ : gx_M} (hI : gq_inv μ) (p1 p2 : Int32) : gq_st (f_X11_till p1 p2) (f_X12_till p1 p2) μ := by
  obtain ⟨z, hz, rfl⟩ := gq_ex p1
  obtain ⟨x, hx, rfl⟩ := gq_ex p2
  refine gq_two hI fun ν0 hν => ?_
  rcases gq_opY hI hz hx with ⟨h1, h2⟩ | ⟨s, y, w, Y, ⟨hs, rfl⟩, ⟨hy, rfl⟩, ok, oy, hc, hcy, h1, h2, h3⟩
  · obtain ⟨μ2, a1, a2⟩ := h2 ν0 hν
    refine ⟨gq_I (-1), μ, μ2, ?_, ?_, gq_sm_rf, a2⟩
    · unfold f_X11_till
      rcases h1 with h1 | ⟨h1, h3⟩
      · rw [h1]; rfl
      · rw [h1, gq_br, if_pos rfl, h3]; rfl
    · unfold f_X12_till
      rw [gq_lte, gq_lit, a1]
      rfl
  · obtain ⟨μ2, a1, a2, a3, a4, a5⟩ := h3 ν0 hν
    have oy1 := oy.1
    obtain ⟨r, μ', ν', b1, b2, b3, b4, b5, b6⟩ := gy_live ok oy hs hy (P := Y 0) (by omega) hc a2 hcy a3 a4
    refine ⟨gq_I r, μ', ν', ?_, ?_, gy_kc_sm b5, gq_sm_tr a5 (gy_km_sm b6)⟩
    · unfold f_X11_till
      have e : μ.1 (16 + 16 * y) 3 = gq_I (Y 0) := hcy.1
      simp (disch := omega) only [Int.reduceToNat, gq_lit, gq_neg, gq_add, gq_sub, gq_mul, gq_nat, Int.toNat_natCast, gq_tadd, gq_tmul, gq_lte, gq_br, gq_bd, gq_ck, h1, h2, if_true, e, b2]
    · unfold f_X12_till
      rw [gq_lte, gq_lit, a1, gq_bd, if_pos rfl, gq_deeds a3 (by omega) a4, gq_br, b3]
      rfl
theorem gq_e_state {μ : gx_M} (hI : gq_inv μ) (p1 p2 p3 p4 : Int32) : gq_st (f_X11_state p1 p2 p3 p4) (f_X12_state p1 p2 p3 p4) μ := by
  obtain ⟨z, hz, rfl⟩ := gq_ex p1
  obtain ⟨x, hx, rfl⟩ := gq_ex p2
  obtain ⟨P, hP, rfl⟩ := gq_ex p3
  obtain ⟨q, hq, rfl⟩ := gq_ex p4
  refine gq_two hI fun ν0 hν => ?_
  rcases gq_opY hI hz hx with ⟨h1, h2⟩ | ⟨s, y, w, Y, ⟨hs, rfl⟩, ⟨hy, rfl⟩, ok, oy, hc, hcy, h1, h2, h3⟩
  · obtain ⟨μ2, a1, a2⟩ := h2 ν0 hν
    refine ⟨gq_I (-2), μ, μ2, ?_, ?_, gq_sm_rf, a2⟩
    · unfold f_X11_state
      rcases h1 with h1 | ⟨h1, h3⟩
      · rw [h1]; rfl
      · rw [h1, gq_br, if_pos rfl, h3]; rfl
    · unfold f_X12_state
      rw [gq_lte, gq_lit, a1]
      rfl
  · obtain ⟨μ2, a1, a2, a3, a4, a5⟩ := h3 ν0 hν
    have oy1 := oy.1
    have e : μ.1 (16 + 16 * y) 3 = gq_I (Y 0) := hcy.1
    have ed := gq_deeds a3 (by omega) a4
    by_cases g : 0 ≤ P ∧ P ≤ Y 0
    · obtain ⟨r, μ', ν', b1, b2, b3, b4, b5, b6⟩ := gy_live ok oy hs hy (P := P) g hc a2 hcy a3 a4
      by_cases g2 : r = P
      · obtain ⟨t, t1, t2⟩ := gy_answer b4 ok hq
        subst g2
        refine ⟨t, μ', ν', ?_, ?_, gy_kc_sm b5, gq_sm_tr a5 (gy_km_sm b6)⟩
        · unfold f_X11_state
          simp (disch := omega) only [Int.reduceToNat, gq_lit, gq_neg, gq_add, gq_sub, gq_mul, gq_nat, Int.toNat_natCast, gq_tadd, gq_tmul, gq_lte, gq_br, gq_bd, gq_ck, Bool.false_eq_true, gq_leT, gq_leF, gq_ltT, gq_ltF, gq_eqT, gq_eqF, if_true, if_false, h1, h2, e, b2, t1]
        · unfold f_X12_state
          rw [gq_lte, gq_lit, a1, gq_bd, if_pos rfl, ed]
          simp (disch := omega) only [Int.reduceToNat, gq_lit, gq_neg, gq_add, gq_sub, gq_mul, gq_nat, Int.toNat_natCast, gq_tadd, gq_tmul, gq_lte, gq_br, gq_bd, gq_ck, Bool.false_eq_true, gq_leT, gq_leF, gq_ltT, gq_ltF, gq_eqT, gq_eqF, if_true, if_false, gq_inT, b3, t2]
      · refine ⟨gq_I (-2), μ', ν', ?_, ?_, gy_kc_sm b5, gq_sm_tr a5 (gy_km_sm b6)⟩
        · unfold f_X11_state
          simp (disch := omega) only [Int.reduceToNat, gq_lit, gq_neg, gq_add, gq_sub, gq_mul, gq_nat, Int.toNat_natCast, gq_tadd, gq_tmul, gq_lte, gq_br, gq_bd, gq_ck, Bool.false_eq_true, gq_leT, gq_leF, gq_ltT, gq_ltF, gq_eqT, gq_eqF, if_true, if_false, h1, h2, e, b2]
        · unfold f_X12_state
          rw [gq_lte, gq_lit, a1, gq_bd, if_pos rfl, ed]
          simp (disch := omega) only [Int.reduceToNat, gq_lit, gq_neg, gq_add, gq_sub, gq_mul, gq_nat, Int.toNat_natCast, gq_tadd, gq_tmul, gq_lte, gq_br, gq_bd, gq_ck, Bool.false_eq_true, gq_leT, gq_leF, gq_ltT, gq_ltF, gq_eqT, gq_eqF, if_true, if_false, gq_inT, b3]
    · refine ⟨gq_I (-2), μ, μ2, ?_, ?_, gq_sm_rf, a5⟩
      · unfold f_X11_state
        by_cases g3 : P < 0
        · simp (disch := omega) only [Int.reduceToNat, gq_lit, gq_neg, gq_add, gq_sub, gq_mul, gq_nat, Int.toNat_natCast, gq_tadd, gq_tmul, gq_lte, gq_br, gq_bd, gq_ck, Bool.false_eq_true, gq_leT, gq_leF, gq_ltT, gq_ltF, gq_eqT, gq_eqF, if_true, if_false, h1, h2]
        · simp (disch := omega) only [Int.reduceToNat, gq_lit, gq_neg, gq_add, gq_sub, gq_mul, gq_nat, Int.toNat_natCast, gq_tadd, gq_tmul, gq_lte, gq_br, gq_bd, gq_ck, Bool.false_eq_true, gq_leT, gq_leF, gq_ltT, gq_ltF, gq_eqT, gq_eqF, if_true, if_false, h1, h2, e]
      · unfold f_X12_state
        rw [gq_lte, gq_lit, a1, gq_bd, if_pos rfl, ed]
        simp (disch := omega) only [Int.reduceToNat, gq_lit, gq_neg, gq_add, gq_sub, gq_mul, gq_nat, Int.toNat_natCast, gq_tadd, gq_tmul, gq_lte, gq_br, gq_bd, gq_ck, Bool.false_eq_true, gq_leT, gq_leF, gq_ltT, gq_ltF, gq_eqT, gq_eqF, if_true, if_false, gq_inF]
theorem gq_e_after {μ : gx_M} (hI : gq_inv μ) (p1 p2 p3 : Int32) : gq_st (f_X11_after p1 p2 p3) (f_X12_after p1 p2 p3) μ := by
  obtain ⟨z, hz, rfl⟩ := gq_ex p1
  obtain ⟨x, hx, rfl⟩ := gq_ex p2
  obtain ⟨q, hq, rfl⟩ := gq_ex p3
  refine gq_two hI fun ν0 hν => ?_
  rcases gq_opY hI hz hx with ⟨h1, h2⟩ | ⟨s, y, w, Y, ⟨hs, rfl⟩, ⟨hy, rfl⟩, ok, oy, hc, hcy, h1, h2, h3⟩
  · obtain ⟨μ2, a1, a2⟩ := h2 ν0 hν
    have et : f_X11_till (gq_I z) (gq_I x) μ = some (gq_I (-1), μ) := by
      unfold f_X11_till
      rcases h1 with h1 | ⟨h1, h3⟩
      · rw [h1]; rfl
      · rw [h1, gq_br, if_pos rfl, h3]; rfl
    refine ⟨gq_I (-2), μ, μ2, ?_, ?_, gq_sm_rf, a2⟩
    · unfold f_X11_after
      rw [et]
      rfl
    · unfold f_X12_after
      rw [gq_lte, gq_lit, a1]
      rfl
  · obtain ⟨μ2, a1, a2, a3, a4, a5⟩ := h3 ν0 hν
    have oy1 := oy.1
    have o0 := ok.1
    obtain ⟨r, μ', ν', b1, b2, b3, b4, b5, b6⟩ := gy_live ok oy hs hy (P := Y 0) (by omega) hc a2 hcy a3 a4
    have et : f_X11_till (gq_I s) (gq_I y) μ = some (gq_I r, μ') := by
      unfold f_X11_till
      have e : μ.1 (16 + 16 * y) 3 = gq_I (Y 0) := hcy.1
      simp (disch := omega) only [Int.reduceToNat, gq_lit, gq_neg, gq_add, gq_sub, gq_mul, gq_nat, Int.toNat_natCast, gq_tadd, gq_tmul, gq_lte, gq_br, gq_bd, gq_ck, h1, h2, if_true, e, b2]
    have ed := gq_deeds a3 (by omega) a4
    by_cases g : 0 ≤ q ∧ q ≤ 4
    · have fin : ∀ t, f_X11_after (gq_I s) (gq_I y) (gq_I q) μ = some (t, μ') → f_X12_after (gq_I s) (gq_I y) (gq_I q) ν0 = some (t, ν') → ∃ r μ' ν', f_X11_after (gq_I s) (gq_I y) (gq_I q) μ = some (r, μ') ∧ f_X12_after (gq_I s) (gq_I y) (gq_I q) ν0 = some (r, ν') ∧ gq_sm gq_Pc μ μ' ∧ gq_sm gq_Pm ν0 ν' := fun t t1 t2 => ⟨t, μ', ν', t1, t2, gy_kc_sm b5, gq_sm_tr a5 (gy_km_sm b6)⟩
      obtain ⟨v, v0, v1, v2⟩ := gy_rest b4 ok
      obtain ⟨i, i0, i1, i2⟩ := gy_rich b4 ok
      obtain ⟨j, j0, j1, j2⟩ := gy_vict b4 ok
      obtain ⟨t, t0, t1, t2⟩ := b4.2.2.2.2.2.2.2.2
      by_cases q0 : q = 0
      · subst q0
        refine fin (gq_I t) ?_ ?_
        · unfold f_X11_after
          rw [et]
          simp (disch := omega) only [Int.reduceToNat, gq_lit, gq_neg, gq_add, gq_sub, gq_mul, gq_nat, Int.toNat_natCast, gq_tadd, gq_tmul, gq_lte, gq_br, gq_bd, gq_ck, Bool.false_eq_true, gq_leT, gq_leF, gq_ltT, gq_ltF, gq_eqT, gq_eqF, if_true, if_false, t1]
        · unfold f_X12_after
          rw [gq_lte, gq_lit, a1, gq_bd, if_pos rfl, ed]
          simp (disch := omega) only [Int.reduceToNat, gq_lit, gq_neg, gq_add, gq_sub, gq_mul, gq_nat, Int.toNat_natCast, gq_tadd, gq_tmul, gq_lte, gq_br, gq_bd, gq_ck, Bool.false_eq_true, gq_leT, gq_leF, gq_ltT, gq_ltF, gq_eqT, gq_eqF, if_true, if_false, gq_inT, b3, v2, t2]
      by_cases q1 : q = 1
      · subst q1
        refine fin (gq_I i) ?_ ?_
        · unfold f_X11_after
          rw [et]
          simp (disch := omega) only [Int.reduceToNat, gq_lit, gq_neg, gq_add, gq_sub, gq_mul, gq_nat, Int.toNat_natCast, gq_tadd, gq_tmul, gq_lte, gq_br, gq_bd, gq_ck, Bool.false_eq_true, gq_leT, gq_leF, gq_ltT, gq_ltF, gq_eqT, gq_eqF, if_true, if_false, i1]
        · unfold f_X12_after
          rw [gq_lte, gq_lit, a1, gq_bd, if_pos rfl, ed]
          simp (disch := omega) only [Int.reduceToNat, gq_lit, gq_neg, gq_add, gq_sub, gq_mul, gq_nat, Int.toNat_natCast, gq_tadd, gq_tmul, gq_lte, gq_br, gq_bd, gq_ck, Bool.false_eq_true, gq_leT, gq_leF, gq_ltT, gq_ltF, gq_eqT, gq_eqF, if_true, if_false, gq_inT, b3, v2, i2]
      by_cases q2 : q = 2
      · subst q2
        refine fin (gq_I j) ?_ ?_
        · unfold f_X11_after
          rw [et]
          simp (disch := omega) only [Int.reduceToNat, gq_lit, gq_neg, gq_add, gq_sub, gq_mul, gq_nat, Int.toNat_natCast, gq_tadd, gq_tmul, gq_lte, gq_br, gq_bd, gq_ck, Bool.false_eq_true, gq_leT, gq_leF, gq_ltT, gq_ltF, gq_eqT, gq_eqF, if_true, if_false, j1]
        · unfold f_X12_after
          rw [gq_lte, gq_lit, a1, gq_bd, if_pos rfl, ed]
          simp (disch := omega) only [Int.reduceToNat, gq_lit, gq_neg, gq_add, gq_sub, gq_mul, gq_nat, Int.toNat_natCast, gq_tadd, gq_tmul, gq_lte, gq_br, gq_bd, gq_ck, Bool.false_eq_true, gq_leT, gq_leF, gq_ltT, gq_ltF, gq_eqT, gq_eqF, if_true, if_false, gq_inT, b3, v2, j2]
      by_cases q3 : q = 3
      · subst q3
        refine fin (gq_I v) ?_ ?_
        · unfold f_X11_after
          rw [et]
          simp (disch := omega) only [Int.reduceToNat, gq_lit, gq_neg, gq_add, gq_sub, gq_mul, gq_nat, Int.toNat_natCast, gq_tadd, gq_tmul, gq_lte, gq_br, gq_bd, gq_ck, Bool.false_eq_true, gq_leT, gq_leF, gq_ltT, gq_ltF, gq_eqT, gq_eqF, if_true, if_false, v1]
        · unfold f_X12_after
          rw [gq_lte, gq_lit, a1, gq_bd, if_pos rfl, ed]
          simp (disch := omega) only [Int.reduceToNat, gq_lit, gq_neg, gq_add, gq_sub, gq_mul, gq_nat, Int.toNat_natCast, gq_tadd, gq_tmul, gq_lte, gq_br, gq_bd, gq_ck, Bool.false_eq_true, gq_leT, gq_leF, gq_ltT, gq_ltF, gq_eqT, gq_eqF, if_true, if_false, gq_inT, b3, v2]
      have q4 : q = 4 := by omega
      subst q4
      have hm := (gy_there b4 ok (p := 0) (m := v) (by omega) (by omega)).2.2.2
      by_cases v3 : v = -1
      · refine fin (gq_I 0) ?_ ?_
        · have hm2 : ¬ f_X5_hasMinute 63 (gq_I v) μ' = true := fun c => absurd (hm.mp c) (by omega)
          unfold f_X11_after f_X3_timesMoved
          rw [et]
          simp (disch := omega) only [Int.reduceToNat, gq_lit, gq_neg, gq_add, gq_sub, gq_mul, gq_nat, Int.toNat_natCast, gq_tadd, gq_tmul, gq_lte, gq_br, gq_bd, gq_ck, Bool.false_eq_true, gq_leT, gq_leF, gq_ltT, gq_ltF, gq_eqT, gq_eqF, if_true, if_false, v1]
          rw [if_neg hm2]
          rfl
        · unfold f_X12_after
          rw [gq_lte, gq_lit, a1, gq_bd, if_pos rfl, ed]
          simp (disch := omega) only [Int.reduceToNat, gq_lit, gq_neg, gq_add, gq_sub, gq_mul, gq_nat, Int.toNat_natCast, gq_tadd, gq_tmul, gq_lte, gq_br, gq_bd, gq_ck, Bool.false_eq_true, gq_leT, gq_leF, gq_ltT, gq_ltF, gq_eqT, gq_eqF, if_true, if_false, gq_inT, b3, v2]
      · have em := b4.2.2.2.2.2.2.2.1 v.toNat (by omega)
        refine fin (μ'.1 74 v.toNat) ?_ ?_
        · have hm2 : f_X5_hasMinute 63 (gq_I v) μ' = true := hm.mpr (by omega)
          unfold f_X11_after f_X3_timesMoved
          rw [et]
          simp (disch := omega) only [Int.reduceToNat, gq_lit, gq_neg, gq_add, gq_sub, gq_mul, gq_nat, Int.toNat_natCast, gq_tadd, gq_tmul, gq_lte, gq_br, gq_bd, gq_ck, Bool.false_eq_true, gq_leT, gq_leF, gq_ltT, gq_ltF, gq_eqT, gq_eqF, if_true, if_false, v1]
          rw [if_pos hm2]
          rfl
        · unfold f_X12_after
          rw [gq_lte, gq_lit, a1, gq_bd, if_pos rfl, ed]
          simp (disch := omega) only [Int.reduceToNat, gq_lit, gq_neg, gq_add, gq_sub, gq_mul, gq_nat, Int.toNat_natCast, gq_tadd, gq_tmul, gq_lte, gq_br, gq_bd, gq_ck, Bool.false_eq_true, gq_leT, gq_leF, gq_ltT, gq_ltF, gq_eqT, gq_eqF, if_true, if_false, gq_inT, b3, v2, em]
    · refine ⟨gq_I (-2), μ', μ2, ?_, ?_, gy_kc_sm b5, a5⟩
      · unfold f_X11_after
        rw [et]
        simp (disch := omega) only [Int.reduceToNat, gq_lit, gq_neg, gq_add, gq_sub, gq_mul, gq_nat, Int.toNat_natCast, gq_tadd, gq_tmul, gq_lte, gq_br, gq_bd, gq_ck, Bool.false_eq_true, gq_leT, gq_leF, gq_ltT, gq_ltF, gq_eqT, gq_eqF, if_true, if_false]
      · unfold f_X12_after
        rw [gq_lte, gq_lit, a1, gq_bd, if_pos rfl]
        simp (disch := omega) only [Int.reduceToNat, gq_lit, gq_neg, gq_add, gq_sub, gq_mul, gq_nat, Int.toNat_natCast, gq_tadd, gq_tmul, gq_lte, gq_br, gq_bd, gq_ck, Bool.false_eq_true, gq_leT, gq_leF, gq_ltT, gq_ltF, gq_eqT, gq_eqF, if_true, if_false, gq_inF]
theorem gq_e_drawn {μ : gx_M} (hI : gq_inv μ) (p1 p2 p3 p4 : Int32) : gq_st (f_X11_drawn p1 p2 p3 p4) (f_X12_drawn p1 p2 p3 p4) μ := by
  obtain ⟨z, hz, rfl⟩ := gq_ex p1
  obtain ⟨P, hP, rfl⟩ := gq_ex p3
  obtain ⟨q, hq, rfl⟩ := gq_ex p4
  refine gq_two hI fun ν0 hν => ?_
  by_cases g : 0 ≤ P ∧ P ≤ 60
  · rcases gq_op hI hz with ⟨h1, h2⟩ | ⟨s, w, hs, rfl, ok, hc, h1, h2⟩
    · refine ⟨gq_I (-2), μ, gx_uI ν0 206 0 (gq_I 0), ?_, ?_, gq_sm_rf, gq_sm_uI gq_Pm206 gq_sm_rf⟩
      · unfold f_X11_drawn
        rw [h1]
        rfl
      · unfold f_X12_drawn
        simp (disch := omega) only [Int.reduceToNat, gq_lit, gq_neg, gq_add, gq_sub, gq_mul, gq_nat, Int.toNat_natCast, gq_tadd, gq_tmul, gq_lte, gq_br, gq_bd, gq_ck, Bool.false_eq_true, gq_leT, gq_leF, gq_ltT, gq_ltF, gq_eqT, gq_eqF, if_true, if_false, gq_inT, h2 ν0 hν]
    · obtain ⟨μ2, a1, a2, a3⟩ := h2 ν0 hν
      obtain ⟨μ3, ν3, b1, b2, b3, b4, b5, b6⟩ := gy_beg (ν := gx_uI μ2 206 55 p2) hs ok hc (gq_hd_w a2 fun a j g => by rw [gq_uI1, if_neg (by omega)])
      have h2' : gy_R2 (gx_uI μ3 62 6 p2) ν3 s w := by
        have e55 : ν3.1 206 55 = p2 := by rw [b6, gq_uI1, if_pos ⟨rfl, rfl⟩]
        refine ⟨?_, by rw [e55, gq_uI1, if_pos ⟨rfl, rfl⟩]⟩
        have := gy_seed b3 p2
        rw [show gx_uI ν3 206 55 p2 = ν3 by
          refine gq_mext (fun a j => ?_) fun _ _ => rfl
          rw [gq_uI1]
          by_cases g : a = 206 ∧ j = 55
          · rw [if_pos g, g.1, g.2, e55]
          · rw [if_neg g]] at this
        exact this
      obtain ⟨μ4, ν4, d1, d2, d3, d4⟩ := gy_drawL ok (by omega) g (k := fun (μ11 : gx_M) => some ((), μ11)) (k2 := fun (μ16 : gx_M) => gx_br (f_X12_ofState (gq_I q) μ16) (fun (r17 : Int32) => some (r17, μ16))) P.toNat 4000 0 (gx_uI μ3 62 6 p2) ν3 (by omega) (by omega) h2'
      obtain ⟨t, t1, t2⟩ := gy_answer d3.1 ok hq
      have dd : f_X3_drawDeeds (8 + 16 * s) p2 (gq_I P) μ = some ((), μ4) := by
        unfold f_X3_drawDeeds
        rw [b1, gq_bd, gq_lte]
        exact d1
      refine ⟨t, μ4, ν4, ?_, ?_, gq_sm_tr (gq_sm_tr (gy_kc_sm b4) (gq_sm_uI (by unfold gq_Pc; omega) gq_sm_rf)) d4.1, gq_sm_tr (gq_sm_tr (gq_sm_tr a3 (gq_sm_uI gq_Pm206 gq_sm_rf)) (gy_km_sm b5)) d4.2⟩
      · unfold f_X11_drawn
        simp (disch := omega) only [Int.reduceToNat, gq_lit, gq_neg, gq_add, gq_sub, gq_mul, gq_nat, Int.toNat_natCast, gq_tadd, gq_tmul, gq_lte, gq_br, gq_bd, gq_ck, Bool.false_eq_true, gq_leT, gq_leF, gq_ltT, gq_ltF, gq_eqT, gq_eqF, if_true, if_false, h1, dd, t1]
      · unfold f_X12_drawn
        simp (disch := omega) only [Int.reduceToNat, gq_lit, gq_neg, gq_add, gq_sub, gq_mul, gq_nat, Int.toNat_natCast, gq_tadd, gq_tmul, gq_lte, gq_br, gq_bd, gq_ck, Bool.false_eq_true, gq_leT, gq_leF, gq_ltT, gq_ltF, gq_eqT, gq_eqF, if_true, if_false, gq_inT, a1, b2]
        refine Eq.trans d2 ?_
        rw [t2]
        rfl
  · refine ⟨gq_I (-2), μ, gx_uI ν0 206 0 (gq_I 0), ?_, ?_, gq_sm_rf, gq_sm_uI gq_Pm206 gq_sm_rf⟩
    · have hh : ∃ b, f_X11_hasStreet (gq_I z) μ = some b := by
        rcases gq_op hI hz with ⟨h1, h2⟩ | ⟨s, w, hs, rfl, ok, hc, h1, h2⟩
        · exact ⟨_, h1⟩
        · exact ⟨_, h1⟩
      obtain ⟨b, hb⟩ := hh
      unfold f_X11_drawn
      rw [hb, gq_br]
      cases b with
      | false => rfl
      | true =>
        by_cases g2 : P < 0
        · simp (disch := omega) only [Int.reduceToNat, gq_lit, gq_neg, gq_add, gq_sub, gq_mul, gq_nat, Int.toNat_natCast, gq_tadd, gq_tmul, gq_lte, gq_br, gq_bd, gq_ck, Bool.false_eq_true, gq_leT, gq_leF, gq_ltT, gq_ltF, gq_eqT, gq_eqF, if_true, if_false]
        · simp (disch := omega) only [Int.reduceToNat, gq_lit, gq_neg, gq_add, gq_sub, gq_mul, gq_nat, Int.toNat_natCast, gq_tadd, gq_tmul, gq_lte, gq_br, gq_bd, gq_ck, Bool.false_eq_true, gq_leT, gq_leF, gq_ltT, gq_ltF, gq_eqT, gq_eqF, if_true, if_false]
    · unfold f_X12_drawn
      simp (disch := omega) only [Int.reduceToNat, gq_lit, gq_neg, gq_add, gq_sub, gq_mul, gq_nat, Int.toNat_natCast, gq_tadd, gq_tmul, gq_lte, gq_br, gq_bd, gq_ck, Bool.false_eq_true, gq_leT, gq_leF, gq_ltT, gq_ltF, gq_eqT, gq_eqF, if_true, if_false, gq_inF]
