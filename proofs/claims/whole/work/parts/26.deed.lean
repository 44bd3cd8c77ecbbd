/-! deed, fact -/
theorem gq_deeds {μ : gx_M} {s : Nat} {y : Nat → Int} (h : μ.1 206 33 = gq_I s) (hs : s < 8) (hy : gq_mY μ s y) : f_X12_deeds μ = some (gq_I (y 0)) := by
  have e := hy 0 (by omega)
  unfold f_X12_deeds
  rw [h]
  simp (disch := omega) only [Int.reduceToNat, gq_lit, gq_neg, gq_add, gq_sub, gq_mul, gq_nat, Int.toNat_natCast, gq_tadd, gq_tmul, gq_lte, gq_br, gq_bd, gq_ck]
  rw [← e]
  rfl
theorem gq_deedOf {μ : gx_M} {s : Nat} {y : Nat → Int} (h : μ.1 206 33 = gq_I s) (hs : s < 8) (hy : gq_mY μ s y) {k x : Int} (hk : (0 ≤ k ∧ k < 40) ∧ 0 ≤ x ∧ x < 4) : f_X12_deedOf (gq_I k) (gq_I x) μ = some (gq_I (y (1 + 4 * k.toNat + x.toNat))) := by
  have e := hy (1 + 4 * k.toNat + x.toNat) (by omega)
  unfold f_X12_deedOf
  rw [h]
  simp (disch := omega) only [Int.reduceToNat, gq_lit, gq_neg, gq_add, gq_sub, gq_mul, gq_nat, Int.toNat_natCast, gq_tadd, gq_tmul, gq_lte, gq_br, gq_bd, gq_ck]
  rw [← e]
  refine congrArg (fun j => some (μ.1 213 j)) ?_
  omega
theorem gq_facts {μ : gx_M} {s : Nat} {y : Nat → Int} (h : μ.1 206 46 = gq_I s) (hs : s < 8) (hy : gq_mG μ s y) : f_X12_facts μ = some (gq_I (y 0)) := by
  have e := hy 0 (by omega)
  unfold f_X12_facts
  rw [h]
  simp (disch := omega) only [Int.reduceToNat, gq_lit, gq_neg, gq_add, gq_sub, gq_mul, gq_nat, Int.toNat_natCast, gq_tadd, gq_tmul, gq_lte, gq_br, gq_bd, gq_ck]
  rw [← e]
  rfl
theorem gq_factOf {μ : gx_M} {s : Nat} {y : Nat → Int} (h : μ.1 206 46 = gq_I s) (hs : s < 8) (hy : gq_mG μ s y) {k x : Int} (hk : (0 ≤ k ∧ k < 8) ∧ 0 ≤ x ∧ x < 2) : f_X12_factOf (gq_I k) (gq_I x) μ = some (gq_I (y (1 + 2 * k.toNat + x.toNat))) := by
  have e := hy (1 + 2 * k.toNat + x.toNat) (by omega)
  unfold f_X12_factOf
  rw [h]
  simp (disch := omega) only [Int.reduceToNat, gq_lit, gq_neg, gq_add, gq_sub, gq_mul, gq_nat, Int.toNat_natCast, gq_tadd, gq_tmul, gq_lte, gq_br, gq_bd, gq_ck]
  rw [← e]
  refine congrArg (fun j => some (μ.1 214 j)) ?_
  omega
theorem gq_mY_w {μ ν : gx_M} {s : Nat} {w : Nat → Int} (h : gq_mY μ s w) (e : ν.1 213 = μ.1 213) : gq_mY ν s w := by
  unfold gq_mY at h ⊢
  rw [e]
  exact h
theorem gq_mG_w {μ ν : gx_M} {s : Nat} {w : Nat → Int} (h : gq_mG μ s w) (e : ν.1 214 = μ.1 214) : gq_mG ν s w := by
  unfold gq_mG at h ⊢
  rw [e]
  exact h
theorem gq_year {μ : gx_M} {z : Int} {N : Nat} (hN : N ≤ 2) (h1 : μ.1 211 1 = gq_I N) (hz : -2147483648 ≤ z ∧ z < 2147483648) : f_X12_hasYear (gq_I z) μ = some (decide (0 ≤ z ∧ z < N), gx_uI μ 206 33 (gq_I z)) := by
  have his := gq_is (μ := gx_uI μ 206 33 (gq_I z)) (q := 1) (z := z) hz (by omega) hN h1
  unfold f_X12_hasYear
  rw [gq_lte, show (1 : Int32) = gq_I ((1 : Nat) : Int) from gq_lit 1, his, gq_br]
theorem gq_numb {μ : gx_M} {a n : Nat} {k i : Int} (hn : n ≤ 40) (hk : (0 ≤ k ∧ k < n) ∧ 0 ≤ i ∧ i < 3) : f_X2_number a n (gq_I k) (gq_I i) μ = some (μ.1 (a + 2) (3 * k.toNat + i.toNat)) := by
  unfold f_X2_number
  simp (disch := omega) only [Int.reduceToNat, gq_lit, gq_neg, gq_add, gq_sub, gq_mul, gq_nat, Int.toNat_natCast, gq_tadd, gq_tmul, gq_lte, gq_br, gq_bd, gq_ck]
  refine congrArg (fun j => some (μ.1 (a + 2) j)) ?_
  omega
theorem gq_e_deed {μ : gx_M} (hI : gq_inv μ) (p1 p2 p3 : Int32) : ∃ r μ2, f_X11_deed p1 p2 p3 μ = some r ∧ f_X12_deed p1 p2 p3 μ = some (r, μ2) ∧ gq_inv μ2 := by
  obtain ⟨z, hz, rfl⟩ := gq_ex p1
  obtain ⟨k, hk, rfl⟩ := gq_ex p2
  obtain ⟨x, hx, rfl⟩ := gq_ex p3
  have hT := hI.1
  obtain ⟨tp, n, f, q, N, W, Y, G, V, ok, hc, hm⟩ := hT
  rw [gq_ad_0] at hc
  have n0 := ok.2.2.1 1 (by omega)
  have c1 : μ.1 2 1 = gq_I (N 1) := hc.2.2.1 1 (by omega)
  have m1 : μ.1 211 1 = gq_I (N 1) := hm.2.2.1 1 (by omega)
  have hy := gq_year (μ := gx_uI μ 206 0 (gq_I 0)) (z := z) n0 m1 hz
  have hJ : gq_inv (gx_uI (gx_uI μ 206 0 (gq_I 0)) 206 33 (gq_I z)) := gq_inv_m hI (gq_sm_uI gq_Pm206 (gq_sm_uI gq_Pm206 gq_sm_rf))
  by_cases h : 0 ≤ z ∧ z < N 1
  · rw [decide_eq_true h] at hy
    have m2 : gq_mY (gx_uI (gx_uI μ 206 0 (gq_I 0)) 206 33 (gq_I z)) z.toNat (Y z.toNat) := by
      have := hm.2.2.2.2.1 z.toNat (by omega)
      rw [show 2 * 0 + z.toNat = z.toNat by omega] at this
      exact this
    have m3 : (gx_uI (gx_uI μ 206 0 (gq_I 0)) 206 33 (gq_I z)).1 206 33 = gq_I z.toNat := by
      rw [Int.toNat_of_nonneg h.1]; rfl
    have c2 : gq_cY μ (16 + 16 * z.toNat) (Y z.toNat) := hc.2.2.2.2.1 z.toNat (by omega)
    have oY := ok.2.2.2.2.1 z.toNat (by omega)
    obtain ⟨o1, o2⟩ := oY
    obtain ⟨c3, c4⟩ := c2
    have d1 := gq_deeds m3 (by omega) m2
    have d2 := fun {k x : Int} (hk : (0 ≤ k ∧ k < 40) ∧ 0 ≤ x ∧ x < 4) => gq_deedOf m3 (by omega) m2 hk
    have fin : ∀ r, f_X11_deed (gq_I z) (gq_I k) (gq_I x) μ = some r → f_X12_deed (gq_I z) (gq_I k) (gq_I x) μ = some (r, gx_uI (gx_uI μ 206 0 (gq_I 0)) 206 33 (gq_I z)) → ∃ r μ2, f_X11_deed (gq_I z) (gq_I k) (gq_I x) μ = some r ∧ f_X12_deed (gq_I z) (gq_I k) (gq_I x) μ = some (r, μ2) ∧ gq_inv μ2 := fun r h1 h2 => ⟨r, _, h1, h2, hJ⟩
    have cy := gq_hasY c1 n0 hz
    rw [decide_eq_true h] at cy
    by_cases k1 : k = -1
    · by_cases x1 : x = 0
      · refine fin (gq_I (Y z.toNat 0)) ?_ ?_
        · unfold f_X11_deed
          simp (disch := omega) only [cy, Int.reduceToNat, gq_lit, gq_neg, gq_add, gq_sub, gq_mul, gq_nat, Int.toNat_natCast, gq_tadd, gq_tmul, gq_lte, gq_br, gq_bd, gq_ck, gq_leT, gq_leF, gq_ltT, gq_ltF, gq_eqT, gq_eqF, if_true, if_false, c3]
        · unfold f_X12_deed
          simp (disch := omega) only [hy, Int.reduceToNat, gq_lit, gq_neg, gq_add, gq_sub, gq_mul, gq_nat, Int.toNat_natCast, gq_tadd, gq_tmul, gq_lte, gq_br, gq_bd, gq_ck, gq_leT, gq_leF, gq_ltT, gq_ltF, gq_eqT, gq_eqF, if_true, if_false, d1]
      · refine fin (gq_I (-2)) ?_ ?_
        · unfold f_X11_deed
          simp (disch := omega) only [cy, Int.reduceToNat, gq_lit, gq_neg, gq_add, gq_sub, gq_mul, gq_nat, Int.toNat_natCast, gq_tadd, gq_tmul, gq_lte, gq_br, gq_bd, gq_ck, gq_leT, gq_leF, gq_ltT, gq_ltF, gq_eqT, gq_eqF, if_true, if_false]
        · unfold f_X12_deed
          simp (disch := omega) only [hy, Int.reduceToNat, gq_lit, gq_neg, gq_add, gq_sub, gq_mul, gq_nat, Int.toNat_natCast, gq_tadd, gq_tmul, gq_lte, gq_br, gq_bd, gq_ck, gq_leT, gq_leF, gq_ltT, gq_ltF, gq_eqT, gq_eqF, if_true, if_false]
    · by_cases k2 : 0 ≤ k ∧ k < Y z.toNat 0
      · obtain ⟨e1, e2, e3, e4⟩ := c4 k.toNat (by omega)
        by_cases x1 : 0 ≤ x ∧ x ≤ 3
        · refine fin (gq_I (Y z.toNat (1 + 4 * k.toNat + x.toNat))) ?_ ?_
          · unfold f_X11_deed
            by_cases x2 : x = 0
            · subst x2
              simp (disch := omega) only [cy, Int.reduceToNat, gq_lit, gq_neg, gq_add, gq_sub, gq_mul, gq_nat, Int.toNat_natCast, gq_tadd, gq_tmul, gq_lte, gq_br, gq_bd, gq_ck, gq_leT, gq_leF, gq_ltT, gq_ltF, gq_eqT, gq_eqF, if_true, if_false, c3, e1, Int.add_sub_cancel]
              rfl
            · by_cases x3 : x = 1
              · subst x3
                simp (disch := omega) only [cy, Int.reduceToNat, gq_lit, gq_neg, gq_add, gq_sub, gq_mul, gq_nat, Int.toNat_natCast, gq_tadd, gq_tmul, gq_lte, gq_br, gq_bd, gq_ck, gq_leT, gq_leF, gq_ltT, gq_ltF, gq_eqT, gq_eqF, if_true, if_false, c3, gq_numb]
                rw [show 3 * k.toNat + (1 - 1 : Int).toNat = 3 * k.toNat from rfl, e2, show 1 + 4 * k.toNat + 1 = 2 + 4 * k.toNat by omega]
              · by_cases x3 : x = 2
                · subst x3
                  simp (disch := omega) only [cy, Int.reduceToNat, gq_lit, gq_neg, gq_add, gq_sub, gq_mul, gq_nat, Int.toNat_natCast, gq_tadd, gq_tmul, gq_lte, gq_br, gq_bd, gq_ck, gq_leT, gq_leF, gq_ltT, gq_ltF, gq_eqT, gq_eqF, if_true, if_false, c3, gq_numb]
                  rw [show 3 * k.toNat + (2 - 1 : Int).toNat = 3 * k.toNat + 1 from rfl, e3, show 1 + 4 * k.toNat + 2 = 3 + 4 * k.toNat by omega]
                · have x4 : x = 3 := by omega
                  subst x4
                  simp (disch := omega) only [cy, Int.reduceToNat, gq_lit, gq_neg, gq_add, gq_sub, gq_mul, gq_nat, Int.toNat_natCast, gq_tadd, gq_tmul, gq_lte, gq_br, gq_bd, gq_ck, gq_leT, gq_leF, gq_ltT, gq_ltF, gq_eqT, gq_eqF, if_true, if_false, c3, gq_numb]
                  rw [show 3 * k.toNat + (3 - 1 : Int).toNat = 3 * k.toNat + 2 from rfl, e4, show 1 + 4 * k.toNat + 3 = 4 + 4 * k.toNat by omega]
          · unfold f_X12_deed
            simp (disch := omega) only [hy, Int.reduceToNat, gq_lit, gq_neg, gq_add, gq_sub, gq_mul, gq_nat, Int.toNat_natCast, gq_tadd, gq_tmul, gq_lte, gq_br, gq_bd, gq_ck, gq_leT, gq_leF, gq_ltT, gq_ltF, gq_eqT, gq_eqF, if_true, if_false, d1, gq_inT, d2]
        · refine fin (gq_I (-2)) ?_ ?_
          · unfold f_X11_deed
            by_cases x2 : x < 0
            · simp (disch := omega) only [cy, Int.reduceToNat, gq_lit, gq_neg, gq_add, gq_sub, gq_mul, gq_nat, Int.toNat_natCast, gq_tadd, gq_tmul, gq_lte, gq_br, gq_bd, gq_ck, gq_leT, gq_leF, gq_ltT, gq_ltF, gq_eqT, gq_eqF, if_true, if_false, c3]
            · simp (disch := omega) only [cy, Int.reduceToNat, gq_lit, gq_neg, gq_add, gq_sub, gq_mul, gq_nat, Int.toNat_natCast, gq_tadd, gq_tmul, gq_lte, gq_br, gq_bd, gq_ck, gq_leT, gq_leF, gq_ltT, gq_ltF, gq_eqT, gq_eqF, if_true, if_false, c3]
          · unfold f_X12_deed
            simp (disch := omega) only [hy, Int.reduceToNat, gq_lit, gq_neg, gq_add, gq_sub, gq_mul, gq_nat, Int.toNat_natCast, gq_tadd, gq_tmul, gq_lte, gq_br, gq_bd, gq_ck, gq_leT, gq_leF, gq_ltT, gq_ltF, gq_eqT, gq_eqF, if_true, if_false, d1, gq_inT, gq_inF]
      · refine fin (gq_I (-2)) ?_ ?_
        · unfold f_X11_deed
          by_cases k3 : k < 0
          · simp (disch := omega) only [cy, Int.reduceToNat, gq_lit, gq_neg, gq_add, gq_sub, gq_mul, gq_nat, Int.toNat_natCast, gq_tadd, gq_tmul, gq_lte, gq_br, gq_bd, gq_ck, gq_leT, gq_leF, gq_ltT, gq_ltF, gq_eqT, gq_eqF, if_true, if_false, c3]
          · simp (disch := omega) only [cy, Int.reduceToNat, gq_lit, gq_neg, gq_add, gq_sub, gq_mul, gq_nat, Int.toNat_natCast, gq_tadd, gq_tmul, gq_lte, gq_br, gq_bd, gq_ck, gq_leT, gq_leF, gq_ltT, gq_ltF, gq_eqT, gq_eqF, if_true, if_false, c3]
        · unfold f_X12_deed
          simp (disch := omega) only [hy, Int.reduceToNat, gq_lit, gq_neg, gq_add, gq_sub, gq_mul, gq_nat, Int.toNat_natCast, gq_tadd, gq_tmul, gq_lte, gq_br, gq_bd, gq_ck, gq_leT, gq_leF, gq_ltT, gq_ltF, gq_eqT, gq_eqF, if_true, if_false, d1, gq_inF]
  · rw [decide_eq_false h] at hy
    refine ⟨gq_I (-2), _, ?_, ?_, hJ⟩
    · unfold f_X11_deed
      rw [gq_hasY c1 n0 hz, decide_eq_false h]
      rfl
    · unfold f_X12_deed
      rw [gq_lte, gq_lit, hy]
      rfl
theorem gq_e_fact {μ : gx_M} (hI : gq_inv μ) (p1 p2 p3 : Int32) : ∃ r μ2, f_X11_fact p1 p2 p3 μ = some r ∧ f_X12_fact p1 p2 p3 μ = some (r, μ2) ∧ gq_inv μ2 := by
  obtain ⟨z, hz, rfl⟩ := gq_ex p1
  obtain ⟨k, hk, rfl⟩ := gq_ex p2
  obtain ⟨x, hx, rfl⟩ := gq_ex p3
  have hT := hI.1
  obtain ⟨tp, n, f, q, N, W, Y, G, V, ok, hc, hm⟩ := hT
  rw [gq_ad_0] at hc
  have n0 := ok.2.2.1 2 (by omega)
  have c1 : μ.1 2 2 = gq_I (N 2) := hc.2.2.1 2 (by omega)
  have m1 : μ.1 211 2 = gq_I (N 2) := hm.2.2.1 2 (by omega)
  have hy := gq_is (μ := gx_uI (gx_uI μ 206 0 (gq_I 0)) 206 46 (gq_I z)) (q := 2) (z := z) hz (by omega) n0 m1
  rw [show gq_I ((2 : Nat) : Int) = gq_I 2 from rfl] at hy
  have hJ : gq_inv (gx_uI (gx_uI μ 206 0 (gq_I 0)) 206 46 (gq_I z)) := gq_inv_m hI (gq_sm_uI gq_Pm206 (gq_sm_uI gq_Pm206 gq_sm_rf))
  by_cases h : 0 ≤ z ∧ z < N 2
  · rw [decide_eq_true h] at hy
    have m2 : gq_mG (gx_uI (gx_uI μ 206 0 (gq_I 0)) 206 46 (gq_I z)) z.toNat (G z.toNat) := by
      have := hm.2.2.2.2.2.1 z.toNat (by omega)
      rw [show 2 * 0 + z.toNat = z.toNat by omega] at this
      exact this
    have m3 : (gx_uI (gx_uI μ 206 0 (gq_I 0)) 206 46 (gq_I z)).1 206 46 = gq_I z.toNat := by
      rw [Int.toNat_of_nonneg h.1]; rfl
    have c2 : gq_cG μ (19 + 16 * z.toNat) (G z.toNat) := hc.2.2.2.2.2.1 z.toNat (by omega)
    have oY := ok.2.2.2.2.2.1 z.toNat (by omega)
    obtain ⟨o1, o2⟩ := oY
    obtain ⟨c3, c4⟩ := c2
    have d1 := gq_facts m3 (by omega) m2
    have d2 := fun {k x : Int} (hk : (0 ≤ k ∧ k < 8) ∧ 0 ≤ x ∧ x < 2) => gq_factOf m3 (by omega) m2 hk
    have fin : ∀ r, f_X11_fact (gq_I z) (gq_I k) (gq_I x) μ = some r → f_X12_fact (gq_I z) (gq_I k) (gq_I x) μ = some (r, gx_uI (gx_uI μ 206 0 (gq_I 0)) 206 46 (gq_I z)) → ∃ r μ2, f_X11_fact (gq_I z) (gq_I k) (gq_I x) μ = some r ∧ f_X12_fact (gq_I z) (gq_I k) (gq_I x) μ = some (r, μ2) ∧ gq_inv μ2 := fun r h1 h2 => ⟨r, _, h1, h2, hJ⟩
    have cy := gq_hasG c1 n0 hz
    rw [decide_eq_true h] at cy
    by_cases k1 : k = -1
    · by_cases x1 : x = 0
      · refine fin (gq_I (G z.toNat 0)) ?_ ?_
        · unfold f_X11_fact
          simp (disch := omega) only [cy, Int.reduceToNat, gq_lit, gq_neg, gq_add, gq_sub, gq_mul, gq_nat, Int.toNat_natCast, gq_tadd, gq_tmul, gq_lte, gq_br, gq_bd, gq_ck, gq_leT, gq_leF, gq_ltT, gq_ltF, gq_eqT, gq_eqF, if_true, if_false, c3]
        · unfold f_X12_fact
          simp (disch := omega) only [hy, Int.reduceToNat, gq_lit, gq_neg, gq_add, gq_sub, gq_mul, gq_nat, Int.toNat_natCast, gq_tadd, gq_tmul, gq_lte, gq_br, gq_bd, gq_ck, gq_leT, gq_leF, gq_ltT, gq_ltF, gq_eqT, gq_eqF, if_true, if_false, d1]
      · refine fin (gq_I (-2)) ?_ ?_
        · unfold f_X11_fact
          simp (disch := omega) only [cy, Int.reduceToNat, gq_lit, gq_neg, gq_add, gq_sub, gq_mul, gq_nat, Int.toNat_natCast, gq_tadd, gq_tmul, gq_lte, gq_br, gq_bd, gq_ck, gq_leT, gq_leF, gq_ltT, gq_ltF, gq_eqT, gq_eqF, if_true, if_false]
        · unfold f_X12_fact
          simp (disch := omega) only [hy, Int.reduceToNat, gq_lit, gq_neg, gq_add, gq_sub, gq_mul, gq_nat, Int.toNat_natCast, gq_tadd, gq_tmul, gq_lte, gq_br, gq_bd, gq_ck, gq_leT, gq_leF, gq_ltT, gq_ltF, gq_eqT, gq_eqF, if_true, if_false]
    · by_cases k2 : 0 ≤ k ∧ k < G z.toNat 0
      · obtain ⟨e1, e2⟩ := c4 k.toNat (by omega)
        obtain ⟨o3, o4⟩ := o2 k.toNat (by omega)
        by_cases x1 : 0 ≤ x ∧ x ≤ 1
        · refine fin (gq_I (G z.toNat (1 + 2 * k.toNat + x.toNat))) ?_ ?_
          · unfold f_X11_fact
            by_cases x2 : x = 0
            · subst x2
              rw [show 1 + 2 * k.toNat + (0 : Int).toNat = 1 + 2 * k.toNat from rfl]
              by_cases g1 : G z.toNat (1 + 2 * k.toNat) = 1
              · simp (disch := omega) only [cy, Int.reduceToNat, gq_lit, gq_neg, gq_add, gq_sub, gq_mul, gq_nat, Int.toNat_natCast, gq_tadd, gq_tmul, gq_lte, gq_br, gq_bd, gq_ck, gq_leT, gq_leF, gq_ltT, gq_ltF, gq_eqT, gq_eqF, if_true, if_false, c3, e1]
                rw [g1]
              · have g2 : G z.toNat (1 + 2 * k.toNat) = 0 := by omega
                simp (disch := omega) only [cy, Int.reduceToNat, gq_lit, gq_neg, gq_add, gq_sub, gq_mul, gq_nat, Int.toNat_natCast, gq_tadd, gq_tmul, gq_lte, gq_br, gq_bd, gq_ck, gq_leT, gq_leF, gq_ltT, gq_ltF, gq_eqT, gq_eqF, if_true, if_false, c3, e1]
                rw [g2]
            · have x4 : x = 1 := by omega
              subst x4
              simp (disch := omega) only [cy, Int.reduceToNat, gq_lit, gq_neg, gq_add, gq_sub, gq_mul, gq_nat, Int.toNat_natCast, gq_tadd, gq_tmul, gq_lte, gq_br, gq_bd, gq_ck, gq_leT, gq_leF, gq_ltT, gq_ltF, gq_eqT, gq_eqF, if_true, if_false, c3, gq_numb]
              rw [show 3 * k.toNat + 0 = 3 * k.toNat from rfl, e2, show 1 + 2 * k.toNat + 1 = 2 + 2 * k.toNat by omega]
          · unfold f_X12_fact
            simp (disch := omega) only [hy, Int.reduceToNat, gq_lit, gq_neg, gq_add, gq_sub, gq_mul, gq_nat, Int.toNat_natCast, gq_tadd, gq_tmul, gq_lte, gq_br, gq_bd, gq_ck, gq_leT, gq_leF, gq_ltT, gq_ltF, gq_eqT, gq_eqF, if_true, if_false, d1, gq_inT, d2]
        · refine fin (gq_I (-2)) ?_ ?_
          · unfold f_X11_fact
            by_cases x2 : x < 0
            · simp (disch := omega) only [cy, Int.reduceToNat, gq_lit, gq_neg, gq_add, gq_sub, gq_mul, gq_nat, Int.toNat_natCast, gq_tadd, gq_tmul, gq_lte, gq_br, gq_bd, gq_ck, gq_leT, gq_leF, gq_ltT, gq_ltF, gq_eqT, gq_eqF, if_true, if_false, c3]
            · simp (disch := omega) only [cy, Int.reduceToNat, gq_lit, gq_neg, gq_add, gq_sub, gq_mul, gq_nat, Int.toNat_natCast, gq_tadd, gq_tmul, gq_lte, gq_br, gq_bd, gq_ck, gq_leT, gq_leF, gq_ltT, gq_ltF, gq_eqT, gq_eqF, if_true, if_false, c3]
          · unfold f_X12_fact
            simp (disch := omega) only [hy, Int.reduceToNat, gq_lit, gq_neg, gq_add, gq_sub, gq_mul, gq_nat, Int.toNat_natCast, gq_tadd, gq_tmul, gq_lte, gq_br, gq_bd, gq_ck, gq_leT, gq_leF, gq_ltT, gq_ltF, gq_eqT, gq_eqF, if_true, if_false, d1, gq_inT, gq_inF]
      · refine fin (gq_I (-2)) ?_ ?_
        · unfold f_X11_fact
          by_cases k3 : k < 0
          · simp (disch := omega) only [cy, Int.reduceToNat, gq_lit, gq_neg, gq_add, gq_sub, gq_mul, gq_nat, Int.toNat_natCast, gq_tadd, gq_tmul, gq_lte, gq_br, gq_bd, gq_ck, gq_leT, gq_leF, gq_ltT, gq_ltF, gq_eqT, gq_eqF, if_true, if_false, c3]
          · simp (disch := omega) only [cy, Int.reduceToNat, gq_lit, gq_neg, gq_add, gq_sub, gq_mul, gq_nat, Int.toNat_natCast, gq_tadd, gq_tmul, gq_lte, gq_br, gq_bd, gq_ck, gq_leT, gq_leF, gq_ltT, gq_ltF, gq_eqT, gq_eqF, if_true, if_false, c3]
        · unfold f_X12_fact
          simp (disch := omega) only [hy, Int.reduceToNat, gq_lit, gq_neg, gq_add, gq_sub, gq_mul, gq_nat, Int.toNat_natCast, gq_tadd, gq_tmul, gq_lte, gq_br, gq_bd, gq_ck, gq_leT, gq_leF, gq_ltT, gq_ltF, gq_eqT, gq_eqF, if_true, if_false, d1, gq_inF]
  · rw [decide_eq_false h] at hy
    refine ⟨gq_I (-2), _, ?_, ?_, hJ⟩
    · unfold f_X11_fact
      rw [gq_hasG c1 n0 hz, decide_eq_false h]
      rfl
    · unfold f_X12_fact
      simp only [gq_lte, gq_lit, hy]
      rfl
