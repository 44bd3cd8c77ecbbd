theorem gq_far_0 {k : Nat} : gq_far (gq_ad (k + 1)) (gq_ad 0) ∧ gq_far (gq_ad 0) (gq_ad (k + 1)) := by
  rw [gq_ad_s, gq_ad_0]
  unfold gq_far
  omega
theorem gq_im_ne {i i' a j : Nat} (h : gq_im i a j) (hn : i ≠ i') : ¬ gq_im i' a j := by
  unfold gq_im at h ⊢
  omega
theorem gq_im_a {i a j : Nat} (h : gq_im i a j) : 207 ≤ a ∧ a ≤ 215 := by
  unfold gq_im at h
  omega
theorem gq_e_image {μ : gx_M} (hI : gq_inv μ) (p : Int32) : gq_st (f_X11_image p) (f_X12_image p) μ := by
  obtain ⟨z, hz, rfl⟩ := gq_ex p
  by_cases h : 0 ≤ z ∧ z < 3
  · obtain ⟨k, rfl⟩ : ∃ k : Nat, z = k := ⟨z.toNat, by omega⟩
    have hk : k < 3 := by omega
    obtain ⟨⟨tp, n, f, q, N, W, Y, G, V, ok, hc, hm⟩, hK, hmost⟩ := hI
    have L0 := hmost.1 0 (by omega)
    have Lk := hmost.1 (k + 1) (by omega)
    obtain ⟨μ1, e1, c1, l1, f1, t1⟩ := gq_copyT (μ := μ) (gq_far_0 (k := k)).1 ok hc Lk L0
    obtain ⟨μ2, e2⟩ : ∃ μ2, μ2 = gx_uI μ1 41 k (gq_I 1) := ⟨_, rfl⟩
    obtain ⟨μ3, e3⟩ : ∃ μ3, μ3 = gx_uI μ2 206 0 (gq_I 0) := ⟨_, rfl⟩
    have hak := gq_ad_s k
    have F3 : ∀ a j, ¬ (gq_ad (k + 1) ≤ a ∧ a ≤ gq_ad (k + 1) + 38) → ¬ (a = 41 ∧ j = k) → ¬ (a = 206 ∧ j = 0) → μ3.1 a j = μ.1 a j := fun a j h1 h2 h3 => by
      rw [e3, gq_uI1, if_neg h3, e2, gq_uI1, if_neg h2, f1 _ _ h1]
    have F4 : ∀ a j, ¬ (a = 41 ∧ j = k) → ¬ (a = 206 ∧ j = 0) → μ3.1 a j = μ1.1 a j := fun a j h2 h3 => by
      rw [e3, gq_uI1, if_neg h3, e2, gq_uI1, if_neg h2]
    have hm3 : gq_mT μ3 0 tp n f q N W Y G V := gq_mT_sm hm fun i h1 h2 => by
      funext j
      exact F3 _ _ (by omega) (by omega) (by omega)
    obtain ⟨μ4, e4, m4, f4, t4⟩ := gq_copyM (x := 0) (y := k + 1) (by omega) (by omega) (by omega) ok hm3
    obtain ⟨μ5, e5⟩ : ∃ μ5, μ5 = gx_uI μ4 235 k (gq_I 1) := ⟨_, rfl⟩
    have F5 : ∀ a j, ¬ gq_im (k + 1) a j → ¬ (a = 235 ∧ j = k) → μ5.1 a j = μ3.1 a j := fun a j h1 h2 => by
      rw [e5, gq_uI1, if_neg h2, f4 _ _ h1]
    have G5 : ∀ a j, ¬ (gq_ad (k + 1) ≤ a ∧ a ≤ gq_ad (k + 1) + 38) → ¬ (a = 41 ∧ j = k) → ¬ (a = 206 ∧ j = 0) → ¬ gq_im (k + 1) a j → ¬ (a = 235 ∧ j = k) → μ5.1 a j = μ.1 a j := fun a j h1 h2 h3 h4 h5 => by
      rw [F5 _ _ h4 h5, F3 _ _ h1 h2 h3]
    refine ⟨true, μ2, μ5, ?_, ?_, ⟨tp, n, f, q, N, W, Y, G, V, ok, ?_, ?_⟩, fun i hi => ?_, fun i hi s hs => ?_, ?_, ?_, ?_⟩
    · unfold f_X11_image
      have e1' : f_X9_copyFrom (89 + 39 * k) 1 μ = some ((), μ1) := by rw [← hak, ← gq_ad_0]; exact e1
      simp (disch := omega) only [Int.reduceToNat, gq_lit, gq_neg, gq_add, gq_sub, gq_mul, gq_nat, Int.toNat_natCast, gq_tadd, gq_tmul, gq_lte, gq_br, gq_bd, gq_ck, Bool.false_eq_true, gq_leT, gq_leF, gq_ltT, gq_ltF, gq_eqT, gq_eqF, if_true, if_false, e1', gq_biT]
      rw [e2]
    · unfold f_X12_image
      have e4' : f_X12_copyAll (gq_I 0) (gq_I ((k : Int) + 1)) μ3 = some ((), μ4) := e4
      simp (disch := omega) only [Int.reduceToNat, gq_lit, gq_neg, gq_add, gq_sub, gq_mul, gq_nat, Int.toNat_natCast, gq_tadd, gq_tmul, gq_lte, gq_br, gq_bd, gq_ck, Bool.false_eq_true, gq_leT, gq_leF, gq_ltT, gq_ltF, gq_eqT, gq_eqF, if_true, if_false, gq_inT, gq_biT]
      rw [← e3, e4']
      simp only [gq_bd]
      rw [e5]
    · refine gq_cT_sm ok.2.2.1 hc fun j hj => ?_
      rw [gq_ad_0]
      funext b
      exact G5 _ _ (by omega) (by omega) (by omega) (fun g => by have := gq_im_a g; omega) (by omega)
    · refine gq_mT_im ok.2.2.1 hm fun a j ha => ?_
      have := gq_im_a ha
      exact G5 _ _ (by omega) (by omega) (by omega) (gq_im_ne ha (by omega)) (by omega)
    · by_cases hik : i = k
      · subst hik
        refine ⟨?_, Or.inr ⟨?_, tp, n, f, q, N, W, Y, G, V, ok, ?_, ?_⟩⟩
        · rw [F5 41 i (fun g => by have := gq_im_a g; omega) (by omega), e3, gq_uI1, if_neg (by omega), e2, gq_uI1, if_pos ⟨rfl, rfl⟩, e5, gq_uI1, if_pos ⟨rfl, rfl⟩]
        · rw [F5 41 i (fun g => by have := gq_im_a g; omega) (by omega), e3, gq_uI1, if_neg (by omega), e2, gq_uI1, if_pos ⟨rfl, rfl⟩]
        · refine gq_cT_sm ok.2.2.1 c1 fun j hj => ?_
          funext b
          rw [F5 _ _ (fun g => by have := gq_im_a g; omega) (by omega), F4 _ _ (by omega) (by omega)]
        · refine gq_mT_im ok.2.2.1 m4 fun a j ha => ?_
          have := gq_im_a ha
          rw [e5, gq_uI1, if_neg (by omega)]
      · have hki := hK i hi
        have hai := gq_ad_s i
        rw [G5 41 i (by omega) (by omega) (by omega) (fun g => by have := gq_im_a g; omega) (by omega), G5 235 i (by omega) (by omega) (by omega) (fun g => by have := gq_im_a g; omega) (by omega)]
        refine ⟨hki.1, hki.2.imp (fun h => h) fun h => ⟨h.1, gq_told_im h.2 (fun a h1 h2 => ?_) (fun a j ha => ?_)⟩⟩
        · funext j
          exact G5 _ _ (by omega) (by omega) (by omega) (fun g => by have := gq_im_a g; omega) (by omega)
        · have := gq_im_a ha
          exact G5 _ _ (by omega) (by omega) (by omega) (gq_im_ne ha (by omega)) (by omega)
    · by_cases hik : i = k + 1
      · subst hik
        refine ⟨gq_ln_w (l1 s hs).1 fun j => ?_, gq_ln_w (l1 s hs).2 fun j => ?_⟩
        · rw [F5 _ _ (fun g => by have := gq_im_a g; omega) (by omega), F4 _ _ (by omega) (by omega)]
        · rw [F5 _ _ (fun g => by have := gq_im_a g; omega) (by omega), F4 _ _ (by omega) (by omega)]
      · have g1 : ¬ (gq_ad (k + 1) ≤ gq_ad i + 15 + 16 * s ∧ gq_ad i + 15 + 16 * s ≤ gq_ad (k + 1) + 38) ∧ ¬ (gq_ad (k + 1) ≤ gq_ad i + 18 + 16 * s ∧ gq_ad i + 18 + 16 * s ≤ gq_ad (k + 1) + 38) := by
          rcases Nat.lt_or_gt_of_ne hik with h | h
          · have := gq_ad_ge h; omega
          · have := gq_ad_ge h; omega
        have g2 := gq_ad_in (i := i) (a := gq_ad i + 15 + 16 * s) hi (by omega)
        have g3 := gq_ad_in (i := i) (a := gq_ad i + 18 + 16 * s) hi (by omega)
        refine ⟨gq_ln_w (hmost.1 i hi s hs).1 fun j => ?_, gq_ln_w (hmost.1 i hi s hs).2 fun j => ?_⟩
        · exact G5 _ _ g1.1 (by omega) (by omega) (fun g => by have := gq_im_a g; omega) (by omega)
        · exact G5 _ _ g1.2 (by omega) (by omega) (fun g => by have := gq_im_a g; omega) (by omega)
    · refine gq_ln_w hmost.2.1 fun j => ?_
      exact G5 _ _ (by omega) (by omega) (by omega) (fun g => by have := gq_im_a g; omega) (by omega)
    · refine gq_ln_w hmost.2.2.1 fun j => ?_
      exact G5 _ _ (by omega) (by omega) (by omega) (fun g => by have := gq_im_a g; omega) (by omega)
    · refine gq_rd_w hmost.2.2.2 fun j => ?_
      exact G5 _ _ (by omega) (by omega) (by omega) (fun g => by have := gq_im_a g; omega) (by omega)
  · refine gq_st_q hI (r := false) (μ1 := μ) (μ2 := gx_uI μ 206 0 (gq_I 0)) ?_ gq_sm_rf ?_ (gq_sm_uI gq_Pm206 gq_sm_rf)
    · unfold f_X11_image
      by_cases h2 : z < 0
      · simp (disch := omega) only [Int.reduceToNat, gq_lit, gq_neg, gq_add, gq_sub, gq_mul, gq_nat, Int.toNat_natCast, gq_tadd, gq_tmul, gq_lte, gq_br, gq_bd, gq_ck, Bool.false_eq_true, gq_leT, gq_leF, gq_ltT, gq_ltF, gq_eqT, gq_eqF, if_true, if_false]
      · simp (disch := omega) only [Int.reduceToNat, gq_lit, gq_neg, gq_add, gq_sub, gq_mul, gq_nat, Int.toNat_natCast, gq_tadd, gq_tmul, gq_lte, gq_br, gq_bd, gq_ck, Bool.false_eq_true, gq_leT, gq_leF, gq_ltT, gq_ltF, gq_eqT, gq_eqF, if_true, if_false]
    · unfold f_X12_image
      simp (disch := omega) only [Int.reduceToNat, gq_lit, gq_neg, gq_add, gq_sub, gq_mul, gq_nat, Int.toNat_natCast, gq_tadd, gq_tmul, gq_lte, gq_br, gq_bd, gq_ck, Bool.false_eq_true, gq_leT, gq_leF, gq_ltT, gq_ltF, gq_eqT, gq_eqF, if_true, if_false, gq_inF]
theorem gq_e_again {μ : gx_M} (hI : gq_inv μ) (p : Int32) : gq_st (f_X11_again p) (f_X12_again p) μ := by
  obtain ⟨z, hz, rfl⟩ := gq_ex p
  have hI0 := hI
  by_cases h : 0 ≤ z ∧ z < 3
  · obtain ⟨k, rfl⟩ : ∃ k : Nat, z = k := ⟨z.toNat, by omega⟩
    have hk : k < 3 := by omega
    obtain ⟨_, hK, hmost⟩ := hI
    have hak := gq_ad_s k
    obtain ⟨hk1, hk2⟩ := hK k hk
    rcases hk2 with hk2 | ⟨hk2, tp, n, f, q, N, W, Y, G, V, ok, hc, hm⟩
    · refine gq_st_q hI0 (r := false) (μ1 := μ) (μ2 := gx_uI μ 206 0 (gq_I 0)) ?_ gq_sm_rf ?_ (gq_sm_uI gq_Pm206 gq_sm_rf)
      · unfold f_X11_again
        simp (disch := omega) only [Int.reduceToNat, gq_lit, gq_neg, gq_add, gq_sub, gq_mul, gq_nat, Int.toNat_natCast, gq_tadd, gq_tmul, gq_lte, gq_br, gq_bd, gq_ck, Bool.false_eq_true, gq_leT, gq_leF, gq_ltT, gq_ltF, gq_eqT, gq_eqF, if_true, if_false, hk2]
      · unfold f_X12_again
        simp (disch := omega) only [Int.reduceToNat, gq_lit, gq_neg, gq_add, gq_sub, gq_mul, gq_nat, Int.toNat_natCast, gq_tadd, gq_tmul, gq_lte, gq_br, gq_bd, gq_ck, Bool.false_eq_true, gq_leT, gq_leF, gq_ltT, gq_ltF, gq_eqT, gq_eqF, if_true, if_false, gq_inT, gq_uI1, gq_uI2, gq_uL1, gq_uL2, Nat.reduceEqDiff, false_and, and_false, and_true, true_and, hk1, hk2]
    · have L0 := hmost.1 0 (by omega)
      have Lk := hmost.1 (k + 1) (by omega)
      obtain ⟨μ1, e1, c1, l1, f1, t1⟩ := gq_copyT (μ := μ) (gq_far_0 (k := k)).2 ok hc L0 Lk
      obtain ⟨μ3, e3⟩ : ∃ μ3, μ3 = gx_uI μ1 206 0 (gq_I 0) := ⟨_, rfl⟩
      rw [gq_ad_0] at f1
      have F3 : ∀ a j, ¬ (1 ≤ a ∧ a ≤ 39) → ¬ (a = 206 ∧ j = 0) → μ3.1 a j = μ.1 a j := fun a j h1 h3 => by
        rw [e3, gq_uI1, if_neg h3, f1 _ _ (by omega)]
      have hm3 : gq_mT μ3 (k + 1) tp n f q N W Y G V := gq_mT_sm hm fun i h1 h2 => by
        funext j
        exact F3 _ _ (by omega) (by omega)
      obtain ⟨μ4, e4, m4, f4, t4⟩ := gq_copyM (x := k + 1) (y := 0) (by omega) (by omega) (by omega) ok hm3
      have G4 : ∀ a j, ¬ (1 ≤ a ∧ a ≤ 39) → ¬ (a = 206 ∧ j = 0) → ¬ gq_im 0 a j → μ4.1 a j = μ.1 a j := fun a j h1 h2 h3 => by
        rw [f4 _ _ h3, F3 _ _ h1 h2]
      have C4 : ∀ a j, 1 ≤ a ∧ a ≤ 39 → μ4.1 a j = μ1.1 a j := fun a j h1 => by
        rw [f4 _ _ (fun g => by have := gq_im_a g; omega), e3, gq_uI1, if_neg (by omega)]
      refine ⟨true, μ1, μ4, ?_, ?_, gq_inv_up hI0 ⟨tp, n, f, q, N, W, Y, G, V, ok, ?_, m4⟩ ?_ (fun a ha => ?_) fun i h1 h2 a j ha => ?_⟩
      · unfold f_X11_again
        have e1' : f_X9_copyFrom 1 (89 + 39 * k) μ = some ((), μ1) := by rw [← hak, ← gq_ad_0]; exact e1
        simp (disch := omega) only [Int.reduceToNat, gq_lit, gq_neg, gq_add, gq_sub, gq_mul, gq_nat, Int.toNat_natCast, gq_tadd, gq_tmul, gq_lte, gq_br, gq_bd, gq_ck, Bool.false_eq_true, gq_leT, gq_leF, gq_ltT, gq_ltF, gq_eqT, gq_eqF, if_true, if_false, hk2, e1']
      · unfold f_X12_again
        have e4' : f_X12_copyAll (gq_I ((k : Int) + 1)) (gq_I 0) μ3 = some ((), μ4) := e4
        have k3 : μ1.1 235 k = gq_I 1 := by rw [f1 _ _ (by omega), hk1, hk2]
        simp (disch := omega) only [Int.reduceToNat, gq_lit, gq_neg, gq_add, gq_sub, gq_mul, gq_nat, Int.toNat_natCast, gq_tadd, gq_tmul, gq_lte, gq_br, gq_bd, gq_ck, Bool.false_eq_true, gq_leT, gq_leF, gq_ltT, gq_ltF, gq_eqT, gq_eqF, if_true, if_false, gq_inT, gq_uI1, gq_uI2, gq_uL1, gq_uL2, Nat.reduceEqDiff, false_and, and_false, and_true, true_and, k3]
        rw [← e3, e4']
        rfl
      · refine gq_cT_sm ok.2.2.1 c1 fun j hj => ?_
        funext b
        rw [gq_ad_0]
        exact C4 _ _ (by omega)
      · refine ⟨fun i hi s hs => ?_, gq_ln_w hmost.2.1 fun j => G4 _ _ (by omega) (by omega) (fun g => by have := gq_im_a g; omega), gq_ln_w hmost.2.2.1 fun j => G4 _ _ (by omega) (by omega) (fun g => by have := gq_im_a g; omega), gq_rd_w hmost.2.2.2 fun j => G4 _ _ (by omega) (by omega) (fun g => by have := gq_im_a g; omega)⟩
        rcases Nat.eq_zero_or_pos i with h0 | h0
        · subst h0
          refine ⟨gq_ln_w (l1 s hs).1 fun j => C4 _ _ ?_, gq_ln_w (l1 s hs).2 fun j => C4 _ _ ?_⟩ <;>
          · rw [gq_ad_0]; omega
        · have g1 := gq_ad_ge h0
          rw [gq_ad_0] at g1
          have g2 := gq_ad_in (i := i) (a := gq_ad i + 15 + 16 * s) hi (by omega)
          have g3 := gq_ad_in (i := i) (a := gq_ad i + 18 + 16 * s) hi (by omega)
          exact ⟨gq_ln_w (hmost.1 i hi s hs).1 fun j => G4 _ _ (by omega) (by omega) (fun g => by have := gq_im_a g; omega), gq_ln_w (hmost.1 i hi s hs).2 fun j => G4 _ _ (by omega) (by omega) (fun g => by have := gq_im_a g; omega)⟩
      · funext j
        exact G4 _ _ (by omega) (by omega) (fun g => by have := gq_im_a g; omega)
      · have := gq_im_a ha
        exact G4 _ _ (by omega) (by omega) (gq_im_ne ha (by omega))
  · refine gq_st_q hI (r := false) (μ1 := μ) (μ2 := gx_uI μ 206 0 (gq_I 0)) ?_ gq_sm_rf ?_ (gq_sm_uI gq_Pm206 gq_sm_rf)
    · unfold f_X11_again
      by_cases h2 : z < 0
      · simp (disch := omega) only [Int.reduceToNat, gq_lit, gq_neg, gq_add, gq_sub, gq_mul, gq_nat, Int.toNat_natCast, gq_tadd, gq_tmul, gq_lte, gq_br, gq_bd, gq_ck, Bool.false_eq_true, gq_leT, gq_leF, gq_ltT, gq_ltF, gq_eqT, gq_eqF, if_true, if_false]
      · simp (disch := omega) only [Int.reduceToNat, gq_lit, gq_neg, gq_add, gq_sub, gq_mul, gq_nat, Int.toNat_natCast, gq_tadd, gq_tmul, gq_lte, gq_br, gq_bd, gq_ck, Bool.false_eq_true, gq_leT, gq_leF, gq_ltT, gq_ltF, gq_eqT, gq_eqF, if_true, if_false]
    · unfold f_X12_again
      simp (disch := omega) only [Int.reduceToNat, gq_lit, gq_neg, gq_add, gq_sub, gq_mul, gq_nat, Int.toNat_natCast, gq_tadd, gq_tmul, gq_lte, gq_br, gq_bd, gq_ck, Bool.false_eq_true, gq_leT, gq_leF, gq_ltT, gq_ltF, gq_eqT, gq_eqF, if_true, if_false, gq_inF]
