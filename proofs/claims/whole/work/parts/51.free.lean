/-! questions about a street: the beginning of each; free, halves -/
theorem gq_op {μ : gx_M} (hI : gq_inv μ) {z : Int} (hz : -2147483648 ≤ z ∧ z < 2147483648) : (f_X11_hasStreet (gq_I z) μ = some false ∧ ∀ ν, gq_sm gq_Pc μ ν → f_X12_hand (gq_I z) (gx_uI ν 206 0 (gq_I 0)) = some (false, gx_uI ν 206 0 (gq_I 0))) ∨ ∃ (s : Nat) (w : Nat → Int), s < 2 ∧ z = s ∧ gq_okS w ∧ gq_cS μ (8 + 16 * s) w ∧ f_X11_hasStreet (gq_I z) μ = some true ∧ ∀ ν, gq_sm gq_Pc μ ν → ∃ μ2, f_X12_hand (gq_I z) (gx_uI ν 206 0 (gq_I 0)) = some (true, μ2) ∧ gq_hd μ2 s w ∧ gq_sm gq_Pm ν μ2 := by
  obtain ⟨⟨tp, n, f, q, N, W, Y, G, V, ok, hc, hm⟩, -, -⟩ := hI
  rw [gq_ad_0] at hc
  have n0 := ok.2.2.1 0 (by omega)
  have c1 : μ.1 2 0 = gq_I (N 0) := hc.2.2.1 0 (by omega)
  have m1 : μ.1 211 0 = gq_I (N 0) := hm.2.2.1 0 (by omega)
  have hs := gq_hasS c1 n0 hz
  by_cases h : 0 ≤ z ∧ z < N 0
  · rw [decide_eq_true h] at hs
    refine Or.inr ⟨z.toNat, W z.toNat, by omega, by omega, ok.2.2.2.1 _ (by omega), hc.2.2.2.1 _ (by omega), hs, fun ν hν => ?_⟩
    have e211 : ν.1 211 = μ.1 211 := (hν 211 (by unfold gq_Pc; omega)).1
    have e212 : ν.1 212 = μ.1 212 := (hν 212 (by unfold gq_Pc; omega)).1
    have m2 : gq_mS (gx_uI ν 206 0 (gq_I 0)) z.toNat (W z.toNat) := by
      have := hm.2.2.2.1 z.toNat (by omega)
      rw [show 2 * 0 + z.toNat = z.toNat by omega] at this
      exact gq_mS_w this (by funext j; rw [gq_uI1, if_neg (by omega), e212])
    obtain ⟨μ2, a1, a2, a3, a4⟩ := gq_hand (μ := gx_uI ν 206 0 (gq_I 0)) (z := z) n0 (by rw [gq_uI1, if_neg (by omega), e211]; exact m1) h m2
    exact ⟨μ2, a1, a2, gq_sm_tr (gq_sm_uI gq_Pm206 gq_sm_rf) a3⟩
  · rw [decide_eq_false h] at hs
    refine Or.inl ⟨hs, fun ν hν => ?_⟩
    have e211 : ν.1 211 = μ.1 211 := (hν 211 (by unfold gq_Pc; omega)).1
    exact gq_hand_no (μ := gx_uI ν 206 0 (gq_I 0)) n0 (by rw [gq_uI1, if_neg (by omega), e211]; exact m1) hz h
theorem gq_hasP0 {μ : gx_M} {z p : Int32} (h : f_X11_hasStreet z μ = some false) : f_X11_hasPerson z p μ = some false := by
  unfold f_X11_hasPerson
  rw [h]
  rfl
theorem gq_hasP1 {μ : gx_M} {s : Nat} {w : Nat → Int} {p : Int} (hs : s < 2) (ok : gq_okS w) (hp : -2147483648 ≤ p ∧ p < 2147483648) (hc : gq_cS μ (8 + 16 * s) w) (h : f_X11_hasStreet (gq_I s) μ = some true) : f_X11_hasPerson (gq_I s) (gq_I p) μ = some (decide (0 ≤ p ∧ p < w 1)) := by
  have o1 := ok.2.1
  unfold f_X11_hasPerson f_X5_hasPerson
  rw [h]
  simp (disch := omega) only [Int.reduceToNat, gq_lit, gq_neg, gq_add, gq_sub, gq_mul, gq_nat, Int.toNat_natCast, gq_tadd, gq_tmul, gq_lte, gq_br, gq_bd, gq_ck, if_true, hc.1.2.1]
  by_cases h1 : p < 0
  · simp (disch := omega) only [Bool.false_eq_true, gq_leT, gq_leF, gq_ltT, gq_ltF, gq_eqT, gq_eqF, if_true, if_false]
    rw [decide_eq_false (by omega)]
  · by_cases h2 : w 1 ≤ p
    · simp (disch := omega) only [Bool.false_eq_true, gq_leT, gq_leF, gq_ltT, gq_ltF, gq_eqT, gq_eqF, if_true, if_false]
      rw [decide_eq_false (by omega)]
    · simp (disch := omega) only [Bool.false_eq_true, gq_leT, gq_leF, gq_ltT, gq_ltF, gq_eqT, gq_eqF, if_true, if_false]
      rw [decide_eq_true (by omega)]
theorem gq_isP {μ : gx_M} {s : Nat} {w : Nat → Int} {p : Int} (hp : -2147483648 ≤ p ∧ p < 2147483648) (ok : gq_okS w) (hh : gq_hd μ s w) : (f_X12_isPerson (gq_I p) μ = true) = (0 ≤ p ∧ p < w 1) := by
  have o1 := ok.2.1
  unfold f_X12_isPerson
  rw [hh.1.2.2.1, gq_lit, gq_lit, gq_sub, gq_in (by rw [show (OfNat.ofNat 0 : Int) = 0 from rfl, show (OfNat.ofNat 1 : Int) = 1 from rfl]; omega)]
  apply propext
  rw [show (OfNat.ofNat 0 : Int) = 0 from rfl, show (OfNat.ofNat 1 : Int) = 1 from rfl]
  omega
theorem gq_freeL {μ ν : gx_M} {s a : Nat} {w : Nat → Int} {p : Int} (ok : gq_okS w) (hp : 0 ≤ p ∧ p < w 1) (hc : gq_cS μ a w) (hh : gq_hd ν s w) {k : Int32 → Int32 → Option Int32} {k' : Int32 → Int32 → gx_M → Option (Int32 × gx_M)} : ∀ (d f i : Nat) (L B r : Int), d < f → (i : Int) + d = w 0 → (0 ≤ L ∧ L ≤ i) → (0 ≤ r ∧ r ≤ i) → ∃ L' B' : Int, L_X11_free_35 μ a (gq_I p) k f (gq_I L) (gq_I B) (gq_I r) (gq_I i) = k (gq_I L') (gq_I B') ∧ L_X12_free_36 (gq_I p) k' f (gq_I B) (gq_I L) (gq_I r) (gq_I i) ν = k' (gq_I B') (gq_I L') ν
  | _, 0, _, _, _, _, hf, _, _, _ => absurd hf (Nat.not_lt_zero _)
  | 0, f + 1, i, L, B, r, hf, hi, hL, hr => by
    have o0 := ok.1
    refine ⟨L, B, ?_, ?_⟩
    · rw [L_X11_free_35.eq_2, hc.1.1]
      simp (disch := omega) only [Bool.false_eq_true, gq_leT, gq_leF, gq_ltT, gq_ltF, gq_eqT, gq_eqF, if_true, if_false]
    · rw [L_X12_free_36.eq_2, hh.1.2.1]
      simp (disch := omega) only [Bool.false_eq_true, gq_leT, gq_leF, gq_ltT, gq_ltF, gq_eqT, gq_eqF, if_true, if_false]
  | d + 1, f + 1, i, L, B, r, hf, hi, hL, hr => by
    have o0 := ok.1
    have c3 := hc.2.2.2.1 i (by omega)
    have m3 := hh.2.2.2.1 i (by omega)
    have o6 := ok.2.2.2.2.2.2 i (by omega)
    have o1 := ok.2.1
    obtain ⟨r', er⟩ : ∃ r' : Int, r' = if w (71 + i) = p then r + 1 else 0 := ⟨_, rfl⟩
    have rb : 0 ≤ r' ∧ r' ≤ i + 1 := by rw [er]; split <;> omega
    obtain ⟨L', B', h1, h2⟩ := gq_freeL (k := k) (k' := k') ok hp hc hh d f (i + 1) (if r' ≤ L then L else r') (if r' ≤ L then B else (i : Int) + 1 - r') r' (by omega) (by omega) (by split <;> omega) (by omega)
    refine ⟨L', B', ?_, ?_⟩
    · rw [L_X11_free_35.eq_2, ← h1, hc.1.1]
      by_cases g : w (71 + i) = p
      · rw [if_pos g] at er
        by_cases g2 : r' ≤ L
        · rw [if_pos g2, if_pos g2, er]
          simp (disch := omega) only [Int.reduceToNat, gq_lit, gq_neg, gq_add, gq_sub, gq_mul, gq_nat, Int.toNat_natCast, gq_tadd, gq_tmul, gq_lte, gq_br, gq_bd, gq_ck, Bool.false_eq_true, gq_leT, gq_leF, gq_ltT, gq_ltF, gq_eqT, gq_eqF, if_true, if_false, c3]
          rfl
        · rw [if_neg g2, if_neg g2, er]
          simp (disch := omega) only [Int.reduceToNat, gq_lit, gq_neg, gq_add, gq_sub, gq_mul, gq_nat, Int.toNat_natCast, gq_tadd, gq_tmul, gq_lte, gq_br, gq_bd, gq_ck, Bool.false_eq_true, gq_leT, gq_leF, gq_ltT, gq_ltF, gq_eqT, gq_eqF, if_true, if_false, c3]
          rw [show (i : Int) - (r + 1) + 1 = i + 1 - (r + 1) by omega]
          rfl
      · rw [if_neg g] at er
        rw [if_pos (c := r' ≤ L) (by omega), if_pos (c := r' ≤ L) (by omega), er]
        simp (disch := omega) only [Int.reduceToNat, gq_lit, gq_neg, gq_add, gq_sub, gq_mul, gq_nat, Int.toNat_natCast, gq_tadd, gq_tmul, gq_lte, gq_br, gq_bd, gq_ck, Bool.false_eq_true, gq_leT, gq_leF, gq_ltT, gq_ltF, gq_eqT, gq_eqF, if_true, if_false, c3]
        rfl
    · rw [L_X12_free_36.eq_2, ← h2, hh.1.2.1]
      by_cases g : w (71 + i) = p
      · rw [if_pos g] at er
        by_cases g2 : r' ≤ L
        · rw [if_pos g2, if_pos g2, er]
          simp (disch := omega) only [Int.reduceToNat, gq_lit, gq_neg, gq_add, gq_sub, gq_mul, gq_nat, Int.toNat_natCast, gq_tadd, gq_tmul, gq_lte, gq_br, gq_bd, gq_ck, Bool.false_eq_true, gq_leT, gq_leF, gq_ltT, gq_ltF, gq_eqT, gq_eqF, if_true, if_false, m3, gp_gr]
          rw [show (if L ≤ r + 1 then r + 1 else L) = L by split <;> omega]
          rfl
        · rw [if_neg g2, if_neg g2, er]
          simp (disch := omega) only [Int.reduceToNat, gq_lit, gq_neg, gq_add, gq_sub, gq_mul, gq_nat, Int.toNat_natCast, gq_tadd, gq_tmul, gq_lte, gq_br, gq_bd, gq_ck, Bool.false_eq_true, gq_leT, gq_leF, gq_ltT, gq_ltF, gq_eqT, gq_eqF, if_true, if_false, m3, gp_gr]
          rw [show (if L ≤ r + 1 then r + 1 else L) = r + 1 by split <;> omega]
          rfl
      · rw [if_neg g] at er
        rw [if_pos (c := r' ≤ L) (by omega), if_pos (c := r' ≤ L) (by omega), er]
        simp (disch := omega) only [Int.reduceToNat, gq_lit, gq_neg, gq_add, gq_sub, gq_mul, gq_nat, Int.toNat_natCast, gq_tadd, gq_tmul, gq_lte, gq_br, gq_bd, gq_ck, Bool.false_eq_true, gq_leT, gq_leF, gq_ltT, gq_ltF, gq_eqT, gq_eqF, if_true, if_false, m3, gp_gr]
        rw [show (if L ≤ 0 then 0 else L) = L by split <;> omega]
        rfl
theorem gq_e_free {μ : gx_M} (hI : gq_inv μ) (p1 p2 : Int32) (b : Bool) : ∃ r μ2, f_X11_free p1 p2 b μ = some r ∧ f_X12_free p1 p2 b μ = some (r, μ2) ∧ gq_inv μ2 := by
  obtain ⟨z, hz, rfl⟩ := gq_ex p1
  obtain ⟨p, hp, rfl⟩ := gq_ex p2
  rcases gq_op hI hz with ⟨h1, h2⟩ | ⟨s, w, hs, rfl, ok, hc, h1, h2⟩
  · refine ⟨gq_I (-2), _, ?_, ?_, gq_inv_m hI (gq_sm_uI (x := gq_I 0) (k := 0) gq_Pm206 gq_sm_rf)⟩
    · unfold f_X11_free
      rw [gq_hasP0 h1]
      rfl
    · unfold f_X12_free
      rw [gq_lte, gq_lit, h2 μ gq_sm_rf]
      rfl
  · obtain ⟨μ2, a1, a2, a3⟩ := h2 μ gq_sm_rf
    have hP := gq_hasP1 hs ok hp hc h1
    have iP := gq_isP hp ok a2
    by_cases g : 0 ≤ p ∧ p < w 1
    · obtain ⟨L', B', b1, b2⟩ := gq_freeL (k := fun (x5_22 : Int32) (x6_23 : Int32) => if b = true then some x6_23 else some x5_22) (k' := fun (x4_26 : Int32) (x5_27 : Int32) (μ28 : gx_M) => if b = true then some (x4_26, μ28) else some (x5_27, μ28)) ok g hc a2 (w 0).toNat 4000 0 0 (-1) 0 (by have := ok.1; omega) (by have := ok.1; omega) (by omega) (by omega)
      refine ⟨if b = true then gq_I B' else gq_I L', μ2, ?_, ?_, gq_inv_m hI a3⟩
      · unfold f_X11_free
        rw [hP, decide_eq_true g]
        simp (disch := omega) only [gq_lit, gq_neg, gq_br, if_true, gq_ck, gq_lte, gq_nat, Int.toNat_natCast]
        refine Eq.trans b1 ?_
        split <;> rfl
      · unfold f_X12_free
        rw [gq_lte, gq_lit, a1, gq_bd, if_pos rfl, if_pos (by rw [iP]; exact g)]
        simp only [gq_lit, gq_neg]
        refine Eq.trans b2 ?_
        split <;> rfl
    · refine ⟨gq_I (-2), μ2, ?_, ?_, gq_inv_m hI a3⟩
      · unfold f_X11_free
        rw [hP, decide_eq_false g]
        rfl
      · unfold f_X12_free
        rw [gq_lte, gq_lit, a1, gq_bd, if_pos rfl, if_neg (by rw [iP]; exact g)]
        rfl
