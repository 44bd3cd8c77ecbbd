/-! feed -/
theorem gq_fitb (x : Int32) : fits .byte (.int (vp_nar .byte x)) = true := by
  rw [vp_nar_byte]
  have h1 := x.toInt8.le_toInt
  have h2 := x.toInt8.toInt_lt
  have h3 := Int8.toInt_toInt32 x.toInt8
  show (decide (-128 ≤ x.toInt8.toInt32) && decide (x.toInt8.toInt32 ≤ 127)) = true
  rw [Bool.and_eq_true, decide_eq_true_iff, decide_eq_true_iff, Int32.le_iff_toInt_le, Int32.le_iff_toInt_le]
  have e1 : (-128 : Int32).toInt = -128 := rfl
  have e2 : (127 : Int32).toInt = 127 := rfl
  omega
/-- both tapes, alike -/
def gq_fd (μ ν : gx_M) (n : Nat) : Prop := μ.1 1 6 = gq_I n ∧ ν.1 208 0 = gq_I n ∧ ∀ k, k < 600 → ν.1 207 k = μ.1 7 k ∧ fits .byte (.int (μ.1 7 k)) = true
theorem gq_fdL {p : Int32} {k : gx_M → Option (Unit × gx_M)} {k' : gx_M → Option (Unit × gx_M)} : ∀ (d f n : Nat) (μ ν : gx_M), d < f → n + d ≤ 600 → gq_fd μ ν n → ∃ μ' ν', L_X9_putNumber_3 p k f (gq_I (8 * d - 8)) μ = k μ' ∧ L_X12_four_3 p k' f (gq_I (8 * d - 8)) ν = k' ν' ∧ gq_fd μ' ν' (n + d) ∧ (∀ a j, ¬ (a = 1 ∧ j = 6) → ¬ a = 7 → μ'.1 a j = μ.1 a j) ∧ (∀ a j, ¬ (a = 208 ∧ j = 0) → ¬ (a = 207 ∧ j < 600) → ν'.1 a j = ν.1 a j)
  | _, 0, _, _, _, hf, _, _ => absurd hf (Nat.not_lt_zero _)
  | 0, f + 1, n, μ, ν, hf, hn, h => by
    refine ⟨μ, ν, ?_, ?_, h, fun _ _ _ _ => rfl, fun _ _ _ _ => rfl⟩
    · rw [L_X9_putNumber_3.eq_2]
      simp (disch := omega) only [gq_lit, Bool.false_eq_true, gq_leT, gq_leF, gq_ltT, gq_ltF, gq_eqT, gq_eqF, if_true, if_false]
    · rw [L_X12_four_3.eq_2]
      simp (disch := omega) only [gq_lit, Bool.false_eq_true, gq_leT, gq_leF, gq_ltT, gq_ltF, gq_eqT, gq_eqF, if_true, if_false]
  | d + 1, f + 1, n, μ, ν, hf, hn, h => by
    obtain ⟨h1, h2, h3⟩ := h
    have e : (8 * ((d + 1 : Nat) : Int) - 8 + -8) = 8 * (d : Int) - 8 := by omega
    have hd : gq_fd (gx_uI (gx_uI μ 7 n (vp_nar .byte ((p >>> (gq_I (8 * ((d + 1 : Nat) : Int) - 8) &&& gq_I 31)) : Int32).toInt8.toInt32)) 1 6 (gq_I (n + 1))) (gx_uI (gx_uI ν 207 n (vp_nar .byte ((p >>> (gq_I (8 * ((d + 1 : Nat) : Int) - 8) &&& gq_I 31)) : Int32).toInt8.toInt32)) 208 0 (gq_I (n + 1))) (n + 1) := by
      refine ⟨?_, ?_, fun k hk => ?_⟩
      · simp (disch := omega) only [gq_uI1, gq_uI2, gq_uL1, gq_uL2, gq_ifT]
        rfl
      · simp (disch := omega) only [gq_uI1, gq_uI2, gq_uL1, gq_uL2, gq_ifT]
        rfl
      · simp (disch := omega) only [gq_uI1, gq_uI2, gq_uL1, gq_uL2, Nat.reduceEqDiff, false_and, if_false, true_and]
        by_cases hj : k = n
        · rw [if_pos hj, if_pos hj]
          exact ⟨rfl, gq_fitb _⟩
        · rw [if_neg hj, if_neg hj]
          exact h3 k hk
    obtain ⟨μ', ν', i1, i2, i3, i4, i5⟩ := gq_fdL (p := p) (k := k) (k' := k') d f (n + 1) _ _ (by omega) (by omega) hd
    refine ⟨μ', ν', ?_, ?_, ?_, fun a j ha hb => ?_, fun a j ha hb => ?_⟩
    · rw [L_X9_putNumber_3.eq_2, ← i1]
      simp (disch := omega) only [Int.reduceToNat, gq_lit, gq_neg, gq_add, gq_sub, gq_mul, gq_nat, Int.toNat_natCast, gq_tadd, gq_tmul, gq_lte, gq_br, gq_bd, gq_ck, Bool.false_eq_true, gq_leT, gq_leF, gq_ltT, gq_ltF, gq_eqT, gq_eqF, if_true, if_false, gq_uI1, gq_uI2, gq_uL1, gq_uL2, h1, Nat.reduceEqDiff, false_and]
      rw [e]
    · rw [L_X12_four_3.eq_2, ← i2]
      simp (disch := omega) only [Int.reduceToNat, gq_lit, gq_neg, gq_add, gq_sub, gq_mul, gq_nat, Int.toNat_natCast, gq_tadd, gq_tmul, gq_lte, gq_br, gq_bd, gq_ck, Bool.false_eq_true, gq_leT, gq_leF, gq_ltT, gq_ltF, gq_eqT, gq_eqF, if_true, if_false, gq_uI1, gq_uI2, gq_uL1, gq_uL2, h2, Nat.reduceEqDiff, false_and]
      rw [e]
    · rw [show n + (d + 1) = n + 1 + d by omega]; exact i3
    · rw [i4 a j ha hb]
      simp (disch := omega) only [gq_uI1, gq_uI2, gq_uL1, gq_uL2, gq_ifF]
    · rw [i5 a j ha hb]
      simp (disch := omega) only [gq_uI1, gq_uI2, gq_uL1, gq_uL2, gq_ifF]
theorem gq_four {p : Int32} {n : Nat} {μ ν : gx_M} (hn : n + 4 ≤ 600) (h : gq_fd μ ν n) : ∃ μ' ν', f_X9_putNumber p μ = some ((), μ') ∧ f_X12_four p ν = some ((), ν') ∧ gq_fd μ' ν' (n + 4) ∧ (∀ a j, ¬ (a = 1 ∧ j = 6) → ¬ a = 7 → μ'.1 a j = μ.1 a j) ∧ (∀ a j, ¬ (a = 208 ∧ j = 0) → ¬ (a = 207 ∧ j < 600) → ν'.1 a j = ν.1 a j) := by
  have := gq_fdL (p := p) (k := fun μ => some ((), μ)) (k' := fun μ => some ((), μ)) 4 4000 n μ ν (by omega) hn h
  exact this
theorem gq_feed {p1 p2 p3 p4 p5 : Int32} {n : Nat} {μ ν : gx_M} (hn : n ≤ 580) (h : gq_fd μ ν n) : ∃ μ' ν', f_X11_feed p1 p2 p3 p4 p5 μ = some (gq_I (n + 20 : Nat), μ') ∧ f_X12_feed p1 p2 p3 p4 p5 ν = some (gq_I (n + 20 : Nat), ν') ∧ gq_fd μ' ν' (n + 20) ∧ (∀ a j, ¬ (a = 1 ∧ j = 6) → ¬ a = 7 → μ'.1 a j = μ.1 a j) ∧ (∀ a j, ¬ a = 206 → ¬ (a = 208 ∧ j = 0) → ¬ (a = 207 ∧ j < 600) → ν'.1 a j = ν.1 a j) := by
  obtain ⟨c1, m1, ht⟩ := h
  have h0 : gq_fd μ (gx_uI ν 206 0 0) n := ⟨c1, m1, ht⟩
  obtain ⟨μ1, ν1, a1, b1, h1, x1, y1⟩ := gq_four (p := p1) (by omega) h0
  obtain ⟨μ2, ν2, a2, b2, h2, x2, y2⟩ := gq_four (p := p2) (by omega) h1
  obtain ⟨μ3, ν3, a3, b3, h3, x3, y3⟩ := gq_four (p := p3) (by omega) h2
  obtain ⟨μ4, ν4, a4, b4, h4, x4, y4⟩ := gq_four (p := p4) (by omega) h3
  obtain ⟨μ5, ν5, a5, b5, h5, x5, y5⟩ := gq_four (p := p5) (by omega) h4
  refine ⟨μ5, ν5, ?_, ?_, h5, fun a j ha hb => ?_, fun a j ha hb hd => ?_⟩
  · unfold f_X11_feed
    simp (disch := omega) only [c1, Int.reduceToNat, gq_lit, gq_neg, gq_add, gq_sub, gq_mul, gq_nat, Int.toNat_natCast, gq_tadd, gq_tmul, gq_lte, gq_br, gq_bd, gq_ck, Bool.false_eq_true, gq_leT, gq_leF, gq_ltT, gq_ltF, gq_eqT, gq_eqF, if_true, if_false, a1, a2, a3, a4, a5]
    rw [h5.1]
  · unfold f_X12_feed
    simp (disch := omega) only [m1, Int.reduceToNat, gq_lit, gq_neg, gq_add, gq_sub, gq_mul, gq_nat, Int.toNat_natCast, gq_tadd, gq_tmul, gq_lte, gq_br, gq_bd, gq_ck, Bool.false_eq_true, gq_leT, gq_leF, gq_ltT, gq_ltF, gq_eqT, gq_eqF, if_true, if_false, gq_uI1, gq_uI2, gq_uL1, gq_uL2, Nat.reduceEqDiff, false_and]
    rw [← gq_lit, b1]
    simp (disch := omega) only [Int.reduceToNat, gq_lit, gq_neg, gq_add, gq_sub, gq_mul, gq_nat, Int.toNat_natCast, gq_tadd, gq_tmul, gq_lte, gq_br, gq_bd, gq_ck, Bool.false_eq_true, gq_leT, gq_leF, gq_ltT, gq_ltF, gq_eqT, gq_eqF, if_true, if_false, b2, b3, b4, b5]
    rw [h5.2.1]
  · rw [x5 a j ha hb, x4 a j ha hb, x3 a j ha hb, x2 a j ha hb, x1 a j ha hb]
  · rw [y5 a j hb hd, y4 a j hb hd, y3 a j hb hd, y2 a j hb hd, y1 a j hb hd]
    simp (disch := omega) only [gq_uI1, gq_uI2, gq_uL1, gq_uL2, gq_ifF]
/-- the class's rows but the tape and its length -/
theorem gq_cT_tp {μ ν : gx_M} {tp tp' : Nat → Int32} {n n' : Nat} {f p : Int32} {N : Nat → Nat} {W Y G V : Nat → Nat → Int} (hN : ∀ q, q < 4 → N q ≤ 2) (h : gq_cT μ 1 tp n f p N W Y G V) (ht : ∀ k, k < 600 → ν.1 7 k = tp' k) (hn : ν.1 1 6 = gq_I n') (e : ∀ a j, a ≤ 39 → ¬ (a = 1 ∧ j = 6) → ¬ a = 7 → ν.1 a j = μ.1 a j) : gq_cT ν 1 tp' n' f p N W Y G V := by
  obtain ⟨a1, a2, a3, a4, a5, a6, a7⟩ := h
  have n0 := hN 0 (by omega)
  have n1 := hN 1 (by omega)
  have n2 := hN 2 (by omega)
  have n3 := hN 3 (by omega)
  refine ⟨ht, ⟨hn, ?_, ?_⟩, fun q hq => ?_, fun s hs => gq_cS_sm (a4 s hs) fun i hi => ?_, fun s hs => gq_cY_sm (a5 s hs) fun i hi => ?_, fun s hs => gq_cG_sm (a6 s hs) fun i hi => ?_, fun s hs => gq_cV_sm (a7 s hs) fun i hi => ?_⟩
  · rw [e 1 7 (by omega) (by omega) (by omega)]; exact a2.2.1
  · rw [e 1 8 (by omega) (by omega) (by omega)]; exact a2.2.2
  · rw [e _ _ (by omega) (by omega) (by omega)]; exact a3 q hq
  all_goals
    funext j
    exact e _ _ (by omega) (by omega) (by omega)
theorem gq_e_feed {μ : gx_M} (hI : gq_inv μ) (p1 p2 p3 p4 p5 : Int32) : gq_st (f_X11_feed p1 p2 p3 p4 p5) (f_X12_feed p1 p2 p3 p4 p5) μ := by
  have hT := hI.1
  obtain ⟨tp, n, f, q, N, W, Y, G, V, ok, hc, hm⟩ := hT
  have hn := ok.1
  rw [gq_ad_0] at hc
  have c1 : μ.1 1 6 = gq_I n := hc.2.1.1
  have m1 : μ.1 208 0 = gq_I n := hm.2.1.1
  have ht : ∀ k, k < 600 → μ.1 207 k = μ.1 7 k ∧ fits .byte (.int (μ.1 7 k)) = true := fun k hk => by
    have a1 : μ.1 7 k = tp k := hc.1 k hk
    have a2 := hm.1 k hk
    rw [show 600 * 0 + k = k by omega] at a2
    rw [a1, a2]
    exact ⟨rfl, ok.2.1 k hk⟩
  by_cases h : n ≤ 580
  · obtain ⟨μ', _, r1, _, _, e1, _⟩ := gq_feed (p1 := p1) (p2 := p2) (p3 := p3) (p4 := p4) (p5 := p5) h (⟨c1, m1, ht⟩ : gq_fd μ μ n)
    have g : gq_fd μ μ' n := ⟨c1, by rw [e1 _ _ (by omega) (by omega)]; exact m1, fun k hk => by rw [e1 _ _ (by omega) (by omega)]; exact ht k hk⟩
    obtain ⟨μ'', ν, r1', r2, hd, _, e2⟩ := gq_feed (p1 := p1) (p2 := p2) (p3 := p3) (p4 := p4) (p5 := p5) h g
    have he : μ'' = μ' := by
      rw [r1] at r1'
      exact (congrArg Prod.snd (Option.some.inj r1')).symm
    subst he
    refine ⟨_, μ'', ν, r1, r2, gq_inv_up hI ⟨μ''.1 7, n + 20, f, q, N, W, Y, G, V, ⟨by omega, fun k hk => (hd.2.2 k hk).2, ok.2.2⟩, ?_, ?_⟩ ?_ ?_ ?_⟩
    · rw [gq_ad_0]
      refine gq_cT_tp ok.2.2.1 hc (fun k hk => ?_) ?_ fun a j ha hb hd => ?_
      · rw [e2 _ _ (by omega) (by omega) (by omega)]
      · rw [e2 _ _ (by omega) (by omega) (by omega)]; exact hd.1
      · rw [e2 _ _ (by omega) (by omega) (by omega)]; exact e1 _ _ hb hd
    · obtain ⟨b1, b2, b3⟩ := hm
      have hm2 : gq_mT ν 0 (fun k => ν.1 207 k) (n + 20) f q N W Y G V := by
        obtain ⟨b3, b4, b5, b6, b7⟩ := b3
        refine ⟨fun k hk => by rw [show 600 * 0 + k = k by omega], ⟨hd.2.1, ?_, ?_⟩, fun q hq => ?_, fun s hs j hj => ?_, fun s hs j hj => ?_, fun s hs j hj => ?_, fun s hs j hj => ?_⟩
        · rw [e2 _ _ (by omega) (by omega) (by omega), e1 _ _ (by omega) (by omega)]; exact b2.2.1
        · rw [e2 _ _ (by omega) (by omega) (by omega), e1 _ _ (by omega) (by omega)]; exact b2.2.2
        · rw [e2 _ _ (by omega) (by omega) (by omega), e1 _ _ (by omega) (by omega)]; exact b3 q hq
        · rw [e2 _ _ (by omega) (by omega) (by omega), e1 _ _ (by omega) (by omega)]; exact b4 s hs j hj
        · rw [e2 _ _ (by omega) (by omega) (by omega), e1 _ _ (by omega) (by omega)]; exact b5 s hs j hj
        · rw [e2 _ _ (by omega) (by omega) (by omega), e1 _ _ (by omega) (by omega)]; exact b6 s hs j hj
        · rw [e2 _ _ (by omega) (by omega) (by omega), e1 _ _ (by omega) (by omega)]; exact b7 s hs j hj
      refine ⟨fun k hk => ?_, hm2.2⟩
      rw [show 600 * 0 + k = k by omega]
      exact (hd.2.2 k hk).1
    · refine gq_most_w hI.2.2 (fun a ha2 ha ha1 h7 j => ?_) fun j => ?_
      · rw [e2 _ _ (by omega) (by omega) (by omega), e1 _ _ (by omega) h7]
      · rw [e2 _ _ (by omega) (by omega) (by omega), e1 _ _ (by omega) (by omega)]
    · intro a ha
      funext j
      rw [e2 _ _ (by omega) (by omega) (by omega), e1 _ _ (by omega) (by omega)]
    · intro i h1 h2 a j ha
      unfold gq_im at ha
      rw [e2 _ _ (by omega) (by omega) (by omega), e1 _ _ (by omega) (by omega)]
  · refine gq_st_q hI (r := gq_I (-1)) (μ1 := μ) (μ2 := gx_uI μ 206 0 0) ?_ gq_sm_rf ?_ (gq_sm_uI gq_Pm206 gq_sm_rf)
    · unfold f_X11_feed
      simp (disch := omega) only [c1, Int.reduceToNat, gq_lit, gq_neg, gq_add, gq_sub, gq_mul, gq_nat, Int.toNat_natCast, gq_tadd, gq_tmul, gq_lte, gq_br, gq_bd, gq_ck, Bool.false_eq_true, gq_leT, gq_leF, gq_ltT, gq_ltF, gq_eqT, gq_eqF, if_true, if_false]
    · unfold f_X12_feed
      simp (disch := omega) only [m1, Int.reduceToNat, gq_lit, gq_neg, gq_add, gq_sub, gq_mul, gq_nat, Int.toNat_natCast, gq_tadd, gq_tmul, gq_lte, gq_br, gq_bd, gq_ck, Bool.false_eq_true, gq_leT, gq_leF, gq_ltT, gq_ltF, gq_eqT, gq_eqF, if_true, if_false, gq_uI1, gq_uI2, gq_uL1, gq_uL2, Nat.reduceEqDiff, false_and]
