/-! the tape; what all questions begin with -/
theorem gq_ex (p : Int32) : ∃ z : Int, (-2147483648 ≤ z ∧ z < 2147483648) ∧ p = gq_I z := ⟨p.toInt, gq_rng p, (gq_of p).symm⟩
theorem gq_in {a b c : Int} (h : ((-2147483648 ≤ a ∧ a < 2147483648) ∧ (-2147483648 ≤ b ∧ b < 2147483648)) ∧ -2147483648 ≤ c ∧ c < 2147483648) : (f_X12_in (gq_I a) (gq_I b) (gq_I c) = true) = (b ≤ a ∧ a ≤ c) := by
  apply propext
  unfold f_X12_in
  simp (disch := omega) only [gq_lt]
  by_cases h1 : a < b
  · rw [if_pos h1]
    exact ⟨fun h2 => absurd h2 (by decide), fun h2 => absurd h1 (by omega)⟩
  · rw [if_neg h1]
    by_cases h2 : c < a
    · rw [if_pos h2]
      exact ⟨fun h3 => absurd h3 (by decide), fun h3 => absurd h2 (by omega)⟩
    · rw [if_neg h2]
      exact ⟨fun _ => by omega, fun _ => rfl⟩
theorem gq_inT {a b c : Int} (h : (-2147483648 ≤ b ∧ c < 2147483648) ∧ b ≤ a ∧ a ≤ c) : (f_X12_in (gq_I a) (gq_I b) (gq_I c) = true) = True := by
  rw [gq_in (by omega)]; exact eq_true h.2
theorem gq_inF {a b c : Int} (h : (((-2147483648 ≤ a ∧ a < 2147483648) ∧ (-2147483648 ≤ b ∧ b < 2147483648)) ∧ -2147483648 ≤ c ∧ c < 2147483648) ∧ (a < b ∨ c < a)) : (f_X12_in (gq_I a) (gq_I b) (gq_I c) = true) = False := by
  rw [gq_in h.1]; exact eq_false (by omega)
theorem gq_am {a b c : Int} (h : ((-2147483648 ≤ a ∧ a < 2147483648) ∧ (-2147483648 ≤ b ∧ b < 2147483648)) ∧ -2147483648 ≤ b + c ∧ b + c < 2147483648) : (f_X11_isAmong (gq_I a) (gq_I b) (gq_I c) = true) = (b ≤ a ∧ a < b + c) := by
  apply propext
  unfold f_X11_isAmong
  simp (disch := omega) only [gq_lt, gq_le, gq_add]
  by_cases h1 : a < b
  · rw [if_pos h1]
    exact ⟨fun h2 => absurd h2 (by decide), fun h2 => absurd h1 (by omega)⟩
  · rw [if_neg h1]
    by_cases h2 : b + c ≤ a
    · rw [if_pos h2]
      exact ⟨fun h3 => absurd h3 (by decide), fun h3 => absurd h2 (by omega)⟩
    · rw [if_neg h2]
      exact ⟨fun _ => by omega, fun _ => rfl⟩
theorem gq_amT {a b c : Int} (h : (-2147483648 ≤ b ∧ b + c < 2147483648) ∧ b ≤ a ∧ a < b + c) : (f_X11_isAmong (gq_I a) (gq_I b) (gq_I c) = true) = True := by
  rw [gq_am (by omega)]; exact eq_true h.2
theorem gq_amF {a b c : Int} (h : (((-2147483648 ≤ a ∧ a < 2147483648) ∧ (-2147483648 ≤ b ∧ b < 2147483648)) ∧ -2147483648 ≤ b + c ∧ b + c < 2147483648) ∧ (a < b ∨ b + c ≤ a)) : (f_X11_isAmong (gq_I a) (gq_I b) (gq_I c) = true) = False := by
  rw [gq_am h.1]; exact eq_false (by omega)
theorem gq_Pm206 : ¬ gq_Pm 206 := by unfold gq_Pm; omega
/-- how many of a sort -/
theorem gq_is {μ : gx_M} {q N : Nat} {z : Int} (hz : -2147483648 ≤ z ∧ z < 2147483648) (hq : q < 4) (hN : N ≤ 2) (h : μ.1 211 q = gq_I N) : f_X12_is (gq_I q) (gq_I z) μ = some (decide (0 ≤ z ∧ z < N)) := by
  unfold f_X12_is
  simp (disch := omega) only [Int.reduceToNat, gq_lit, gq_neg, gq_add, gq_sub, gq_mul, gq_nat, Int.toNat_natCast, gq_tadd, gq_tmul, gq_lte, gq_br, gq_bd, gq_ck]
  rw [h]
  simp (disch := omega) only [Int.reduceToNat, gq_lit, gq_neg, gq_add, gq_sub, gq_mul, gq_nat, Int.toNat_natCast, gq_tadd, gq_tmul, gq_lte, gq_br, gq_bd, gq_ck]
  refine congrArg some ?_
  rw [Bool.eq_iff_iff, decide_eq_true_iff, gq_in (by omega)]
  omega
/-- told anew -/
def gq_im (i a j : Nat) : Prop := (a = 207 ∧ 600 * i ≤ j ∧ j < 600 * i + 600) ∨ (208 ≤ a ∧ a ≤ 210 ∧ j = i) ∨ (a = 211 ∧ 4 * i ≤ j ∧ j < 4 * i + 4) ∨ (a = 212 ∧ 222 * i ≤ j ∧ j < 222 * i + 222) ∨ (a = 213 ∧ 322 * i ≤ j ∧ j < 322 * i + 322) ∨ (a = 214 ∧ 34 * i ≤ j ∧ j < 34 * i + 34) ∨ (a = 215 ∧ 74 * i ≤ j ∧ j < 74 * i + 74)
theorem gq_mT_im {μ ν : gx_M} {i : Nat} {tp : Nat → Int32} {n : Nat} {f p : Int32} {N : Nat → Nat} {W Y G V : Nat → Nat → Int} (hN : ∀ q, q < 4 → N q ≤ 2) (h : gq_mT μ i tp n f p N W Y G V) (e : ∀ a j, gq_im i a j → ν.1 a j = μ.1 a j) : gq_mT ν i tp n f p N W Y G V := by
  have n0 := hN 0 (by omega)
  have n1 := hN 1 (by omega)
  have n2 := hN 2 (by omega)
  have n3 := hN 3 (by omega)
  obtain ⟨h1, h2, h3, h4, h5, h6, h7⟩ := h
  refine ⟨fun k hk => ?_, ?_, fun q hq => ?_, fun s hs j hj => ?_, fun s hs j hj => ?_, fun s hs j hj => ?_, fun s hs j hj => ?_⟩
  · rw [e _ _ (by unfold gq_im; omega)]; exact h1 k hk
  · rw [e _ _ (by unfold gq_im; omega), e _ _ (by unfold gq_im; omega), e _ _ (by unfold gq_im; omega)]; exact h2
  · rw [e _ _ (by unfold gq_im; omega)]; exact h3 q hq
  · rw [e _ _ (by unfold gq_im; omega)]; exact h4 s hs j hj
  · rw [e _ _ (by unfold gq_im; omega)]; exact h5 s hs j hj
  · rw [e _ _ (by unfold gq_im; omega)]; exact h6 s hs j hj
  · rw [e _ _ (by unfold gq_im; omega)]; exact h7 s hs j hj
theorem gq_told_im {μ ν : gx_M} {i : Nat} (h : gq_told μ i) (ec : ∀ a, gq_ad i ≤ a → a ≤ gq_ad i + 38 → ν.1 a = μ.1 a) (e : ∀ a j, gq_im i a j → ν.1 a j = μ.1 a j) : gq_told ν i := by
  obtain ⟨tp, n, f, p, N, W, Y, G, V, ok, hc, hm⟩ := h
  exact ⟨tp, n, f, p, N, W, Y, G, V, ok, gq_cT_sm ok.2.2.1 hc fun j hj => ec _ (by omega) (by omega), gq_mT_im ok.2.2.1 hm e⟩
theorem gq_inv_up {μ ν : gx_M} (h : gq_inv μ) (h0 : gq_told ν 0) (hm : gq_most ν) (ec : ∀ a, a = 41 ∨ (89 ≤ a ∧ a ≤ 205) ∨ a = 235 → ν.1 a = μ.1 a) (e : ∀ i, 1 ≤ i → i < 4 → ∀ a j, gq_im i a j → ν.1 a j = μ.1 a j) : gq_inv ν := by
  obtain ⟨h1, h2, h3⟩ := h
  refine ⟨h0, fun k hk => ?_, hm⟩
  rw [ec 235 (by omega), ec 41 (by omega)]
  refine ⟨(h2 k hk).1, (h2 k hk).2.imp (fun h => h) fun h => ⟨h.1, gq_told_im h.2 (fun a ha hb => ec a ?_) (e _ (by omega) (by omega))⟩⟩
  rw [gq_ad_s] at ha hb
  omega
theorem gq_most_w {μ ν : gx_M} (h : gq_most μ) (e : ∀ a, a < 206 → gq_Q a → ¬ a = 1 → ¬ a = 7 → ∀ j, ν.1 a j = μ.1 a j) (e2 : ∀ j, ν.1 217 j = μ.1 217 j) : gq_most ν := by
  obtain ⟨h1, h2, h3, h4⟩ := h
  have g : ∀ i, gq_ad 0 ≤ gq_ad i := fun i => by
    rcases Nat.eq_zero_or_pos i with h0 | h0
    · rw [h0]; omega
    · have := gq_ad_ge h0; omega
  have g0 := gq_ad_0
  refine ⟨fun i hi s hs => ?_, gq_ln_w h2 fun j => e 53 (by omega) (by unfold gq_Q; omega) (by omega) (by omega) j, gq_ln_w h3 fun j => e 56 (by omega) (by unfold gq_Q; omega) (by omega) (by omega) j, gq_rd_w h4 e2⟩
  have gi := g i
  have k1 : gq_Q (gq_ad i + 15 + 16 * s) ∧ gq_ad i + 15 + 16 * s < 206 := by rcases gq_ad_in (a := gq_ad i + 15 + 16 * s) hi ⟨by omega, by omega⟩ with h | h <;> unfold gq_Q <;> omega
  have k2 : gq_Q (gq_ad i + 18 + 16 * s) ∧ gq_ad i + 18 + 16 * s < 206 := by rcases gq_ad_in (a := gq_ad i + 18 + 16 * s) hi ⟨by omega, by omega⟩ with h | h <;> unfold gq_Q <;> omega
  exact ⟨gq_ln_w (h1 i hi s hs).1 fun j => e _ k1.2 k1.1 (by omega) (by omega) j, gq_ln_w (h1 i hi s hs).2 fun j => e _ k2.2 k2.1 (by omega) (by omega) j⟩
theorem gq_e_end {μ : gx_M} (hI : gq_inv μ) (p : Int32) : gq_st (f_X11_end p) (f_X12_end p) μ := by
  obtain ⟨z, hz, rfl⟩ := gq_ex p
  have hT := hI.1
  obtain ⟨tp, n, f, q, N, W, Y, G, V, ok, hc, hm⟩ := hT
  have hn := ok.1
  rw [gq_ad_0] at hc
  have c1 : μ.1 1 6 = gq_I n := hc.2.1.1
  have m1 : μ.1 208 0 = gq_I n := hm.2.1.1
  by_cases h : 0 ≤ z ∧ z ≤ n
  · refine ⟨gq_I z, gx_uI μ 1 6 (gq_I z), gx_uI (gx_uI (gx_uI μ 1 6 (gq_I z)) 206 0 0) 208 0 (gq_I z), ?_, ?_, ?_⟩
    · unfold f_X11_end
      simp (disch := omega) only [c1, Int.reduceToNat, gq_lit, gq_neg, gq_add, gq_sub, gq_mul, gq_nat, Int.toNat_natCast, gq_tadd, gq_tmul, gq_lte, gq_br, gq_bd, gq_ck, Bool.false_eq_true, gq_leT, gq_leF, gq_ltT, gq_ltF, gq_eqT, gq_eqF, if_true, if_false]
    · unfold f_X12_end
      simp (disch := omega) only [gq_lte, gq_uI1, gq_uI2, gq_uL1, gq_uL2, m1, gq_lit, gq_inT, if_true, if_false, Nat.reduceEqDiff, false_and, and_false, and_true, true_and]
    · refine gq_inv_up hI ⟨tp, z.toNat, f, q, N, W, Y, G, V, ⟨by omega, ok.2⟩, ?_, ?_⟩ ?_ ?_ ?_
      · rw [gq_ad_0]
        have hc2 := gq_cT_sm (ν := gx_uI (gx_uI μ 206 0 0) 208 0 (gq_I z)) ok.2.2.1 hc fun i hi => by
          funext j
          simp (disch := omega) only [gq_uI1, gq_uI2, gq_uL1, gq_uL2, gq_ifF]
        obtain ⟨a1, a2, a3⟩ := hc
        refine ⟨a1, ⟨?_, a2.2.1, a2.2.2⟩, a3.1, ?_⟩
        · show gq_I z = _
          rw [Int.toNat_of_nonneg h.1]
        · refine ⟨fun s hs => gq_cS_sm (a3.2.1 s hs) fun i hi => ?_, fun s hs => gq_cY_sm (a3.2.2.1 s hs) fun i hi => ?_, fun s hs => gq_cG_sm (a3.2.2.2.1 s hs) fun i hi => ?_, fun s hs => gq_cV_sm (a3.2.2.2.2 s hs) fun i hi => ?_⟩ <;>
          · have n0 := ok.2.2.1 0 (by omega)
            have n1 := ok.2.2.1 1 (by omega)
            have n2 := ok.2.2.1 2 (by omega)
            have n3 := ok.2.2.1 3 (by omega)
            funext j
            simp (disch := omega) only [gq_uI1, gq_uI2, gq_uL1, gq_uL2, gq_ifF]
      · obtain ⟨b1, b2, b3⟩ := hm
        refine ⟨b1, ⟨?_, b2.2.1, b2.2.2⟩, b3⟩
        show gq_I z = _
        rw [Int.toNat_of_nonneg h.1]
      · refine gq_most_w hI.2.2 (fun a ha2 ha ha1 ha7 j => ?_) fun j => ?_
        · simp (disch := omega) only [gq_uI1, gq_uI2, gq_uL1, gq_uL2, gq_ifF]
        · simp (disch := omega) only [gq_uI1, gq_uI2, gq_uL1, gq_uL2, gq_ifF]
      · intro a ha
        funext j
        simp (disch := omega) only [gq_uI1, gq_uI2, gq_uL1, gq_uL2, gq_ifF]
      · intro i h1 h2 a j ha
        unfold gq_im at ha
        simp (disch := omega) only [gq_uI1, gq_uI2, gq_uL1, gq_uL2, gq_ifF]
  · refine gq_st_q hI (r := gq_I (-1)) (μ1 := μ) (μ2 := gx_uI μ 206 0 0) ?_ gq_sm_rf ?_ (gq_sm_uI gq_Pm206 gq_sm_rf)
    · unfold f_X11_end
      by_cases h2 : z < 0
      · simp (disch := omega) only [c1, Int.reduceToNat, gq_lit, gq_neg, gq_add, gq_sub, gq_mul, gq_nat, Int.toNat_natCast, gq_tadd, gq_tmul, gq_lte, gq_br, gq_bd, gq_ck, Bool.false_eq_true, gq_leT, gq_leF, gq_ltT, gq_ltF, gq_eqT, gq_eqF, if_true, if_false]
      · simp (disch := omega) only [c1, Int.reduceToNat, gq_lit, gq_neg, gq_add, gq_sub, gq_mul, gq_nat, Int.toNat_natCast, gq_tadd, gq_tmul, gq_lte, gq_br, gq_bd, gq_ck, Bool.false_eq_true, gq_leT, gq_leF, gq_ltT, gq_ltF, gq_eqT, gq_eqF, if_true, if_false]
    · unfold f_X12_end
      simp (disch := omega) only [gq_lte, gq_uI1, gq_uI2, gq_uL1, gq_uL2, m1, gq_lit, gq_neg, gq_inF, if_true, if_false, Nat.reduceEqDiff, false_and, and_false, and_true, true_and]
theorem gq_e_fault {μ : gx_M} (hI : gq_inv μ) (p : Int32) : ∃ μ2, f_X12_fault p μ = some (f_X11_fault p μ, μ2) ∧ gq_inv μ2 := by
  have hT := hI.1
  obtain ⟨tp, n, f, q, N, W, Y, G, V, ok, hc, hm⟩ := hT
  rw [gq_ad_0] at hc
  have c1 : μ.1 1 7 = f := hc.2.1.2.1
  have c2 : μ.1 1 8 = q := hc.2.1.2.2
  have m1 : μ.1 209 0 = f := hm.2.1.2.1
  have m2 : μ.1 210 0 = q := hm.2.1.2.2
  refine ⟨gx_uI μ 206 0 0, ?_, gq_inv_m hI (gq_sm_uI gq_Pm206 gq_sm_rf)⟩
  unfold f_X12_fault f_X11_fault
  simp only [gq_lte, gq_uI1, gq_uI2, gq_uL1, gq_uL2, Nat.reduceEqDiff, false_and, if_false, c1, c2, m1, m2]
  split
  · rfl
  · split <;> rfl
theorem gq_e_count {μ : gx_M} (hI : gq_inv μ) (p : Int32) : ∃ r μ2, f_X11_count p μ = some r ∧ f_X12_count p μ = some (r, μ2) ∧ gq_inv μ2 := by
  obtain ⟨z, hz, rfl⟩ := gq_ex p
  have hT := hI.1
  obtain ⟨tp, n, f, q, N, W, Y, G, V, ok, hc, hm⟩ := hT
  rw [gq_ad_0] at hc
  by_cases h : 0 ≤ z ∧ z < 4
  · have c1 := hc.2.2.1 z.toNat (by omega)
    have m1 := hm.2.2.1 z.toNat (by omega)
    have m2 := m1
    rw [show 4 * 0 + z.toNat = z.toNat by omega] at m2
    refine ⟨gq_I (N z.toNat), gx_uI μ 206 0 0, ?_, ?_, gq_inv_m hI (gq_sm_uI gq_Pm206 gq_sm_rf)⟩
    · unfold f_X11_count
      simp (disch := omega) only [Int.reduceToNat, gq_lit, gq_neg, gq_add, gq_sub, gq_mul, gq_nat, Int.toNat_natCast, gq_tadd, gq_tmul, gq_lte, gq_br, gq_bd, gq_ck, Bool.false_eq_true, gq_leT, gq_leF, gq_ltT, gq_ltF, gq_eqT, gq_eqF, if_true, if_false, c1]
    · unfold f_X12_count
      simp (disch := omega) only [Int.reduceToNat, gq_lit, gq_neg, gq_add, gq_sub, gq_mul, gq_nat, Int.toNat_natCast, gq_tadd, gq_tmul, gq_lte, gq_br, gq_bd, gq_ck, Bool.false_eq_true, gq_leT, gq_leF, gq_ltT, gq_ltF, gq_eqT, gq_eqF, if_true, if_false, gq_uI1, gq_uI2, gq_uL1, gq_uL2, m2, gq_inT, Nat.reduceEqDiff, false_and]
  · refine ⟨gq_I (-2), gx_uI μ 206 0 0, ?_, ?_, gq_inv_m hI (gq_sm_uI gq_Pm206 gq_sm_rf)⟩
    · unfold f_X11_count
      by_cases h2 : z < 0 <;> simp (disch := omega) only [Int.reduceToNat, gq_lit, gq_neg, gq_add, gq_sub, gq_mul, gq_nat, Int.toNat_natCast, gq_tadd, gq_tmul, gq_lte, gq_br, gq_bd, gq_ck, Bool.false_eq_true, gq_leT, gq_leF, gq_ltT, gq_ltF, gq_eqT, gq_eqF, if_true, if_false]
    · unfold f_X12_count
      simp (disch := omega) only [Int.reduceToNat, gq_lit, gq_neg, gq_add, gq_sub, gq_mul, gq_nat, Int.toNat_natCast, gq_tadd, gq_tmul, gq_lte, gq_br, gq_bd, gq_ck, Bool.false_eq_true, gq_leT, gq_leF, gq_ltT, gq_ltF, gq_eqT, gq_eqF, if_true, if_false, gq_uI1, gq_uI2, gq_uL1, gq_uL2, gq_inF]
