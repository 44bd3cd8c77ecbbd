/-! a street is laid before the check -/
theorem gq_xof {μ : gx_M} {s : Nat} {w : Nat → Int} (h : μ.1 206 24 = gq_I s) (hs : s < 8) (hw : gq_mS μ s w) {z : Int} (hz : 0 ≤ z ∧ z < 111) : f_X12_of (gq_I z) μ = some (gq_I (w z.toNat)) := by
  have e := hw z.toNat (by omega)
  unfold f_X12_of
  rw [h]
  simp (disch := omega) only [Int.reduceToNat, gq_lit, gq_neg, gq_add, gq_sub, gq_mul, gq_nat, Int.toNat_natCast, gq_tadd, gq_tmul, gq_lte, gq_br, gq_bd, gq_ck]
  rw [← e]
theorem gq_mS_w {μ ν : gx_M} {s : Nat} {w : Nat → Int} (h : gq_mS μ s w) (e : ν.1 212 = μ.1 212) : gq_mS ν s w := by
  unfold gq_mS at h ⊢
  rw [e]
  exact h
theorem gq_hand45 {k : gx_M → Option (Bool × gx_M)} {w : Nat → Int} {s : Nat} (hs : s < 8) : ∀ (d f i : Nat) (μ : gx_M), d < f → i + d = 4 → μ.1 206 24 = gq_I s → gq_mS μ s w → L_X12_hand_45 k f (gq_I i) μ = k (gq_set μ 218 i 4 (fun j => gq_I (w (3 + j))))
  | _, 0, _, _, hf, _, _, _ => absurd hf (Nat.not_lt_zero _)
  | 0, f + 1, i, μ, hf, hi, h1, hw => by
    rw [L_X12_hand_45.eq_2, gq_set_nil (by omega)]
    simp (disch := omega) only [Int.reduceToNat, gq_lit, gq_neg, gq_add, gq_sub, gq_mul, gq_nat, Int.toNat_natCast, gq_tadd, gq_tmul, gq_lte, gq_br, gq_bd, gq_ck, gq_leT, gq_leF, gq_ltT, gq_ltF, gq_eqT, gq_eqF, if_true, if_false]
  | d + 1, f + 1, i, μ, hf, hi, h1, hw => by
    have ih := gq_hand45 (k := k) (w := w) hs d f (i + 1) (gx_uI μ 218 i (gq_I (w (3 + i)))) (by omega) (by omega) (by simp only [gq_uI1, gq_uI2, gq_uL1, gq_uL2, Nat.reduceEqDiff, false_and, and_false, and_true, true_and, if_false]; exact h1) (gq_mS_w hw (by funext j; simp only [gq_uI1, gq_uI2, gq_uL1, gq_uL2, Nat.reduceEqDiff, false_and, and_false, and_true, true_and, if_false]))
    rw [L_X12_hand_45.eq_2]
    simp (disch := omega) only [Int.reduceToNat, gq_lit, gq_neg, gq_add, gq_sub, gq_mul, gq_nat, Int.toNat_natCast, gq_tadd, gq_tmul, gq_lte, gq_br, gq_bd, gq_ck, gq_leT, gq_leF, gq_ltT, gq_ltF, gq_eqT, gq_eqF, if_true, if_false, gq_xof h1 hs hw]
    have sd := gq_set_dn (μ := μ) (a := 218) (i := i) (hi := 4) (g := fun j => gq_I (w (3 + j))) (x := gq_I (w (3 + i))) (by omega) rfl
    rw [sd] at ih
    exact ih
theorem gq_hand71 {k : gx_M → Option (Bool × gx_M)} {w : Nat → Int} {s : Nat} (hs : s < 8) : ∀ (d f i : Nat) (μ : gx_M), d < f → i + d = 40 → μ.1 206 24 = gq_I s → gq_mS μ s w → ∃ μ', L_X12_hand_71 k f (gq_I i) μ = k μ' ∧ (∀ j, i ≤ j → j < 40 → μ'.1 219 j = gq_I (w (31 + j)) ∧ μ'.1 220 j = gq_I (w (71 + j)) ∧ μ'.1 221 j = gq_I 0) ∧ (∀ a j, ¬ (i ≤ j ∧ 219 ≤ a ∧ a ≤ 221) → μ'.1 a j = μ.1 a j) ∧ μ'.2 = μ.2
  | _, 0, _, _, hf, _, _, _ => absurd hf (Nat.not_lt_zero _)
  | 0, f + 1, i, μ, hf, hi, h1, hw => by
    refine ⟨μ, ?_, fun j h2 h3 => absurd h3 (by omega), fun _ _ _ => rfl, rfl⟩
    rw [L_X12_hand_71.eq_2]
    simp (disch := omega) only [Int.reduceToNat, gq_lit, gq_neg, gq_add, gq_sub, gq_mul, gq_nat, Int.toNat_natCast, gq_tadd, gq_tmul, gq_lte, gq_br, gq_bd, gq_ck, gq_leT, gq_leF, gq_ltT, gq_ltF, gq_eqT, gq_eqF, if_true, if_false]
  | d + 1, f + 1, i, μ, hf, hi, h1, hw => by
    have g1 : (gx_uI μ 219 i (gq_I (w (31 + i)))).1 206 24 = gq_I s := by simp only [gq_uI1, gq_uI2, gq_uL1, gq_uL2, Nat.reduceEqDiff, false_and, and_false, and_true, true_and, if_false]; exact h1
    have g2 : gq_mS (gx_uI μ 219 i (gq_I (w (31 + i)))) s w := gq_mS_w hw (by funext j; simp only [gq_uI1, gq_uI2, gq_uL1, gq_uL2, Nat.reduceEqDiff, false_and, and_false, and_true, true_and, if_false])
    obtain ⟨μ', e1, e2, e3, e4⟩ := gq_hand71 (k := k) (w := w) hs d f (i + 1) (gx_uI (gx_uI (gx_uI μ 219 i (gq_I (w (31 + i)))) 220 i (gq_I (w (71 + i)))) 221 i (gq_I 0)) (by omega) (by omega) (by simp only [gq_uI1, gq_uI2, gq_uL1, gq_uL2, Nat.reduceEqDiff, false_and, and_false, and_true, true_and, if_false]; exact h1) (gq_mS_w hw (by funext j; simp only [gq_uI1, gq_uI2, gq_uL1, gq_uL2, Nat.reduceEqDiff, false_and, and_false, and_true, true_and, if_false]))
    refine ⟨μ', ?_, fun j h2 h3 => ?_, fun a j ha => ?_, e4⟩
    · rw [L_X12_hand_71.eq_2]
      simp (disch := omega) only [Int.reduceToNat, gq_lit, gq_neg, gq_add, gq_sub, gq_mul, gq_nat, Int.toNat_natCast, gq_tadd, gq_tmul, gq_lte, gq_br, gq_bd, gq_ck, gq_leT, gq_leF, gq_ltT, gq_ltF, gq_eqT, gq_eqF, if_true, if_false, gq_xof h1 hs hw, gq_xof g1 hs g2, gq_biF]
      exact e1
    · by_cases hj : j = i
      · subst hj
        rw [e3 219 j (by omega), e3 220 j (by omega), e3 221 j (by omega)]
        simp only [gq_uI1, gq_uI2, gq_uL1, gq_uL2, Nat.reduceEqDiff, false_and, and_false, and_true, true_and, if_false, if_true, and_self]
      · exact e2 j (by omega) h3
    · rw [e3 a j (by omega)]
      simp (disch := omega) only [gq_uI1, gq_uI2, gq_uL1, gq_uL2, gq_ifF]
theorem gq_hand120 {k : gx_M → Option (Bool × gx_M)} : ∀ (d f i : Nat) (μ : gx_M), d < f → i + d = 6 → ∃ μ', L_X12_hand_120 k f (gq_I i) μ = k μ' ∧ (∀ j, i ≤ j → j < 6 → μ'.1 222 j = gq_I (-1) ∧ μ'.1 225 j = gq_I (-1)) ∧ (∀ a j, ¬ (i ≤ j ∧ (a = 222 ∨ a = 225)) → μ'.1 a j = μ.1 a j) ∧ μ'.2 = μ.2
  | _, 0, _, _, hf, _ => absurd hf (Nat.not_lt_zero _)
  | 0, f + 1, i, μ, hf, hi => by
    refine ⟨μ, ?_, fun j h2 h3 => absurd h3 (by omega), fun _ _ _ => rfl, rfl⟩
    rw [L_X12_hand_120.eq_2]
    simp (disch := omega) only [Int.reduceToNat, gq_lit, gq_neg, gq_add, gq_sub, gq_mul, gq_nat, Int.toNat_natCast, gq_tadd, gq_tmul, gq_lte, gq_br, gq_bd, gq_ck, gq_leT, gq_leF, gq_ltT, gq_ltF, gq_eqT, gq_eqF, if_true, if_false]
  | d + 1, f + 1, i, μ, hf, hi => by
    obtain ⟨μ', e1, e2, e3, e4⟩ := gq_hand120 (k := k) d f (i + 1) (gx_uI (gx_uI μ 222 i (gq_I (-1))) 225 i (gq_I (-1))) (by omega) (by omega)
    refine ⟨μ', ?_, fun j h2 h3 => ?_, fun a j ha => ?_, e4⟩
    · rw [L_X12_hand_120.eq_2]
      simp (disch := omega) only [Int.reduceToNat, gq_lit, gq_neg, gq_add, gq_sub, gq_mul, gq_nat, Int.toNat_natCast, gq_tadd, gq_tmul, gq_lte, gq_br, gq_bd, gq_ck, gq_leT, gq_leF, gq_ltT, gq_ltF, gq_eqT, gq_eqF, if_true, if_false]
      exact e1
    · by_cases hj : j = i
      · subst hj
        rw [e3 222 j (by omega), e3 225 j (by omega)]
        simp only [gq_uI1, gq_uI2, gq_uL1, gq_uL2, Nat.reduceEqDiff, false_and, and_false, and_true, true_and, if_false, if_true, and_self]
      · exact e2 j (by omega) h3
    · rw [e3 a j (by omega)]
      simp (disch := omega) only [gq_uI1, gq_uI2, gq_uL1, gq_uL2, gq_ifF]
/-- the street s of the check is laid, with w -/
def gq_hd (μ : gx_M) (s : Nat) (w : Nat → Int) : Prop := (μ.1 206 24 = gq_I s ∧ μ.1 206 25 = gq_I (w 0) ∧ μ.1 206 26 = gq_I (w 1) ∧ μ.1 206 27 = gq_I (w 2) ∧ μ.1 206 38 = gq_I (-1)) ∧ (∀ p, p < 4 → μ.1 218 p = gq_I (w (3 + p))) ∧ (∀ m, m < 40 → μ.1 219 m = gq_I (w (31 + m))) ∧ (∀ m, m < 40 → μ.1 220 m = gq_I (w (71 + m))) ∧ (∀ m, m < 40 → μ.1 221 m = gq_I 0) ∧ (∀ b, b < 6 → μ.1 222 b = gq_I (-1) ∧ μ.1 225 b = gq_I (-1)) ∧ gq_mS μ s w
theorem gq_hand {μ : gx_M} {z : Int} {N : Nat} {w : Nat → Int} (hN : N ≤ 2) (h1 : μ.1 211 0 = gq_I N) (hz : 0 ≤ z ∧ z < N) (hw : gq_mS μ z.toNat w) : ∃ μ', f_X12_hand (gq_I z) μ = some (true, μ') ∧ gq_hd μ' z.toNat w ∧ gq_sm gq_Pm μ μ' ∧ μ'.1 206 33 = μ.1 206 33 := by
  have z0 : (z.toNat : Int) = z := by omega
  have his := gq_is (μ := μ) (q := 0) (z := z) (by omega) (by omega) hN h1
  rw [decide_eq_true hz] at his
  rw [show gq_I ((0 : Nat) : Int) = gq_I 0 from rfl] at his
  have g1 : (gx_uI μ 206 24 (gq_I z)).1 206 24 = gq_I z.toNat := by rw [z0]; rfl
  have w1 : gq_mS (gx_uI μ 206 24 (gq_I z)) z.toNat w := gq_mS_w hw (by funext j; simp only [gq_uI1, gq_uI2, gq_uL1, gq_uL2, Nat.reduceEqDiff, false_and, and_false, and_true, true_and, if_false])
  have a1 := gq_xof g1 (by omega) w1 (z := 0) (by omega)
  have g2 : (gx_uI (gx_uI μ 206 24 (gq_I z)) 206 25 (gq_I (w 0))).1 206 24 = gq_I z.toNat := by rw [z0]; rfl
  have w2 : gq_mS (gx_uI (gx_uI μ 206 24 (gq_I z)) 206 25 (gq_I (w 0))) z.toNat w := gq_mS_w hw (by funext j; simp only [gq_uI1, gq_uI2, gq_uL1, gq_uL2, Nat.reduceEqDiff, false_and, and_false, and_true, true_and, if_false])
  have a2 := gq_xof g2 (by omega) w2 (z := 1) (by omega)
  have g3 : (gx_uI (gx_uI (gx_uI μ 206 24 (gq_I z)) 206 25 (gq_I (w 0))) 206 26 (gq_I (w 1))).1 206 24 = gq_I z.toNat := by rw [z0]; rfl
  have w3 : gq_mS (gx_uI (gx_uI (gx_uI μ 206 24 (gq_I z)) 206 25 (gq_I (w 0))) 206 26 (gq_I (w 1))) z.toNat w := gq_mS_w hw (by funext j; simp only [gq_uI1, gq_uI2, gq_uL1, gq_uL2, Nat.reduceEqDiff, false_and, and_false, and_true, true_and, if_false])
  have a3 := gq_xof g3 (by omega) w3 (z := 2) (by omega)
  obtain ⟨μ4, e4⟩ : ∃ μ4, μ4 = gx_uI (gx_uI (gx_uI (gx_uI μ 206 24 (gq_I z)) 206 25 (gq_I (w 0))) 206 26 (gq_I (w 1))) 206 27 (gq_I (w 2)) := ⟨_, rfl⟩
  have g4 : μ4.1 206 24 = gq_I z.toNat := by rw [e4, z0]; rfl
  have w4 : gq_mS μ4 z.toNat w := gq_mS_w hw (by rw [e4]; funext j; simp only [gq_uI1, gq_uI2, gq_uL1, gq_uL2, Nat.reduceEqDiff, false_and, and_false, and_true, true_and, if_false])
  obtain ⟨μ5, e5⟩ : ∃ μ5, μ5 = gq_set μ4 218 0 4 (fun j => gq_I (w (3 + j))) := ⟨_, rfl⟩
  have x5 : ∀ a j, ¬ a = 218 → μ5.1 a j = μ4.1 a j := fun a j ha => by
    rw [e5]
    simp (disch := omega) only [gq_set1, gq_ifF]
  have l1 := gq_hand45 (k := fun μ18 => L_X12_hand_71 (fun μ30 => L_X12_hand_120 (fun μ39 => some (true, gx_uI μ39 206 38 (gq_I (-1)))) 4000 (gq_I 0) μ30) 4000 (gq_I 0) μ18) (w := w) (s := z.toNat) (by omega) 4 4000 0 μ4 (by omega) (by omega) g4 w4
  rw [← e5] at l1
  obtain ⟨μ6, l2, y6, x6, s6⟩ := gq_hand71 (k := fun μ30 => L_X12_hand_120 (fun μ39 => some (true, gx_uI μ39 206 38 (gq_I (-1)))) 4000 (gq_I 0) μ30) (w := w) (s := z.toNat) (by omega) 40 4000 0 μ5 (by omega) (by omega) (by rw [x5 _ _ (by omega)]; exact g4) (gq_mS_w w4 (by funext j; rw [x5 _ _ (by omega)]))
  obtain ⟨μ7, l3, y7, x7, s7⟩ := gq_hand120 (k := fun μ39 => some (true, gx_uI μ39 206 38 (gq_I (-1)))) 6 4000 0 μ6 (by omega) (by omega)
  have x8 : ∀ a j, ¬ (a = 206 ∧ j = 38) → ¬ a = 222 → ¬ a = 225 → ¬ (219 ≤ a ∧ a ≤ 221) → (gx_uI μ7 206 38 (gq_I (-1))).1 a j = μ5.1 a j := fun a j h1 h2 h3 h4 => by
    rw [gq_uI1, if_neg h1, x7 a j (by omega), x6 a j (by omega)]
  have x9 : ∀ a j, ¬ (a = 206 ∧ (24 ≤ j ∧ j ≤ 27)) → μ4.1 a j = μ.1 a j := fun a j h => by
    rw [e4]
    simp (disch := omega) only [gq_uI1, gq_uI2, gq_uL1, gq_uL2, gq_ifF]
  refine ⟨gx_uI μ7 206 38 (gq_I (-1)), ?_, ?_, ?_, ?_⟩
  · unfold f_X12_hand
    simp only [gq_lit, gq_lte, gq_br, his, a1, a2, a3, if_true, Int.reduceToNat, gq_neg]
    rw [← e4]
    rw [show gq_I ((0 : Nat) : Int) = gq_I 0 from rfl] at l1 l2 l3
    rw [l1, l2, l3]
  · refine ⟨⟨?_, ?_, ?_, ?_, ?_⟩, fun p hp => ?_, fun m hm => ?_, fun m hm => ?_, fun m hm => ?_, fun b hb => ⟨?_, ?_⟩, ?_⟩
    · rw [x8 _ _ (by omega) (by omega) (by omega) (by omega), x5 _ _ (by omega)]; exact g4
    · rw [x8 _ _ (by omega) (by omega) (by omega) (by omega), x5 _ _ (by omega), e4]; rfl
    · rw [x8 _ _ (by omega) (by omega) (by omega) (by omega), x5 _ _ (by omega), e4]; rfl
    · rw [x8 _ _ (by omega) (by omega) (by omega) (by omega), x5 _ _ (by omega), e4]; rfl
    · rfl
    · rw [x8 _ _ (by omega) (by omega) (by omega) (by omega), e5, gq_set1, if_pos (by omega)]
    · rw [gq_uI1, if_neg (by omega), x7 _ _ (by omega)]; exact (y6 m (by omega) hm).1
    · rw [gq_uI1, if_neg (by omega), x7 _ _ (by omega)]; exact (y6 m (by omega) hm).2.1
    · rw [gq_uI1, if_neg (by omega), x7 _ _ (by omega)]; exact (y6 m (by omega) hm).2.2
    · rw [gq_uI1, if_neg (by omega)]; exact (y7 b (by omega) hb).1
    · rw [gq_uI1, if_neg (by omega)]; exact (y7 b (by omega) hb).2
    · refine gq_mS_w w4 ?_
      funext j
      rw [x8 _ _ (by omega) (by omega) (by omega) (by omega), x5 _ _ (by omega)]
  · intro a ha
    unfold gq_Pm at ha
    refine ⟨?_, ?_⟩
    · funext j
      rw [x8 _ _ (by omega) (by omega) (by omega) (by omega), x5 _ _ (by omega), x9 _ _ (by omega)]
    · show μ7.2 a = _
      rw [s7, s6, e5, gq_set2, e4]
      rfl
  · rw [x8 _ _ (by omega) (by omega) (by omega) (by omega), x5 _ _ (by omega), x9 _ _ (by omega)]
theorem gq_hand_no {μ : gx_M} {z : Int} {N : Nat} (hN : N ≤ 2) (h1 : μ.1 211 0 = gq_I N) (hz : -2147483648 ≤ z ∧ z < 2147483648) (hn : ¬ (0 ≤ z ∧ z < N)) : f_X12_hand (gq_I z) μ = some (false, μ) := by
  have his := gq_is (μ := μ) (q := 0) (z := z) hz (by omega) hN h1
  rw [decide_eq_false hn] at his
  unfold f_X12_hand
  rw [show (0 : Int32) = gq_I ((0 : Nat) : Int) from rfl, his]
  rfl
