/-! a text as a whole -/
theorem gp_LLs {of : Nat} (ho : of < 4) : ∀ r, gt_fk of ≤ r → r < gt_fk (of + 1) → gp_LL of r := by
  intro r h1 h2
  rcases (show of = 0 ∨ of = 1 ∨ of = 2 ∨ of = 3 by omega) with rfl | rfl | rfl | rfl
  · have h3 : r < 6 := h2
    rcases (show r = 0 ∨ r = 1 ∨ r = 2 ∨ r = 3 ∨ r = 4 ∨ r = 5 by omega) with rfl | rfl | rfl | rfl | rfl | rfl
    · exact gp_LL_s0
    · exact gp_LL_s1
    · exact gp_LL_s2
    · exact gp_LL_s3
    · exact gp_LL_s4
    · exact gp_LL_s5
  · have h3 : r < 13 := h2
    have h4 : 6 ≤ r := h1
    rcases (show (r = 6 ∨ r = 7 ∨ r = 8 ∨ r = 9) ∨ r = 10 ∨ r = 11 ∨ r = 12 by omega) with h | h | h
    · exact gp_LL_y2 h
    · exact gp_LL_y3 h
    · exact gp_LL_y1 h
  · have h3 : r < 15 := h2
    have h4 : 13 ≤ r := h1
    exact gp_LL_log (by omega)
  · have h3 : r < 17 := h2
    have h4 : 15 ≤ r := h1
    rcases (show r = 15 ∨ r = 16 by omega) with rfl | rfl
    · exact gp_LL_w15
    · exact gp_LL_w16
theorem gp_jfI {a n : Nat} {v : Int32} (hn : n ≤ 1000) {k : gx_M → Option (Unit × gx_M)} : ∀ (d f i : Nat) (μ : gx_M), d < f → i + d = n → ∃ μ', L_J7_fill_53178_5 (gq_I n) n a v k f (gq_I i) μ = k μ' ∧ (∀ j, i ≤ j → j < n → μ'.1 a j = v) ∧ (∀ b j, ¬ (b = a ∧ i ≤ j ∧ j < n) → μ'.1 b j = μ.1 b j) ∧ μ'.2 = μ.2
  | _, 0, _, _, hf, _ => absurd hf (Nat.not_lt_zero _)
  | 0, f + 1, i, μ, hf, hi => by
    refine ⟨μ, ?_, fun j h2 h3 => absurd h3 (by omega), fun _ _ _ => rfl, rfl⟩
    rw [L_J7_fill_53178_5.eq_2]
    simp (disch := omega) only [Bool.false_eq_true, gq_leT, gq_leF, gq_ltT, gq_ltF, gq_eqT, gq_eqF, if_true, if_false]
  | d + 1, f + 1, i, μ, hf, hi => by
    obtain ⟨μ', e1, e2, e3, e4⟩ := gp_jfI (a := a) (v := v) hn (k := k) d f (i + 1) (gx_uI μ a i v) (by omega) (by omega)
    refine ⟨μ', ?_, fun j h2 h3 => ?_, fun b j ha => ?_, e4⟩
    · rw [L_J7_fill_53178_5.eq_2, ← e1]
      simp (disch := omega) only [Int.reduceToNat, gq_lit, gq_neg, gq_add, gq_sub, gq_mul, gq_nat, Int.toNat_natCast, gq_tadd, gq_tmul, gq_lte, gq_br, gq_bd, gq_ck, Bool.false_eq_true, gq_leT, gq_leF, gq_ltT, gq_ltF, gq_eqT, gq_eqF, if_true, if_false]
      rfl
    · by_cases hj : j = i
      · subst hj
        rw [e3 _ _ (by omega), gq_uI1, if_pos ⟨rfl, rfl⟩]
      · exact e2 j (by omega) h3
    · rw [e3 _ _ (by omega), gq_uI1, if_neg (by omega)]
/-- Arrays.fill -/
theorem gp_af {a n : Nat} (v : Int32) (hn : n ≤ 1000) (μ : gx_M) : ∃ μ', f_J7_fill_53178 a n v μ = some ((), μ') ∧ (∀ j, j < n → μ'.1 a j = v) ∧ (∀ b j, ¬ (b = a ∧ j < n) → μ'.1 b j = μ.1 b j) ∧ μ'.2 = μ.2 := by
  obtain ⟨μ', e1, e2, e3, e4⟩ := gp_jfI (a := a) (n := n) (v := v) hn (k := fun (μ9 : gx_M) => some ((), μ9)) n 4000 0 μ (by omega) (by omega)
  refine ⟨μ', ?_, fun j h => e2 j (by omega) h, fun b j h => e3 b j (by omega), e4⟩
  unfold f_J7_fill_53178
  rw [gq_lte, gq_oN, gq_lit]
  exact e1
/-- a new street, new swaps -/
def gp_w0 (j : Nat) : Int := if j = 0 then 12 else if j = 1 then 2 else if 3 ≤ j ∧ j < 7 then 20 else if 31 ≤ j ∧ j < 71 then 1 else if 71 ≤ j ∧ j < 111 then -1 else 0
def gp_v0 (j : Nat) : Int := if j = 0 then 3 else 0
theorem gp_clear {μ : gx_M} (h1 : gq_ln μ 53 40) (h2 : gq_ln μ 56 8) : ∃ μ', f_X4_clear μ = some ((), μ') ∧ gq_cS μ' 45 gp_w0 ∧ gq_cV μ' 59 gp_v0 ∧ (μ'.1 53 0 = gq_I 40 ∧ μ'.1 53 3 = gq_I 0 ∧ μ'.1 56 0 = gq_I 8 ∧ μ'.1 56 3 = gq_I 0) ∧ (μ'.1 42 6 = gq_I 0 ∧ μ'.1 42 7 = gq_I (-1) ∧ μ'.1 42 8 = gq_I 0 ∧ μ'.1 42 9 = gq_I (-1) ∧ μ'.1 42 10 = gq_I (-1)) ∧ (∀ a j, ¬ (42 ≤ a ∧ a ≤ 61) → μ'.1 a j = μ.1 a j) ∧ μ'.2 = μ.2 := by
  obtain ⟨μ1, e1⟩ : ∃ μ1, μ1 = gx_uI (gx_uI (gx_uI μ 45 0 (gq_I 12)) 45 1 (gq_I 2)) 45 2 (gq_I 0) := ⟨_, rfl⟩
  obtain ⟨μ2, a2, b2, c2, d2⟩ := gp_af (a := 46) (n := 4) (gq_I 20) (by omega) μ1
  obtain ⟨μ3, a3, b3, c3, d3⟩ := gp_af (a := 47) (n := 40) (gq_I 1) (by omega) μ2
  obtain ⟨μ4, a4, b4, c4, d4⟩ := gp_af (a := 48) (n := 40) (gq_I (-1)) (by omega) μ3
  obtain ⟨μ5, e5⟩ : ∃ μ5, μ5 = gx_uI (gx_uI (gx_uI μ4 53 3 (gq_I 0)) 56 3 (gq_I 0)) 59 0 (gq_I 3) := ⟨_, rfl⟩
  obtain ⟨μ6, a6, b6, c6, d6⟩ := gp_af (a := 60) (n := 36) (gq_I 0) (by omega) μ5
  have F1 : ∀ a j, ¬ (a = 45 ∧ j ≤ 2) → μ1.1 a j = μ.1 a j := fun a j h => by rw [e1]; simp (disch := omega) only [gq_uI1, gq_ifF]
  have F4 : ∀ a j, ¬ (a = 46 ∧ j < 4) → ¬ (a = 47 ∧ j < 40) → ¬ (a = 48 ∧ j < 40) → μ4.1 a j = μ1.1 a j := fun a j x y z => by rw [c4 _ _ z, c3 _ _ y, c2 _ _ x]
  have F5 : ∀ a j, ¬ (a = 53 ∧ j = 3) → ¬ (a = 56 ∧ j = 3) → ¬ (a = 59 ∧ j = 0) → μ5.1 a j = μ4.1 a j := fun a j x y z => by rw [e5]; simp (disch := omega) only [gq_uI1, gq_ifF]
  refine ⟨gx_uI (gx_uI (gx_uI (gx_uI (gx_uI μ6 42 6 (gq_I 0)) 42 7 (gq_I (-1))) 42 8 (gq_I 0)) 42 9 (gq_I (-1))) 42 10 (gq_I (-1)), ?_, ?_, ⟨?_, fun j hj => ?_⟩, ⟨?_, ?_, ?_, ?_⟩, ⟨?_, ?_, ?_, ?_, ?_⟩, fun a j h => ?_, ?_⟩
  · unfold f_X4_clear f_X5_clear f_X6_clear
    simp only [gq_lit, gq_neg, gq_lte, gq_bd]
    rw [← e1, show 45 + 1 = 46 from rfl, show 45 + 2 = 47 from rfl, show 45 + 3 = 48 from rfl, show 59 + 1 = 60 from rfl]
    simp only [a2, a3, a4, gq_bd]
    rw [← e5, a6]
    rfl
  · have G : ∀ a j, 45 ≤ a → a ≤ 52 → (gx_uI (gx_uI (gx_uI (gx_uI (gx_uI μ6 42 6 (gq_I 0)) 42 7 (gq_I (-1))) 42 8 (gq_I 0)) 42 9 (gq_I (-1))) 42 10 (gq_I (-1))).1 a j = μ4.1 a j := fun a j h1 h2 => by
      simp (disch := omega) only [gq_uI1, gq_ifF]
      rw [c6 _ _ (by omega), F5 _ _ (by omega) (by omega) (by omega)]
    refine ⟨⟨?_, ?_, ?_⟩, fun p hp => ?_, fun p hp => ?_, fun p hp => ?_, fun b hb => ?_⟩
    · rw [G _ _ (by omega) (by omega), F4 _ _ (by omega) (by omega) (by omega), e1]; simp only [gq_uI1, gq_uI2, gq_uL1, gq_uL2, Nat.reduceEqDiff, false_and, and_false, and_true, true_and, if_true, if_false]; rfl
    · rw [G _ _ (by omega) (by omega), F4 _ _ (by omega) (by omega) (by omega), e1]; simp only [gq_uI1, gq_uI2, gq_uL1, gq_uL2, Nat.reduceEqDiff, false_and, and_false, and_true, true_and, if_true, if_false]; rfl
    · rw [G _ _ (by omega) (by omega), F4 _ _ (by omega) (by omega) (by omega), e1]; simp only [gq_uI1, gq_uI2, gq_uL1, gq_uL2, Nat.reduceEqDiff, false_and, and_false, and_true, true_and, if_true, if_false]; rfl
    · rw [G _ _ (by omega) (by omega), c4 _ _ (by omega), c3 _ _ (by omega), b2 p hp]
      unfold gp_w0
      rw [if_neg (by omega), if_neg (by omega), if_pos (by omega)]
    · rw [G _ _ (by omega) (by omega), c4 _ _ (by omega), b3 p hp]
      unfold gp_w0
      rw [if_neg (by omega), if_neg (by omega), if_neg (by omega), if_pos (by omega)]
    · rw [G _ _ (by omega) (by omega), b4 p hp]
      unfold gp_w0
      rw [if_neg (by omega), if_neg (by omega), if_neg (by omega), if_neg (by omega), if_pos (by omega)]
    · have : (b : Int) < 0 := hb
      omega
  · simp (disch := omega) only [gq_uI1, gq_ifF]
    rw [c6 _ _ (by omega), e5]; simp only [gq_uI1, gq_uI2, gq_uL1, gq_uL2, Nat.reduceEqDiff, false_and, and_false, and_true, true_and, if_true, if_false]; rfl
  · simp (disch := omega) only [gq_uI1, gq_ifF]
    rw [b6 j hj]
    unfold gp_v0
    rw [if_neg (by omega)]
  · simp (disch := omega) only [gq_uI1, gq_ifF]
    rw [c6 _ _ (by omega), F5 _ _ (by omega) (by omega) (by omega), F4 _ _ (by omega) (by omega) (by omega), F1 _ _ (by omega)]; exact h1.1
  · simp (disch := omega) only [gq_uI1, gq_ifF]
    rw [c6 _ _ (by omega), e5]; simp only [gq_uI1, gq_uI2, gq_uL1, gq_uL2, Nat.reduceEqDiff, false_and, and_false, and_true, true_and, if_true, if_false]
  · simp (disch := omega) only [gq_uI1, gq_ifF]
    rw [c6 _ _ (by omega), F5 _ _ (by omega) (by omega) (by omega), F4 _ _ (by omega) (by omega) (by omega), F1 _ _ (by omega)]; exact h2.1
  · simp (disch := omega) only [gq_uI1, gq_ifF]
    rw [c6 _ _ (by omega), e5]; simp only [gq_uI1, gq_uI2, gq_uL1, gq_uL2, Nat.reduceEqDiff, false_and, and_false, and_true, true_and, if_true, if_false]
  · simp only [gq_uI1, gq_uI2, gq_uL1, gq_uL2, Nat.reduceEqDiff, false_and, and_false, and_true, true_and, if_true, if_false]
  · simp only [gq_uI1, gq_uI2, gq_uL1, gq_uL2, Nat.reduceEqDiff, false_and, and_false, and_true, true_and, if_true, if_false]
  · simp only [gq_uI1, gq_uI2, gq_uL1, gq_uL2, Nat.reduceEqDiff, false_and, and_false, and_true, true_and, if_true, if_false]
  · simp only [gq_uI1, gq_uI2, gq_uL1, gq_uL2, Nat.reduceEqDiff, false_and, and_false, and_true, true_and, if_true, if_false]
  · simp only [gq_uI1, gq_uI2, gq_uL1, gq_uL2, Nat.reduceEqDiff, false_and, and_false, and_true, true_and, if_true, if_false]
  · simp (disch := omega) only [gq_uI1, gq_ifF]
    rw [c6 _ _ (by omega), F5 _ _ (by omega) (by omega) (by omega), F4 _ _ (by omega) (by omega) (by omega), F1 _ _ (by omega)]
  · show μ6.2 = _
    rw [d6, e5]
    show μ4.2 = _
    rw [d4, d3, d2, e1]
    rfl
