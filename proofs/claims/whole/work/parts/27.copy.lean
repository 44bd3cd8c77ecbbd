/-! images: all is copied -/
theorem gq_cp1 (μ : gx_M) (a b sp dp n c j : Nat) : (gx_cp μ a b sp dp n).1 c j = if c = b ∧ (dp ≤ j ∧ j < dp + n) then μ.1 a (sp + (j - dp)) else μ.1 c j := id rfl
theorem gq_cp2 (μ : gx_M) (a b sp dp n : Nat) : (gx_cp μ a b sp dp n).2 = μ.2 := id rfl
theorem gq_cpo {μ : gx_M} {a b n c j : Nat} (h : ¬ (c = b ∧ j < n)) : (gx_cp μ a b 0 0 n).1 c j = μ.1 c j := by
  rw [gq_cp1]; exact if_neg (by omega)
theorem gq_cpi {μ : gx_M} {a b n j : Nat} (h : j < n) : (gx_cp μ a b 0 0 n).1 b j = μ.1 a j := by
  rw [gq_cp1, if_pos (by omega), show 0 + (j - 0) = j by omega]
theorem gq_ckp {β : Type} {t : Option β} {n : Int} {na nb : Nat} (h : (0 ≤ n ∧ n < 2147483648) ∧ n ≤ na ∧ n ≤ nb) : gx_ck (gx_cpk (gq_I 0) (gq_I 0) (gq_I n) na nb = true) t = t := by
  refine gq_ckT ?_
  unfold gx_cpk
  rw [decide_eq_true_iff]
  rw [gq_nat (by omega), gq_nat (by omega), gq_lit]
  refine ⟨?_, ?_, ?_, ?_, ?_⟩
  · simp (disch := omega) only [gq_ltF, not_false_eq_true]
  · simp (disch := omega) only [gq_ltF, not_false_eq_true]
  · simp (disch := omega) only [gq_ltF, not_false_eq_true]
  · omega
  · omega
theorem gq_fitB {μ : gx_M} {a n : Nat} (h : ∀ k, k < n → fits .byte (.int (μ.1 a k)) = true) : gx_fitB μ a 0 n = true := by
  unfold gx_fitB
  rw [List.all_eq_true]
  intro i hi
  rw [Nat.zero_add]
  exact h i (List.mem_range.mp hi)
/-- a street -/
theorem gq_copyS {a0 a1 : Nat} {μ : gx_M} (h : a0 + 7 < a1 ∨ a1 + 7 < a0) : ∃ μ', f_X5_copyFrom a0 a1 μ = some ((), μ') ∧ (∀ w : Nat → Int, w 2 ≤ 6 → gq_cS μ a1 w → gq_cS μ' a0 w) ∧ (∀ a j, ¬ (a0 ≤ a ∧ a ≤ a0 + 7) → μ'.1 a j = μ.1 a j) ∧ μ'.2 = μ.2 := by
  obtain ⟨μ1, e1⟩ : ∃ μ1, μ1 = gx_uI (gx_uI (gx_uI μ a0 0 (μ.1 a1 0)) a0 1 (μ.1 a1 1)) a0 2 (μ.1 a1 2) := ⟨_, rfl⟩
  obtain ⟨μ2, e2⟩ : ∃ μ2, μ2 = gx_cp (gx_cp (gx_cp μ1 (a1 + 1) (a0 + 1) 0 0 4) (a1 + 2) (a0 + 2) 0 0 40) (a1 + 3) (a0 + 3) 0 0 40 := ⟨_, rfl⟩
  obtain ⟨μ3, e3⟩ : ∃ μ3, μ3 = gx_cp (gx_cp (gx_cp (gx_cp μ2 (a1 + 4) (a0 + 4) 0 0 6) (a1 + 5) (a0 + 5) 0 0 6) (a1 + 6) (a0 + 6) 0 0 6) (a1 + 7) (a0 + 7) 0 0 6 := ⟨_, rfl⟩
  have f1 : ∀ a j, ¬ a = a0 → μ1.1 a j = μ.1 a j := fun a j ha => by
    rw [e1]; simp (disch := omega) only [gq_uI1, gq_uI2, gq_uL1, gq_uL2, gq_ifF]
  have f2 : ∀ a j, ¬ (a0 + 1 ≤ a ∧ a ≤ a0 + 3) → μ2.1 a j = μ1.1 a j := fun a j ha => by
    rw [e2, gq_cpo (by omega), gq_cpo (by omega), gq_cpo (by omega)]
  have f3 : ∀ a j, ¬ (a0 + 4 ≤ a ∧ a ≤ a0 + 7) → μ3.1 a j = μ2.1 a j := fun a j ha => by
    rw [e3, gq_cpo (by omega), gq_cpo (by omega), gq_cpo (by omega), gq_cpo (by omega)]
  refine ⟨μ3, ?_, fun w hw hc => ?_, fun a j ha => ?_, ?_⟩
  · unfold f_X5_copyFrom
    simp (disch := omega) only [Int.reduceToNat, gq_lit, gq_neg, gq_add, gq_sub, gq_mul, gq_nat, Int.toNat_natCast, gq_tadd, gq_tmul, gq_lte, gq_br, gq_bd, gq_ck, gq_uI1, gq_uI2, gq_uL1, gq_uL2, gq_ckp, gq_ifF]
    rw [e3, e2, e1]
  · obtain ⟨⟨c0, c1, c2⟩, c3, c4, c5, c6⟩ := hc
    refine ⟨⟨?_, ?_, ?_⟩, fun p hp => ?_, fun m hm => ?_, fun m hm => ?_, fun b hb => ⟨?_, ?_, ?_, ?_⟩⟩
    · rw [f3 _ _ (by omega), f2 _ _ (by omega), e1, ← c0]; simp (disch := omega) only [gq_uI1, gq_uI2, gq_uL1, gq_uL2, gq_ifF, Nat.reduceEqDiff, false_and, and_false, and_true, true_and, if_true, if_false]
    · rw [f3 _ _ (by omega), f2 _ _ (by omega), e1, ← c1]; simp (disch := omega) only [gq_uI1, gq_uI2, gq_uL1, gq_uL2, gq_ifF, Nat.reduceEqDiff, false_and, and_false, and_true, true_and, if_true, if_false]
    · rw [f3 _ _ (by omega), f2 _ _ (by omega), e1, ← c2]; simp (disch := omega) only [gq_uI1, gq_uI2, gq_uL1, gq_uL2, gq_ifF, Nat.reduceEqDiff, false_and, and_false, and_true, true_and, if_true, if_false]
    · rw [f3 _ _ (by omega), e2, gq_cpo (by omega), gq_cpo (by omega), gq_cpi hp, f1 _ _ (by omega)]; exact c3 p hp
    · rw [f3 _ _ (by omega), e2, gq_cpo (by omega), gq_cpi hm, gq_cpo (by omega), f1 _ _ (by omega)]; exact c4 m hm
    · rw [f3 _ _ (by omega), e2, gq_cpi hm, gq_cpo (by omega), gq_cpo (by omega), f1 _ _ (by omega)]; exact c5 m hm
    · rw [e3, gq_cpo (by omega), gq_cpo (by omega), gq_cpo (by omega), gq_cpi (by omega), f2 _ _ (by omega), f1 _ _ (by omega)]; exact (c6 b hb).1
    · rw [e3, gq_cpo (by omega), gq_cpo (by omega), gq_cpi (by omega), gq_cpo (by omega), f2 _ _ (by omega), f1 _ _ (by omega)]; exact (c6 b hb).2.1
    · rw [e3, gq_cpo (by omega), gq_cpi (by omega), gq_cpo (by omega), gq_cpo (by omega), f2 _ _ (by omega), f1 _ _ (by omega)]; exact (c6 b hb).2.2.1
    · rw [e3, gq_cpi (by omega), gq_cpo (by omega), gq_cpo (by omega), gq_cpo (by omega), f2 _ _ (by omega), f1 _ _ (by omega)]; exact (c6 b hb).2.2.2
  · rw [f3 _ _ (by omega), f2 _ _ (by omega), f1 _ _ (by omega)]
  · rw [e3, gq_cp2, gq_cp2, gq_cp2, gq_cp2, e2, gq_cp2, gq_cp2, gq_cp2, e1]; rfl
/-- lines -/
theorem gq_copyL {a0 a1 n : Nat} {μ : gx_M} (hn : n ≤ 40) (h : a0 + 2 < a1 ∨ a1 + 2 < a0) (h0 : gq_ln μ a0 n) (h1 : gq_ln μ a1 n) : ∃ μ', f_X2_copyFrom a0 n a1 n μ = some ((), μ') ∧ gq_ln μ' a0 n ∧ μ'.1 a0 3 = μ.1 a1 3 ∧ (∀ k : Nat, μ.1 a1 3 = gq_I k → ∀ j, j < k → k ≤ n → μ'.1 (a0 + 1) j = μ.1 (a1 + 1) j) ∧ (∀ k : Nat, μ.1 a1 3 = gq_I k → ∀ j, j < 3 * k → k ≤ n → μ'.1 (a0 + 2) j = μ.1 (a1 + 2) j) ∧ (∀ a j, ¬ (a0 ≤ a ∧ a ≤ a0 + 2) → μ'.1 a j = μ.1 a j) ∧ μ'.2 = μ.2 := by
  obtain ⟨m0, c0, hc0, n0⟩ := h0
  obtain ⟨m1, c1, hc1, n1⟩ := h1
  have inj : ∀ k : Nat, μ.1 a1 3 = gq_I k → k ≤ n → k = c1 := fun k hk hkn => by
    rw [n1] at hk
    have := gq_eq (a := (c1 : Int)) (b := (k : Int)) (by omega)
    rw [this] at hk
    omega
  refine ⟨gx_cp (gx_cp (gx_uI μ a0 3 (gq_I c1)) (a1 + 1) (a0 + 1) 0 0 c1) (a1 + 2) (a0 + 2) 0 0 (3 * c1), ?_, ?_, ?_, ?_, ?_, ?_, ?_⟩
  · unfold f_X2_copyFrom
    simp only [gq_lte]
    rw [m0, n1]
    have e : (if gq_I (n : Int) < gq_I (c1 : Int) then gq_I (n : Int) else gq_I (c1 : Int)) = gq_I c1 := by
      simp (disch := omega) only [gq_ltF, if_false]
    rw [e]
    have e3 : (gx_cp (gx_uI μ a0 3 (gq_I c1)) (a1 + 1) (a0 + 1) 0 0 c1).1 a0 3 = gq_I c1 := by
      rw [gq_cpo (by omega), gq_uI1, if_pos ⟨rfl, rfl⟩]
    have e4 : (gx_uI μ a0 3 (gq_I c1)).1 a0 3 = gq_I c1 := by rw [gq_uI1, if_pos ⟨rfl, rfl⟩]
    rw [e4, gq_lit, gq_lit 3, gq_nat (by omega), gq_nat (by omega)]
    rw [gq_ckp (by omega)]
    simp only [Int.reduceToNat, Int.toNat_natCast]
    simp only [e3]
    rw [gq_mul, gq_ckp (by rw [show (OfNat.ofNat 3 : Int) = 3 from rfl]; omega), gq_nat (by rw [show (OfNat.ofNat 3 : Int) = 3 from rfl]; omega)]
    rw [show ((c1 : Int) * (OfNat.ofNat 3 : Int)).toNat = 3 * c1 by rw [show (OfNat.ofNat 3 : Int) = 3 from rfl]; omega]
  · refine ⟨?_, c1, hc1, ?_⟩
    · rw [gq_cpo (by omega), gq_cpo (by omega), gq_uI1, if_neg (by omega)]; exact m0
    · rw [gq_cpo (by omega), gq_cpo (by omega), gq_uI1, if_pos ⟨rfl, rfl⟩]
  · rw [gq_cpo (by omega), gq_cpo (by omega), gq_uI1, if_pos ⟨rfl, rfl⟩, n1]
  · intro k hk j hj hkn
    have := inj k hk hkn
    rw [gq_cpo (by omega), gq_cpi (by omega), gq_uI1, if_neg (by omega)]
  · intro k hk j hj hkn
    have := inj k hk hkn
    rw [gq_cpi (by omega), gq_cpo (by omega), gq_uI1, if_neg (by omega)]
  · intro a j ha
    rw [gq_cpo (by omega), gq_cpo (by omega), gq_uI1, if_neg (by omega)]
  · rfl
theorem gq_copyV {a0 a1 : Nat} {μ : gx_M} (h : a0 + 1 < a1 ∨ a1 + 1 < a0) : ∃ μ', f_X6_copyFrom a0 a1 μ = some ((), μ') ∧ (∀ v : Nat → Int, gq_cV μ a1 v → gq_cV μ' a0 v) ∧ (∀ a j, ¬ (a0 ≤ a ∧ a ≤ a0 + 1) → μ'.1 a j = μ.1 a j) ∧ μ'.2 = μ.2 := by
  refine ⟨gx_cp (gx_uI μ a0 0 (μ.1 a1 0)) (a1 + 1) (a0 + 1) 0 0 36, ?_, fun v hv => ⟨?_, fun j hj => ?_⟩, fun a j ha => ?_, rfl⟩
  · unfold f_X6_copyFrom
    simp (disch := omega) only [Int.reduceToNat, gq_lit, gq_neg, gq_add, gq_sub, gq_mul, gq_nat, Int.toNat_natCast, gq_tadd, gq_tmul, gq_lte, gq_br, gq_bd, gq_ck, gq_ckp]
  · rw [gq_cpo (by omega), gq_uI1, if_pos ⟨rfl, rfl⟩]; exact hv.1
  · rw [gq_cpi hj, gq_uI1, if_neg (by omega)]; exact hv.2 j hj
  · rw [gq_cpo (by omega), gq_uI1, if_neg (by omega)]
