/-! the class looks through the rows of a log -/
def gl_t2 (p1 p2 : Int32) (j0_14 : Int32) (μ15 : gx_M) : Option (Unit × gx_M) := gx_lt (gx_uI μ15 82 5 j0_14) (fun (μ16 : gx_M) => gx_lt (if ((p2 - p1) + 1) < (μ16.1 82 6) then ((p2 - p1) + 1) else (μ16.1 82 6)) (fun (x17 : Int32) => gx_lt (gx_uI μ16 82 6 x17) (fun (μ18 : gx_M) => gx_lt (if (μ18.1 82 7) < ((p2 - p1) + 1) then ((p2 - p1) + 1) else (μ18.1 82 7)) (fun (x19 : Int32) => gx_lt (gx_uI μ18 82 7 x19) (fun (μ20 : gx_M) => L_X7_takeRow_82 p2 (fun (μ28 : gx_M) => gx_lt (gx_uI μ28 82 3 ((μ28.1 82 3) + 1)) (fun (μ29 : gx_M) => some ((), μ29))) 4000 p1 μ20)))))
def gl_t1 (p1 p2 : Int32) (j0_6 : Int32) (μ7 : gx_M) : Option (Unit × gx_M) := gx_lt (gx_uI μ7 82 4 j0_6) (fun (μ8 : gx_M) => if (μ8.1 82 3) = 0 then gl_t2 p1 p2 p2 μ8 else if (μ8.1 82 5) = p2 then gl_t2 p1 p2 p2 μ8 else gl_t2 p1 p2 (-1) μ8)
theorem gl_t0 (p1 p2 : Int32) (μ : gx_M) : f_X7_takeRow p1 p2 μ = if (μ.1 82 3) = 0 then gl_t1 p1 p2 p1 μ else if (μ.1 82 4) = p1 then gl_t1 p1 p2 p1 μ else gl_t1 p1 p2 (-1) μ := rfl
theorem gl_rowL {b : Nat} (hb : b < 40) {k : gx_M → Option (Unit × gx_M)} : ∀ (d f i : Nat) (μ : gx_M), d < f → i + d = b + 1 → ∃ μ', L_X7_takeRow_82 (gq_I b) k f (gq_I i) μ = k μ' ∧ (∀ j, i ≤ j → j ≤ b → μ'.1 83 j = μ.1 83 j + gq_I 1) ∧ (∀ a j, ¬ (a = 83 ∧ i ≤ j ∧ j ≤ b) → μ'.1 a j = μ.1 a j) ∧ μ'.2 = μ.2
  | _, 0, _, _, hf, _ => absurd hf (Nat.not_lt_zero _)
  | 0, f + 1, i, μ, hf, hi => by
    refine ⟨μ, ?_, fun j h2 h3 => absurd h3 (by omega), fun _ _ _ => rfl, rfl⟩
    rw [L_X7_takeRow_82.eq_2]
    simp (disch := omega) only [Int.reduceToNat, gq_lit, gq_neg, gq_add, gq_sub, gq_mul, gq_nat, Int.toNat_natCast, gq_tadd, gq_tmul, gq_lte, gq_br, gq_bd, gq_ck, Bool.false_eq_true, gq_leT, gq_leF, gq_ltT, gq_ltF, gq_eqT, gq_eqF, if_true, if_false]
  | d + 1, f + 1, i, μ, hf, hi => by
    obtain ⟨μ', e1, e2, e3, e4⟩ := gl_rowL hb (k := k) d f (i + 1) (gx_uI μ 83 i (μ.1 83 i + gq_I 1)) (by omega) (by omega)
    refine ⟨μ', ?_, fun j h2 h3 => ?_, fun a j ha => ?_, e4⟩
    · rw [L_X7_takeRow_82.eq_2]
      simp (disch := omega) only [Int.reduceToNat, gq_lit, gq_neg, gq_add, gq_sub, gq_mul, gq_nat, Int.toNat_natCast, gq_tadd, gq_tmul, gq_lte, gq_br, gq_bd, gq_ck, Bool.false_eq_true, gq_leT, gq_leF, gq_ltT, gq_ltF, gq_eqT, gq_eqF, if_true, if_false]
      exact e1
    · by_cases hj : j = i
      · subst hj
        rw [e3 83 j (by omega), gq_uI1, if_pos ⟨rfl, rfl⟩]
      · rw [e2 j (by omega) h3, gq_uI1, if_neg (by omega)]
    · rw [e3 a j (by omega), gq_uI1, if_neg (by omega)]
/-- one row that fits is taken -/
theorem gl_take {μ : gx_M} {a b : Nat} {c x y u v : Int} (ha : a < 40) (hb : b < 40) (hab : a ≤ b) (hc : 0 ≤ c ∧ c ≤ 1600) (hx : -1 ≤ x ∧ x < 40) (hy : -1 ≤ y ∧ y < 40) (hu : -40 ≤ u ∧ u ≤ 40) (hv : 0 ≤ v ∧ v ≤ 40) (h3 : μ.1 82 3 = gq_I c) (h4 : μ.1 82 4 = gq_I x) (h5 : μ.1 82 5 = gq_I y) (h6 : μ.1 82 6 = gq_I u) (h7 : μ.1 82 7 = gq_I v) : ∃ μ', f_X7_takeRow (gq_I a) (gq_I b) μ = some ((), μ') ∧ μ'.1 82 3 = gq_I (c + 1) ∧ μ'.1 82 4 = gq_I (if c = 0 ∨ x = (a : Int) then (a : Int) else -1) ∧ μ'.1 82 5 = gq_I (if c = 0 ∨ y = (b : Int) then (b : Int) else -1) ∧ μ'.1 82 6 = gq_I (if (b : Int) - a + 1 < u then (b : Int) - a + 1 else u) ∧ μ'.1 82 7 = gq_I (if v < (b : Int) - a + 1 then (b : Int) - a + 1 else v) ∧ (∀ m, μ'.1 83 m = if a ≤ m ∧ m ≤ b then μ.1 83 m + gq_I 1 else μ.1 83 m) ∧ (∀ r j, r ≠ 82 → r ≠ 83 → μ'.1 r j = μ.1 r j) ∧ μ'.2 = μ.2 := by
  obtain ⟨X, hX⟩ : ∃ X : Int, X = if c = 0 ∨ x = (a : Int) then (a : Int) else -1 := ⟨_, rfl⟩
  obtain ⟨Y, hY⟩ : ∃ Y : Int, Y = if c = 0 ∨ y = (b : Int) then (b : Int) else -1 := ⟨_, rfl⟩
  obtain ⟨U, hU⟩ : ∃ U : Int, U = if (b : Int) - a + 1 < u then (b : Int) - a + 1 else u := ⟨_, rfl⟩
  obtain ⟨V, hV⟩ : ∃ V : Int, V = if v < (b : Int) - a + 1 then (b : Int) - a + 1 else v := ⟨_, rfl⟩
  rw [← hX, ← hY, ← hU, ← hV]
  obtain ⟨μ1, e1⟩ : ∃ μ1, μ1 = gx_uI (gx_uI (gx_uI (gx_uI μ 82 4 (gq_I X)) 82 5 (gq_I Y)) 82 6 (gq_I U)) 82 7 (gq_I V) := ⟨_, rfl⟩
  obtain ⟨μ2, a1, a2, a3, a4⟩ := gl_rowL hb (k := fun (μ28 : gx_M) => some ((), gx_uI μ28 82 3 (μ28.1 82 3 + gq_I 1))) (b + 1 - a) 4000 a μ1 (by omega) (by omega)
  have s2 : gl_t2 (gq_I a) (gq_I b) (gq_I Y) (gx_uI μ 82 4 (gq_I X)) = some ((), gx_uI μ2 82 3 (μ2.1 82 3 + gq_I 1)) := by
    rw [← a1, e1]
    unfold gl_t2
    have c1 : (if gq_I b - gq_I a + gq_I 1 < (gx_uI (gx_uI μ 82 4 (gq_I X)) 82 5 (gq_I Y)).1 82 6 then gq_I b - gq_I a + gq_I 1 else (gx_uI (gx_uI μ 82 4 (gq_I X)) 82 5 (gq_I Y)).1 82 6) = gq_I U := by
      have r6 : (gx_uI (gx_uI μ 82 4 (gq_I X)) 82 5 (gq_I Y)).1 82 6 = gq_I u := by rw [gq_uI1, if_neg (by omega), gq_uI1, if_neg (by omega), h6]
      rw [r6, gq_sub, gq_add, hU]
      by_cases g : (b : Int) - a + 1 < u
      · rw [if_pos g, if_pos (by rw [gq_lt (by omega)]; exact g)]
      · rw [if_neg g, if_neg (by rw [gq_lt (by omega)]; exact g)]
    have c2 : (if (gx_uI (gx_uI (gx_uI μ 82 4 (gq_I X)) 82 5 (gq_I Y)) 82 6 (gq_I U)).1 82 7 < gq_I b - gq_I a + gq_I 1 then gq_I b - gq_I a + gq_I 1 else (gx_uI (gx_uI (gx_uI μ 82 4 (gq_I X)) 82 5 (gq_I Y)) 82 6 (gq_I U)).1 82 7) = gq_I V := by
      have r7 : (gx_uI (gx_uI (gx_uI μ 82 4 (gq_I X)) 82 5 (gq_I Y)) 82 6 (gq_I U)).1 82 7 = gq_I v := by rw [gq_uI1, if_neg (by omega), gq_uI1, if_neg (by omega), gq_uI1, if_neg (by omega), h7]
      rw [r7, gq_sub, gq_add, hV]
      by_cases g : v < (b : Int) - a + 1
      · rw [if_pos g, if_pos (by rw [gq_lt (by omega)]; exact g)]
      · rw [if_neg g, if_neg (by rw [gq_lt (by omega)]; exact g)]
    simp only [gq_lte, gq_lit]
    rw [c1, c2]
  have s1 : gl_t1 (gq_I a) (gq_I b) (gq_I X) μ = some ((), gx_uI μ2 82 3 (μ2.1 82 3 + gq_I 1)) := by
    rw [← s2]
    unfold gl_t1
    have r3 : (gx_uI μ 82 4 (gq_I X)).1 82 3 = gq_I c := by rw [gq_uI1, if_neg (by omega), h3]
    have r5 : (gx_uI μ 82 4 (gq_I X)).1 82 5 = gq_I y := by rw [gq_uI1, if_neg (by omega), h5]
    rw [gq_lte, r3, r5, hY]
    by_cases g : c = 0
    · rw [if_pos (c := c = 0 ∨ y = (b : Int)) (Or.inl g), g]
      exact if_pos rfl
    · by_cases g2 : y = b
      · rw [if_pos (c := c = 0 ∨ y = (b : Int)) (Or.inr g2)]
        simp (disch := omega) only [Int.reduceToNat, gq_lit, gq_neg, gq_add, gq_sub, gq_mul, gq_nat, Int.toNat_natCast, gq_tadd, gq_tmul, gq_lte, gq_br, gq_bd, gq_ck, Bool.false_eq_true, gq_leT, gq_leF, gq_ltT, gq_ltF, gq_eqT, gq_eqF, if_true, if_false]
      · rw [if_neg (c := c = 0 ∨ y = (b : Int)) (by omega)]
        simp (disch := omega) only [Int.reduceToNat, gq_lit, gq_neg, gq_add, gq_sub, gq_mul, gq_nat, Int.toNat_natCast, gq_tadd, gq_tmul, gq_lte, gq_br, gq_bd, gq_ck, Bool.false_eq_true, gq_leT, gq_leF, gq_ltT, gq_ltF, gq_eqT, gq_eqF, if_true, if_false]
  have s0 : f_X7_takeRow (gq_I a) (gq_I b) μ = some ((), gx_uI μ2 82 3 (μ2.1 82 3 + gq_I 1)) := by
    rw [← s1, gl_t0, h3, h4, hX]
    by_cases g : c = 0
    · rw [if_pos (c := c = 0 ∨ x = (a : Int)) (Or.inl g), g]
      exact if_pos rfl
    · by_cases g2 : x = a
      · rw [if_pos (c := c = 0 ∨ x = (a : Int)) (Or.inr g2)]
        simp (disch := omega) only [Int.reduceToNat, gq_lit, gq_neg, gq_add, gq_sub, gq_mul, gq_nat, Int.toNat_natCast, gq_tadd, gq_tmul, gq_lte, gq_br, gq_bd, gq_ck, Bool.false_eq_true, gq_leT, gq_leF, gq_ltT, gq_ltF, gq_eqT, gq_eqF, if_true, if_false]
      · rw [if_neg (c := c = 0 ∨ x = (a : Int)) (by omega)]
        simp (disch := omega) only [Int.reduceToNat, gq_lit, gq_neg, gq_add, gq_sub, gq_mul, gq_nat, Int.toNat_natCast, gq_tadd, gq_tmul, gq_lte, gq_br, gq_bd, gq_ck, Bool.false_eq_true, gq_leT, gq_leF, gq_ltT, gq_ltF, gq_eqT, gq_eqF, if_true, if_false]
  have o : ∀ j, μ2.1 82 j = μ1.1 82 j := fun j => a3 _ _ (by omega)
  refine ⟨_, s0, ?_, ?_, ?_, ?_, ?_, fun m => ?_, fun r j g1 g2 => ?_, ?_⟩
  · rw [gq_uI1, if_pos ⟨rfl, rfl⟩, o, e1]
    simp (disch := omega) only [gq_uI1, gq_uI2, gq_uL1, gq_uL2, gq_ifF]
    rw [h3, gq_add]
  · rw [gq_uI1, if_neg (by omega), o, e1]
    simp (disch := omega) only [gq_uI1, gq_uI2, gq_uL1, gq_uL2, Nat.reduceEqDiff, false_and, and_false, and_true, true_and, gq_ifF, gq_ifT, if_true, if_false]
  · rw [gq_uI1, if_neg (by omega), o, e1]
    simp (disch := omega) only [gq_uI1, gq_uI2, gq_uL1, gq_uL2, Nat.reduceEqDiff, false_and, and_false, and_true, true_and, gq_ifF, gq_ifT, if_true, if_false]
  · rw [gq_uI1, if_neg (by omega), o, e1]
    simp (disch := omega) only [gq_uI1, gq_uI2, gq_uL1, gq_uL2, Nat.reduceEqDiff, false_and, and_false, and_true, true_and, gq_ifF, gq_ifT, if_true, if_false]
  · rw [gq_uI1, if_neg (by omega), o, e1]
    simp (disch := omega) only [gq_uI1, gq_uI2, gq_uL1, gq_uL2, Nat.reduceEqDiff, false_and, and_false, and_true, true_and, gq_ifF, gq_ifT, if_true, if_false]
  · have e83 : ∀ j, μ1.1 83 j = μ.1 83 j := fun j => by
      rw [e1]
      simp (disch := omega) only [gq_uI1, gq_uI2, gq_uL1, gq_uL2, Nat.reduceEqDiff, false_and, and_false, and_true, true_and, gq_ifF, if_false]
    rw [gq_uI1, if_neg (by omega)]
    by_cases g : a ≤ m ∧ m ≤ b
    · rw [if_pos g, a2 m g.1 g.2, e83]
    · rw [if_neg g, a3 83 m (by omega), e83]
  · rw [gq_uI1, if_neg (by omega), a3 r j (by omega), e1]
    simp (disch := omega) only [gq_uI1, gq_uI2, gq_uL1, gq_uL2, gq_ifF]
  · rw [gq_uI2, a4, e1]
    rfl
