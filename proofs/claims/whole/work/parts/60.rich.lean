/-! the richest, on both sides -/
theorem gy_richL {μ ν : gx_M} {s : Nat} {w : Nat → Int} (h : gy_R μ ν s w) (ok : gq_okS w) {k k2 : Int32 → Option Int32} : ∀ (d f i a : Nat), d < f → ((i : Int) + d = w 1 ∨ (d = 0 ∧ w 1 ≤ i ∧ i ≤ 4)) → a < 4 → ∃ r : Nat, r < 4 ∧ L_X3_richest_4 μ k f (gq_I a) (gq_I i) = k (gq_I r) ∧ L_X12_richest_4 ν k2 f (gq_I a) (gq_I i) = k2 (gq_I r)
  | _, 0, _, _, hf, _, _ => absurd hf (Nat.not_lt_zero _)
  | 0, f + 1, i, a, hf, hi, ha => by
    have o1 := ok.2.1
    have e1 := h.1.1.2.1
    have e2 := h.1.2.2.1.2.2.1
    refine ⟨a, ha, ?_, ?_⟩
    · rw [L_X3_richest_4.eq_2, e1]
      simp (disch := omega) only [Bool.false_eq_true, gq_leT, gq_leF, gq_ltT, gq_ltF, gq_eqT, gq_eqF, if_true, if_false]
    · rw [L_X12_richest_4.eq_2, e2]
      simp (disch := omega) only [Bool.false_eq_true, gq_leT, gq_leF, gq_ltT, gq_ltF, gq_eqT, gq_eqF, if_true, if_false]
  | d + 1, f + 1, i, a, hf, hi, ha => by
    have o1 := ok.2.1
    have e1 := h.1.1.2.1
    have e2 := h.1.2.2.1.2.2.1
    have c1 := h.2.1 i (by omega)
    have c2 := h.2.1 a (by omega)
    by_cases g : μ.1 64 i ≤ μ.1 64 a
    · obtain ⟨r, r0, r1, r2⟩ := gy_richL h ok (k := k) (k2 := k2) d f (i + 1) a (by omega) (by omega) ha
      refine ⟨r, r0, ?_, ?_⟩
      · rw [← r1, L_X3_richest_4.eq_2, e1]
        simp (disch := omega) only [Int.reduceToNat, gq_lit, gq_neg, gq_add, gq_sub, gq_mul, gq_nat, Int.toNat_natCast, gq_tadd, gq_tmul, gq_lte, gq_br, gq_bd, gq_ck, Bool.false_eq_true, gq_leT, gq_leF, gq_ltT, gq_ltF, gq_eqT, gq_eqF, if_true, if_false]
        rw [if_pos g]
        rfl
      · rw [← r2, L_X12_richest_4.eq_2, e2]
        simp (disch := omega) only [Int.reduceToNat, gq_lit, gq_neg, gq_add, gq_sub, gq_mul, gq_nat, Int.toNat_natCast, gq_tadd, gq_tmul, gq_lte, gq_br, gq_bd, gq_ck, Bool.false_eq_true, gq_leT, gq_leF, gq_ltT, gq_ltF, gq_eqT, gq_eqF, if_true, if_false, c1, c2]
        rw [if_pos g]
        rfl
    · obtain ⟨r, r0, r1, r2⟩ := gy_richL h ok (k := k) (k2 := k2) d f (i + 1) i (by omega) (by omega) (by omega)
      refine ⟨r, r0, ?_, ?_⟩
      · rw [← r1, L_X3_richest_4.eq_2, e1]
        simp (disch := omega) only [Int.reduceToNat, gq_lit, gq_neg, gq_add, gq_sub, gq_mul, gq_nat, Int.toNat_natCast, gq_tadd, gq_tmul, gq_lte, gq_br, gq_bd, gq_ck, Bool.false_eq_true, gq_leT, gq_leF, gq_ltT, gq_ltF, gq_eqT, gq_eqF, if_true, if_false]
        rw [if_neg g]
        rfl
      · rw [← r2, L_X12_richest_4.eq_2, e2]
        simp (disch := omega) only [Int.reduceToNat, gq_lit, gq_neg, gq_add, gq_sub, gq_mul, gq_nat, Int.toNat_natCast, gq_tadd, gq_tmul, gq_lte, gq_br, gq_bd, gq_ck, Bool.false_eq_true, gq_leT, gq_leF, gq_ltT, gq_ltF, gq_eqT, gq_eqF, if_true, if_false, c1, c2]
        rw [if_neg g]
        rfl
theorem gy_rich {μ ν : gx_M} {s : Nat} {w : Nat → Int} (h : gy_R μ ν s w) (ok : gq_okS w) : ∃ r : Nat, r < 4 ∧ f_X3_richest μ = some (gq_I r) ∧ f_X12_richest ν = some (gq_I r) := by
  have o1 := ok.2.1
  obtain ⟨r, r0, r1, r2⟩ := gy_richL h ok (k := fun x => some x) (k2 := fun x => some x) (w 1 - 1).toNat 4000 1 0 (by omega) (by omega) (by omega)
  exact ⟨r, r0, r1, r2⟩
