/-! victim and restless, on both sides -/
theorem gy_victL {μ ν : gx_M} {s : Nat} {w : Nat → Int} (h : gy_R μ ν s w) (ok : gq_okS w) {k k2 : Int32 → Option Int32} : ∀ (d f i : Nat) (a : Int) (c : Int32), d < f → (i : Int) + d = w 1 → -1 ≤ a ∧ a < 4 → (a = -1 → c = gq_I 0) → (0 ≤ a → μ.1 73 a.toNat = c) → ∃ r : Int, (-1 ≤ r ∧ r < 4) ∧ L_X3_victim_6 μ k f (gq_I a) c (gq_I i) = k (gq_I r) ∧ L_X12_victim_4 ν k2 f (gq_I a) (gq_I i) = k2 (gq_I r)
  | _, 0, _, _, _, hf, _, _, _, _ => absurd hf (Nat.not_lt_zero _)
  | 0, f + 1, i, a, c, hf, hi, ha, hc1, hc2 => by
    have o1 := ok.2.1
    have o0 := ok.1
    have e1 := h.1.1.2.1
    have e2 := h.1.2.2.1.2.2.1
    refine ⟨a, ha, ?_, ?_⟩
    · rw [L_X3_victim_6.eq_2, e1]
      simp (disch := omega) only [Bool.false_eq_true, gq_leT, gq_leF, gq_ltT, gq_ltF, gq_eqT, gq_eqF, if_true, if_false]
    · rw [L_X12_victim_4.eq_2, e2]
      simp (disch := omega) only [Bool.false_eq_true, gq_leT, gq_leF, gq_ltT, gq_ltF, gq_eqT, gq_eqF, if_true, if_false]
  | d + 1, f + 1, i, a, c, hf, hi, ha, hc1, hc2 => by
    have o1 := ok.2.1
    have o0 := ok.1
    have e1 := h.1.1.2.1
    have e2 := h.1.2.2.1.2.2.1
    have c1 := h.2.2.2.2.2.2.1 i (by omega)
    by_cases g : μ.1 73 i ≤ c
    · obtain ⟨r, r0, r1, r2⟩ := gy_victL h ok (k := k) (k2 := k2) d f (i + 1) a c (by omega) (by omega) ha hc1 hc2
      refine ⟨r, r0, ?_, ?_⟩
      · rw [← r1, L_X3_victim_6.eq_2, e1]
        simp (disch := omega) only [Int.reduceToNat, gq_lit, gq_neg, gq_add, gq_sub, gq_mul, gq_nat, Int.toNat_natCast, gq_tadd, gq_tmul, gq_lte, gq_br, gq_bd, gq_ck, Bool.false_eq_true, gq_leT, gq_leF, gq_ltT, gq_ltF, gq_eqT, gq_eqF, if_true, if_false]
        rw [if_pos g]
        rfl
      · rw [← r2, L_X12_victim_4.eq_2, e2]
        by_cases z : a = -1
        · rw [hc1 z] at g
          simp (disch := omega) only [Int.reduceToNat, gq_lit, gq_neg, gq_add, gq_sub, gq_mul, gq_nat, Int.toNat_natCast, gq_tadd, gq_tmul, gq_lte, gq_br, gq_bd, gq_ck, Bool.false_eq_true, gq_leT, gq_leF, gq_ltT, gq_ltF, gq_eqT, gq_eqF, if_true, if_false, c1]
          rw [if_pos g]
          rfl
        · have c2 := h.2.2.2.2.2.2.1 a.toNat (by omega)
          rw [hc2 (by omega)] at c2
          simp (disch := omega) only [Int.reduceToNat, gq_lit, gq_neg, gq_add, gq_sub, gq_mul, gq_nat, Int.toNat_natCast, gq_tadd, gq_tmul, gq_lte, gq_br, gq_bd, gq_ck, Bool.false_eq_true, gq_leT, gq_leF, gq_ltT, gq_ltF, gq_eqT, gq_eqF, if_true, if_false, c1, c2]
          rw [if_pos g]
          rfl
    · obtain ⟨r, r0, r1, r2⟩ := gy_victL h ok (k := k) (k2 := k2) d f (i + 1) i (μ.1 73 i) (by omega) (by omega) (by omega) (fun z => absurd z (by omega)) (fun _ => by rw [Int.toNat_natCast])
      refine ⟨r, r0, ?_, ?_⟩
      · rw [← r1, L_X3_victim_6.eq_2, e1]
        simp (disch := omega) only [Int.reduceToNat, gq_lit, gq_neg, gq_add, gq_sub, gq_mul, gq_nat, Int.toNat_natCast, gq_tadd, gq_tmul, gq_lte, gq_br, gq_bd, gq_ck, Bool.false_eq_true, gq_leT, gq_leF, gq_ltT, gq_ltF, gq_eqT, gq_eqF, if_true, if_false]
        rw [if_neg g]
        rfl
      · rw [← r2, L_X12_victim_4.eq_2, e2]
        by_cases z : a = -1
        · rw [hc1 z] at g
          simp (disch := omega) only [Int.reduceToNat, gq_lit, gq_neg, gq_add, gq_sub, gq_mul, gq_nat, Int.toNat_natCast, gq_tadd, gq_tmul, gq_lte, gq_br, gq_bd, gq_ck, Bool.false_eq_true, gq_leT, gq_leF, gq_ltT, gq_ltF, gq_eqT, gq_eqF, if_true, if_false, c1]
          rw [if_neg g]
          rfl
        · have c2 := h.2.2.2.2.2.2.1 a.toNat (by omega)
          rw [hc2 (by omega)] at c2
          simp (disch := omega) only [Int.reduceToNat, gq_lit, gq_neg, gq_add, gq_sub, gq_mul, gq_nat, Int.toNat_natCast, gq_tadd, gq_tmul, gq_lte, gq_br, gq_bd, gq_ck, Bool.false_eq_true, gq_leT, gq_leF, gq_ltT, gq_ltF, gq_eqT, gq_eqF, if_true, if_false, c1, c2]
          rw [if_neg g]
          rfl
theorem gy_vict {μ ν : gx_M} {s : Nat} {w : Nat → Int} (h : gy_R μ ν s w) (ok : gq_okS w) : ∃ r : Int, (-1 ≤ r ∧ r < 4) ∧ f_X3_victim μ = some (gq_I r) ∧ f_X12_victim ν = some (gq_I r) := by
  have o1 := ok.2.1
  have o0 := ok.1
  obtain ⟨r, r0, r1, r2⟩ := gy_victL h ok (k := fun x => some x) (k2 := fun x => some x) (w 1).toNat 4000 0 (-1) (gq_I 0) (by omega) (by omega) (by omega) (fun _ => rfl) (fun z => absurd z (by omega))
  exact ⟨r, r0, r1, r2⟩
theorem gy_restL {μ ν : gx_M} {s : Nat} {w : Nat → Int} (h : gy_R μ ν s w) (ok : gq_okS w) {k k2 : Int32 → Option Int32} : ∀ (d f i : Nat) (a : Int) (c : Int32), d < f → (i : Int) + d = w 0 → -1 ≤ a ∧ a < w 0 → (a = -1 → c = gq_I 0) → (0 ≤ a → μ.1 74 a.toNat = c) → ∃ r : Int, (-1 ≤ r ∧ r < w 0) ∧ L_X3_restless_6 μ k f (gq_I a) c (gq_I i) = k (gq_I r) ∧ L_X12_restless_4 ν k2 f (gq_I a) (gq_I i) = k2 (gq_I r)
  | _, 0, _, _, _, hf, _, _, _, _ => absurd hf (Nat.not_lt_zero _)
  | 0, f + 1, i, a, c, hf, hi, ha, hc1, hc2 => by
    have o1 := ok.2.1
    have o0 := ok.1
    have e1 := h.1.1.1
    have e2 := h.1.2.2.1.2.1
    refine ⟨a, ha, ?_, ?_⟩
    · rw [L_X3_restless_6.eq_2, e1]
      simp (disch := omega) only [Bool.false_eq_true, gq_leT, gq_leF, gq_ltT, gq_ltF, gq_eqT, gq_eqF, if_true, if_false]
    · rw [L_X12_restless_4.eq_2, e2]
      simp (disch := omega) only [Bool.false_eq_true, gq_leT, gq_leF, gq_ltT, gq_ltF, gq_eqT, gq_eqF, if_true, if_false]
  | d + 1, f + 1, i, a, c, hf, hi, ha, hc1, hc2 => by
    have o1 := ok.2.1
    have o0 := ok.1
    have e1 := h.1.1.1
    have e2 := h.1.2.2.1.2.1
    have c1 := h.2.2.2.2.2.2.2.1 i (by omega)
    by_cases g : μ.1 74 i ≤ c
    · obtain ⟨r, r0, r1, r2⟩ := gy_restL h ok (k := k) (k2 := k2) d f (i + 1) a c (by omega) (by omega) ha hc1 hc2
      refine ⟨r, r0, ?_, ?_⟩
      · rw [← r1, L_X3_restless_6.eq_2, e1]
        simp (disch := omega) only [Int.reduceToNat, gq_lit, gq_neg, gq_add, gq_sub, gq_mul, gq_nat, Int.toNat_natCast, gq_tadd, gq_tmul, gq_lte, gq_br, gq_bd, gq_ck, Bool.false_eq_true, gq_leT, gq_leF, gq_ltT, gq_ltF, gq_eqT, gq_eqF, if_true, if_false]
        rw [if_pos g]
        rfl
      · rw [← r2, L_X12_restless_4.eq_2, e2]
        by_cases z : a = -1
        · rw [hc1 z] at g
          simp (disch := omega) only [Int.reduceToNat, gq_lit, gq_neg, gq_add, gq_sub, gq_mul, gq_nat, Int.toNat_natCast, gq_tadd, gq_tmul, gq_lte, gq_br, gq_bd, gq_ck, Bool.false_eq_true, gq_leT, gq_leF, gq_ltT, gq_ltF, gq_eqT, gq_eqF, if_true, if_false, c1]
          rw [if_pos g]
          rfl
        · have c2 := h.2.2.2.2.2.2.2.1 a.toNat (by omega)
          rw [hc2 (by omega)] at c2
          simp (disch := omega) only [Int.reduceToNat, gq_lit, gq_neg, gq_add, gq_sub, gq_mul, gq_nat, Int.toNat_natCast, gq_tadd, gq_tmul, gq_lte, gq_br, gq_bd, gq_ck, Bool.false_eq_true, gq_leT, gq_leF, gq_ltT, gq_ltF, gq_eqT, gq_eqF, if_true, if_false, c1, c2]
          rw [if_pos g]
          rfl
    · obtain ⟨r, r0, r1, r2⟩ := gy_restL h ok (k := k) (k2 := k2) d f (i + 1) i (μ.1 74 i) (by omega) (by omega) (by omega) (fun z => absurd z (by omega)) (fun _ => by rw [Int.toNat_natCast])
      refine ⟨r, r0, ?_, ?_⟩
      · rw [← r1, L_X3_restless_6.eq_2, e1]
        simp (disch := omega) only [Int.reduceToNat, gq_lit, gq_neg, gq_add, gq_sub, gq_mul, gq_nat, Int.toNat_natCast, gq_tadd, gq_tmul, gq_lte, gq_br, gq_bd, gq_ck, Bool.false_eq_true, gq_leT, gq_leF, gq_ltT, gq_ltF, gq_eqT, gq_eqF, if_true, if_false]
        rw [if_neg g]
        rfl
      · rw [← r2, L_X12_restless_4.eq_2, e2]
        by_cases z : a = -1
        · rw [hc1 z] at g
          simp (disch := omega) only [Int.reduceToNat, gq_lit, gq_neg, gq_add, gq_sub, gq_mul, gq_nat, Int.toNat_natCast, gq_tadd, gq_tmul, gq_lte, gq_br, gq_bd, gq_ck, Bool.false_eq_true, gq_leT, gq_leF, gq_ltT, gq_ltF, gq_eqT, gq_eqF, if_true, if_false, c1]
          rw [if_neg g]
          rfl
        · have c2 := h.2.2.2.2.2.2.2.1 a.toNat (by omega)
          rw [hc2 (by omega)] at c2
          simp (disch := omega) only [Int.reduceToNat, gq_lit, gq_neg, gq_add, gq_sub, gq_mul, gq_nat, Int.toNat_natCast, gq_tadd, gq_tmul, gq_lte, gq_br, gq_bd, gq_ck, Bool.false_eq_true, gq_leT, gq_leF, gq_ltT, gq_ltF, gq_eqT, gq_eqF, if_true, if_false, c1, c2]
          rw [if_neg g]
          rfl
theorem gy_rest {μ ν : gx_M} {s : Nat} {w : Nat → Int} (h : gy_R μ ν s w) (ok : gq_okS w) : ∃ r : Int, (-1 ≤ r ∧ r < w 0) ∧ f_X3_restless μ = some (gq_I r) ∧ f_X12_restless ν = some (gq_I r) := by
  have o1 := ok.2.1
  have o0 := ok.1
  obtain ⟨r, r0, r1, r2⟩ := gy_restL h ok (k := fun x => some x) (k2 := fun x => some x) (w 0).toNat 4000 0 (-1) (gq_I 0) (by omega) (by omega) (by omega) (fun _ => rfl) (fun z => absurd z (by omega))
  exact ⟨r, r0, r1, r2⟩
