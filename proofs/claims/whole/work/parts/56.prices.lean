/-! prices, on both sides -/
theorem gy_prices {μ ν : gx_M} {s : Nat} {w : Nat → Int} (h : gy_R μ ν s w) (ok : gq_okS w) {m d : Int} (hm : -2147483648 ≤ m ∧ m < 2147483648) (hd : -1 ≤ d ∧ d ≤ 1) : gy_st (f_X3_changesPrice (gq_I m) (gq_I d)) (f_X12_prices (gq_I m) (gq_I d)) μ ν s w := by
  obtain ⟨_, _, t3, t4⟩ := gy_there h ok (p := 0) (by omega) hm
  have o0 := ok.1
  by_cases g : 0 ≤ m ∧ m < w 0
  · have e3 := t3.2 g
    have e4 := t4.2 g
    obtain ⟨j, rfl⟩ : ∃ j : Nat, m = j := ⟨m.toNat, by omega⟩
    obtain ⟨_, _, h3, _⟩ := id h
    obtain ⟨c, hc, hc1, hc2⟩ := h3 j (by omega)
    have eI : (f_X12_in (gq_I (c + d)) (gq_I 0) (gq_I 9) = true) = (0 ≤ c + d ∧ c + d ≤ 9) := by
      first | rw [gq_in (by omega)] | exact propext (gq_in (by omega))
    by_cases a : 0 ≤ c + d ∧ c + d ≤ 9
    · have eF : f_X3_changesPrice (gq_I j) (gq_I d) μ = some (true, gx_uI μ 65 j (gq_I (c + d))) := by
        unfold f_X3_changesPrice
        rw [if_pos e4]
        simp (disch := omega) only [Int.reduceToNat, gq_lit, gq_neg, gq_add, gq_sub, gq_mul, gq_nat, Int.toNat_natCast, gq_tadd, gq_tmul, gq_lte, gq_br, gq_bd, gq_ck, Bool.false_eq_true, gq_leT, gq_leF, gq_ltT, gq_ltF, gq_eqT, gq_eqF, if_true, if_false, hc1]
      have eG : f_X12_prices (gq_I j) (gq_I d) ν = some (true, gx_uI ν 219 j (gq_I (c + d))) := by
        unfold f_X12_prices
        rw [if_pos e3]
        simp (disch := omega) only [Int.reduceToNat, gq_lit, gq_neg, gq_add, gq_sub, gq_mul, gq_nat, Int.toNat_natCast, gq_tadd, gq_tmul, gq_lte, gq_br, gq_bd, gq_ck, hc2]
        exact if_pos (eI.symm ▸ a)
      exact ⟨_, _, _, eF, eG, gy_price h a, gy_kc_u (by omega), gy_km_u (by omega)⟩
    · refine gy_no h ?_ ?_
      · unfold f_X3_changesPrice
        rw [if_pos e4]
        by_cases b : c + d < 0
        · simp (disch := omega) only [Int.reduceToNat, gq_lit, gq_neg, gq_add, gq_sub, gq_mul, gq_nat, Int.toNat_natCast, gq_tadd, gq_tmul, gq_lte, gq_br, gq_bd, gq_ck, Bool.false_eq_true, gq_leT, gq_leF, gq_ltT, gq_ltF, gq_eqT, gq_eqF, if_true, if_false, hc1]
        · simp (disch := omega) only [Int.reduceToNat, gq_lit, gq_neg, gq_add, gq_sub, gq_mul, gq_nat, Int.toNat_natCast, gq_tadd, gq_tmul, gq_lte, gq_br, gq_bd, gq_ck, Bool.false_eq_true, gq_leT, gq_leF, gq_ltT, gq_ltF, gq_eqT, gq_eqF, if_true, if_false, hc1]
      · unfold f_X12_prices
        rw [if_pos e3]
        simp (disch := omega) only [Int.reduceToNat, gq_lit, gq_neg, gq_add, gq_sub, gq_mul, gq_nat, Int.toNat_natCast, gq_tadd, gq_tmul, gq_lte, gq_br, gq_bd, gq_ck, hc2]
        exact if_neg (eI.symm ▸ a)
  · refine gy_no h ?_ ?_
    · unfold f_X3_changesPrice
      rw [if_neg fun g2 => g (t4.1 g2)]
    · unfold f_X12_prices
      rw [if_neg fun g2 => g (t3.1 g2)]
theorem gy_up (p y x : Int) (ν : gx_M) : f_X12_does (gq_I 5) (gq_I p) (gq_I y) (gq_I x) ν = f_X12_prices (gq_I p) (gq_I 1) ν := by
  unfold f_X12_does
  simp (disch := omega) only [gq_lit, gq_neg, Bool.false_eq_true, gq_leT, gq_leF, gq_ltT, gq_ltF, gq_eqT, gq_eqF, if_true, if_false]
  exact gy_bds _
theorem gy_down (p y x : Int) (ν : gx_M) : f_X12_does (gq_I 6) (gq_I p) (gq_I y) (gq_I x) ν = f_X12_prices (gq_I p) (gq_I (-1)) ν := by
  unfold f_X12_does
  simp (disch := omega) only [gq_lit, gq_neg, Bool.false_eq_true, gq_leT, gq_leF, gq_ltT, gq_ltF, gq_eqT, gq_eqF, if_true, if_false]
  exact gy_bds _
theorem gy_task (p y x : Int) (ν : gx_M) : f_X12_does (gq_I 4) (gq_I p) (gq_I y) (gq_I x) ν = f_X12_doesTask (gq_I p) (gq_I y) (gq_I x) ν := by
  unfold f_X12_does
  simp (disch := omega) only [gq_lit, gq_neg, Bool.false_eq_true, gq_leT, gq_leF, gq_ltT, gq_ltF, gq_eqT, gq_eqF, if_true, if_false]
  exact gy_bds _
