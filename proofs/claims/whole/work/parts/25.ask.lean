/-! questions of what is told: street, deed, fact -/
theorem gq_div_neg {a b : Int} (h : (-2147483648 ≤ a ∧ a < 0) ∧ 0 < b ∧ b < 2147483648) : gq_I a / gq_I b = gq_I (-(-a / b)) := by
  rw [show -(-a / b) = Int.tdiv a b by
    rw [← Int.tdiv_eq_ediv_of_nonneg (by omega), Int.neg_tdiv, Int.neg_neg]]
  have e1 : Int32.minValue.toInt = -2147483648 := rfl
  have e2 : Int32.maxValue.toInt = 2147483647 := rfl
  exact (Int32.ofInt_tdiv (by omega) (by omega) (by omega) (by omega)).symm
theorem gq_hasS {μ : gx_M} {N : Nat} {z : Int} (h : μ.1 2 0 = gq_I N) (hN : N ≤ 2) (hz : -2147483648 ≤ z ∧ z < 2147483648) : f_X11_hasStreet (gq_I z) μ = some (decide (0 ≤ z ∧ z < N)) := by
  unfold f_X11_hasStreet
  rw [h]
  simp (disch := omega) only [gq_lit, gq_lt, gq_le]
  by_cases h1 : z < 0
  · rw [if_pos h1, decide_eq_false (by omega)]
  · rw [if_neg h1]
    by_cases h2 : (N : Int) ≤ z
    · rw [if_pos h2, decide_eq_false (by omega)]
    · rw [if_neg h2, decide_eq_true (by omega)]
theorem gq_hasY {μ : gx_M} {N : Nat} {z : Int} (h : μ.1 2 1 = gq_I N) (hN : N ≤ 2) (hz : -2147483648 ≤ z ∧ z < 2147483648) : f_X11_hasYear (gq_I z) μ = some (decide (0 ≤ z ∧ z < N)) := by
  unfold f_X11_hasYear
  rw [h]
  simp (disch := omega) only [gq_lit, gq_lt, gq_le]
  by_cases h1 : z < 0
  · rw [if_pos h1, decide_eq_false (by omega)]
  · rw [if_neg h1]
    by_cases h2 : (N : Int) ≤ z
    · rw [if_pos h2, decide_eq_false (by omega)]
    · rw [if_neg h2, decide_eq_true (by omega)]
theorem gq_hasG {μ : gx_M} {N : Nat} {z : Int} (h : μ.1 2 2 = gq_I N) (hN : N ≤ 2) (hz : -2147483648 ≤ z ∧ z < 2147483648) : f_X11_hasLog (gq_I z) μ = some (decide (0 ≤ z ∧ z < N)) := by
  unfold f_X11_hasLog
  rw [h]
  simp (disch := omega) only [gq_lit, gq_lt, gq_le]
  by_cases h1 : z < 0
  · rw [if_pos h1, decide_eq_false (by omega)]
  · rw [if_neg h1]
    by_cases h2 : (N : Int) ≤ z
    · rw [if_pos h2, decide_eq_false (by omega)]
    · rw [if_neg h2, decide_eq_true (by omega)]
theorem gq_hasV {μ : gx_M} {N : Nat} {z : Int} (h : μ.1 2 3 = gq_I N) (hN : N ≤ 2) (hz : -2147483648 ≤ z ∧ z < 2147483648) : f_X11_hasSwaps (gq_I z) μ = some (decide (0 ≤ z ∧ z < N)) := by
  unfold f_X11_hasSwaps
  rw [h]
  simp (disch := omega) only [gq_lit, gq_lt, gq_le]
  by_cases h1 : z < 0
  · rw [if_pos h1, decide_eq_false (by omega)]
  · rw [if_neg h1]
    by_cases h2 : (N : Int) ≤ z
    · rw [if_pos h2, decide_eq_false (by omega)]
    · rw [if_neg h2, decide_eq_true (by omega)]
theorem gq_ltF' {p : Int32} {b : Bool} (h : b = true) : (b = true) = True := eq_true h
/-- what the class and the check say of part x of a street -/
theorem gq_partS {μ ν : gx_M} {a s : Nat} {w : Nat → Int} {x : Int} (ok : gq_okS w) (hx : -2147483648 ≤ x ∧ x < 2147483648) (hc : gq_cS μ a w) (hs : s < 8) (hh : gq_hd ν s w) (K : Int32 → gx_M → Option (Int32 × gx_M)) : ∃ r, (if gq_I x = 0 then some (μ.1 a 0) else if gq_I x = 1 then some (μ.1 a 1) else if gq_I x = 2 then some (μ.1 a 2) else gx_br (f_X11_partOfStreet a (gq_I x) μ) (fun (r8 : Int32) => some r8)) = some r ∧ (gx_lt (gq_I x - gq_I x / 10 * 10) (fun (x5 : Int32) => if gq_I x < 100 then gx_lt (gq_I x / 10) (fun (t7 : Int32) => if t7 = 0 then if (f_X12_in (gq_I x) 0 2) = true then gx_br (f_X12_of (gq_I x) ν) (fun (r10 : Int32) => some (r10, ν)) else some ((-2), ν) else if t7 = 1 then if (ν.1 206 26) ≤ x5 then some ((-2), ν) else gx_ck (gx_ix x5 4 = true) (some ((ν.1 218 x5.toNatClampNeg), ν)) else if t7 = 2 then if (ν.1 206 27) ≤ x5 then some ((-2), ν) else gx_br (f_X12_of (((7 : Int32) + ((6 : Int32) * ((gq_I x / 10) - 2))) + x5) ν) (fun (r16 : Int32) => some (r16, ν)) else if t7 = 3 then if (ν.1 206 27) ≤ x5 then some ((-2), ν) else gx_br (f_X12_of (((7 : Int32) + ((6 : Int32) * ((gq_I x / 10) - 2))) + x5) ν) (fun (r19 : Int32) => some (r19, ν)) else if t7 = 4 then if (ν.1 206 27) ≤ x5 then some ((-2), ν) else gx_br (f_X12_of (((7 : Int32) + ((6 : Int32) * ((gq_I x / 10) - 2))) + x5) ν) (fun (r22 : Int32) => some (r22, ν)) else if t7 = 5 then if (ν.1 206 27) ≤ x5 then some ((-2), ν) else gx_br (f_X12_of (((7 : Int32) + ((6 : Int32) * ((gq_I x / 10) - 2))) + x5) ν) (fun (r25 : Int32) => some (r25, ν)) else some ((-2), ν)) else gx_lt (gq_I x - gq_I x / 100 * 100) (fun (x26 : Int32) => if (ν.1 206 25) ≤ x26 then some ((-2), ν) else if gq_I x < 300 then if 200 ≤ gq_I x then gx_ck (gx_ix x26 40 = true) (some ((ν.1 220 x26.toNatClampNeg), ν)) else gx_ck (gx_ix x26 40 = true) (some ((ν.1 219 x26.toNatClampNeg), ν)) else some ((-2), ν)))) = some (r, ν) := by
  obtain ⟨⟨c0, c1, c2⟩, c3, c4, c5, c6⟩ := hc
  obtain ⟨⟨m0, m1, m2, m3, m4⟩, m5, m6, m7, m8, m9, mw⟩ := hh
  obtain ⟨o0, o1, o2, o3, o4, o5, o6⟩ := ok
  have mo := fun {z : Int} (hz : 0 ≤ z ∧ z < 111) => gq_xof m0 hs mw (z := z) hz
  unfold f_X11_partOfStreet
  by_cases k1 : x < 0
  · refine ⟨gq_I (-2), ?_, ?_⟩
    · simp (disch := omega) only [Int.reduceToNat, gq_lit, gq_neg, gq_add, gq_sub, gq_mul, gq_nat, Int.toNat_natCast, gq_tadd, gq_tmul, gq_lte, gq_br, gq_bd, gq_ck, gq_leT, gq_leF, gq_ltT, gq_ltF, gq_eqT, gq_eqF, if_true, if_false, c0, c1, c2, gq_amF]
    · by_cases k2 : x ≤ -10
      · simp (disch := omega) only [Int.reduceToNat, gq_lit, gq_neg, gq_add, gq_sub, gq_mul, gq_nat, Int.toNat_natCast, gq_tadd, gq_tmul, gq_lte, gq_br, gq_bd, gq_ck, gq_leT, gq_leF, gq_ltT, gq_ltF, gq_eqT, gq_eqF, if_true, if_false, gq_div_neg]
      · simp (disch := omega) only [Int.reduceToNat, gq_lit, gq_neg, gq_add, gq_sub, gq_mul, gq_nat, Int.toNat_natCast, gq_tadd, gq_tmul, gq_lte, gq_br, gq_bd, gq_ck, gq_leT, gq_leF, gq_ltT, gq_ltF, gq_eqT, gq_eqF, if_true, if_false, gq_div_neg, gq_inF]
  by_cases k2 : x < 3
  · refine ⟨gq_I (w x.toNat), ?_, ?_⟩
    · by_cases k3 : x = 0
      · subst k3; simp (disch := omega) only [Int.reduceToNat, gq_lit, gq_neg, gq_add, gq_sub, gq_mul, gq_nat, Int.toNat_natCast, gq_tadd, gq_tmul, gq_lte, gq_br, gq_bd, gq_ck, gq_leT, gq_leF, gq_ltT, gq_ltF, gq_eqT, gq_eqF, if_true, if_false, c0, c1, c2]
      by_cases k3 : x = 1
      · subst k3; simp (disch := omega) only [Int.reduceToNat, gq_lit, gq_neg, gq_add, gq_sub, gq_mul, gq_nat, Int.toNat_natCast, gq_tadd, gq_tmul, gq_lte, gq_br, gq_bd, gq_ck, gq_leT, gq_leF, gq_ltT, gq_ltF, gq_eqT, gq_eqF, if_true, if_false, c0, c1, c2]
      · have k4 : x = 2 := by omega
        subst k4; simp (disch := omega) only [Int.reduceToNat, gq_lit, gq_neg, gq_add, gq_sub, gq_mul, gq_nat, Int.toNat_natCast, gq_tadd, gq_tmul, gq_lte, gq_br, gq_bd, gq_ck, gq_leT, gq_leF, gq_ltT, gq_ltF, gq_eqT, gq_eqF, if_true, if_false, c0, c1, c2]
    · simp (disch := omega) only [Int.reduceToNat, gq_lit, gq_neg, gq_add, gq_sub, gq_mul, gq_nat, Int.toNat_natCast, gq_tadd, gq_tmul, gq_lte, gq_br, gq_bd, gq_ck, gq_leT, gq_leF, gq_ltT, gq_ltF, gq_eqT, gq_eqF, if_true, if_false, gq_div, gq_inT, mo]
  by_cases k3 : x < 10
  · refine ⟨gq_I (-2), ?_, ?_⟩
    · simp (disch := omega) only [Int.reduceToNat, gq_lit, gq_neg, gq_add, gq_sub, gq_mul, gq_nat, Int.toNat_natCast, gq_tadd, gq_tmul, gq_lte, gq_br, gq_bd, gq_ck, gq_leT, gq_leF, gq_ltT, gq_ltF, gq_eqT, gq_eqF, if_true, if_false, c0, c1, c2, gq_amF]
    · simp (disch := omega) only [Int.reduceToNat, gq_lit, gq_neg, gq_add, gq_sub, gq_mul, gq_nat, Int.toNat_natCast, gq_tadd, gq_tmul, gq_lte, gq_br, gq_bd, gq_ck, gq_leT, gq_leF, gq_ltT, gq_ltF, gq_eqT, gq_eqF, if_true, if_false, gq_div, gq_inF]
  by_cases k4 : x < 20
  · have e1 : x - x / 10 * 10 = x - 10 := by omega
    by_cases k5 : x - 10 < w 1
    · refine ⟨gq_I (w (3 + (x - 10).toNat)), ?_, ?_⟩
      · simp (disch := omega) only [Int.reduceToNat, gq_lit, gq_neg, gq_add, gq_sub, gq_mul, gq_nat, Int.toNat_natCast, gq_tadd, gq_tmul, gq_lte, gq_br, gq_bd, gq_ck, gq_leT, gq_leF, gq_ltT, gq_ltF, gq_eqT, gq_eqF, if_true, if_false, c0, c1, c2, gq_amF, gq_amT, c3]
      · simp (disch := omega) only [Int.reduceToNat, gq_lit, gq_neg, gq_add, gq_sub, gq_mul, gq_nat, Int.toNat_natCast, gq_tadd, gq_tmul, gq_lte, gq_br, gq_bd, gq_ck, gq_leT, gq_leF, gq_ltT, gq_ltF, gq_eqT, gq_eqF, if_true, if_false, gq_div, e1, m2, m5]
    · refine ⟨gq_I (-2), ?_, ?_⟩
      · simp (disch := omega) only [Int.reduceToNat, gq_lit, gq_neg, gq_add, gq_sub, gq_mul, gq_nat, Int.toNat_natCast, gq_tadd, gq_tmul, gq_lte, gq_br, gq_bd, gq_ck, gq_leT, gq_leF, gq_ltT, gq_ltF, gq_eqT, gq_eqF, if_true, if_false, c0, c1, c2, gq_amF]
      · simp (disch := omega) only [Int.reduceToNat, gq_lit, gq_neg, gq_add, gq_sub, gq_mul, gq_nat, Int.toNat_natCast, gq_tadd, gq_tmul, gq_lte, gq_br, gq_bd, gq_ck, gq_leT, gq_leF, gq_ltT, gq_ltF, gq_eqT, gq_eqF, if_true, if_false, gq_div, e1, m2]
  by_cases k4 : x < 30
  · have e1 : x - x / 10 * 10 = x - 20 := by omega
    have e2 : (7 : Int) + 6 * (x / 10 - 2) + (x - 20) = 7 + (x - 20) := by omega
    by_cases k5 : x - 20 < w 2
    · have c7 := (c6 (x - 20).toNat (by omega)).1
      refine ⟨gq_I (w (7 + (x - 20).toNat)), ?_, ?_⟩
      · simp (disch := omega) only [Int.reduceToNat, gq_lit, gq_neg, gq_add, gq_sub, gq_mul, gq_nat, Int.toNat_natCast, gq_tadd, gq_tmul, gq_lte, gq_br, gq_bd, gq_ck, gq_leT, gq_leF, gq_ltT, gq_ltF, gq_eqT, gq_eqF, if_true, if_false, c0, c1, c2, gq_amF, gq_amT, c7]
      · simp (disch := omega) only [Int.reduceToNat, gq_lit, gq_neg, gq_add, gq_sub, gq_mul, gq_nat, Int.toNat_natCast, gq_tadd, gq_tmul, gq_lte, gq_br, gq_bd, gq_ck, gq_leT, gq_leF, gq_ltT, gq_ltF, gq_eqT, gq_eqF, if_true, if_false, gq_div, e1, e2, m3, mo]
    · refine ⟨gq_I (-2), ?_, ?_⟩
      · simp (disch := omega) only [Int.reduceToNat, gq_lit, gq_neg, gq_add, gq_sub, gq_mul, gq_nat, Int.toNat_natCast, gq_tadd, gq_tmul, gq_lte, gq_br, gq_bd, gq_ck, gq_leT, gq_leF, gq_ltT, gq_ltF, gq_eqT, gq_eqF, if_true, if_false, c0, c1, c2, gq_amF]
      · simp (disch := omega) only [Int.reduceToNat, gq_lit, gq_neg, gq_add, gq_sub, gq_mul, gq_nat, Int.toNat_natCast, gq_tadd, gq_tmul, gq_lte, gq_br, gq_bd, gq_ck, gq_leT, gq_leF, gq_ltT, gq_ltF, gq_eqT, gq_eqF, if_true, if_false, gq_div, e1, m3]
  by_cases k4 : x < 40
  · have e1 : x - x / 10 * 10 = x - 30 := by omega
    have e2 : (7 : Int) + 6 * (x / 10 - 2) + (x - 30) = 13 + (x - 30) := by omega
    by_cases k5 : x - 30 < w 2
    · have c7 := (c6 (x - 30).toNat (by omega)).2.1
      refine ⟨gq_I (w (13 + (x - 30).toNat)), ?_, ?_⟩
      · simp (disch := omega) only [Int.reduceToNat, gq_lit, gq_neg, gq_add, gq_sub, gq_mul, gq_nat, Int.toNat_natCast, gq_tadd, gq_tmul, gq_lte, gq_br, gq_bd, gq_ck, gq_leT, gq_leF, gq_ltT, gq_ltF, gq_eqT, gq_eqF, if_true, if_false, c0, c1, c2, gq_amF, gq_amT, c7]
      · simp (disch := omega) only [Int.reduceToNat, gq_lit, gq_neg, gq_add, gq_sub, gq_mul, gq_nat, Int.toNat_natCast, gq_tadd, gq_tmul, gq_lte, gq_br, gq_bd, gq_ck, gq_leT, gq_leF, gq_ltT, gq_ltF, gq_eqT, gq_eqF, if_true, if_false, gq_div, e1, e2, m3, mo]
    · refine ⟨gq_I (-2), ?_, ?_⟩
      · simp (disch := omega) only [Int.reduceToNat, gq_lit, gq_neg, gq_add, gq_sub, gq_mul, gq_nat, Int.toNat_natCast, gq_tadd, gq_tmul, gq_lte, gq_br, gq_bd, gq_ck, gq_leT, gq_leF, gq_ltT, gq_ltF, gq_eqT, gq_eqF, if_true, if_false, c0, c1, c2, gq_amF]
      · simp (disch := omega) only [Int.reduceToNat, gq_lit, gq_neg, gq_add, gq_sub, gq_mul, gq_nat, Int.toNat_natCast, gq_tadd, gq_tmul, gq_lte, gq_br, gq_bd, gq_ck, gq_leT, gq_leF, gq_ltT, gq_ltF, gq_eqT, gq_eqF, if_true, if_false, gq_div, e1, m3]
  by_cases k4 : x < 50
  · have e1 : x - x / 10 * 10 = x - 40 := by omega
    have e2 : (7 : Int) + 6 * (x / 10 - 2) + (x - 40) = 19 + (x - 40) := by omega
    by_cases k5 : x - 40 < w 2
    · have c7 := (c6 (x - 40).toNat (by omega)).2.2.1
      refine ⟨gq_I (w (19 + (x - 40).toNat)), ?_, ?_⟩
      · simp (disch := omega) only [Int.reduceToNat, gq_lit, gq_neg, gq_add, gq_sub, gq_mul, gq_nat, Int.toNat_natCast, gq_tadd, gq_tmul, gq_lte, gq_br, gq_bd, gq_ck, gq_leT, gq_leF, gq_ltT, gq_ltF, gq_eqT, gq_eqF, if_true, if_false, c0, c1, c2, gq_amF, gq_amT, c7]
      · simp (disch := omega) only [Int.reduceToNat, gq_lit, gq_neg, gq_add, gq_sub, gq_mul, gq_nat, Int.toNat_natCast, gq_tadd, gq_tmul, gq_lte, gq_br, gq_bd, gq_ck, gq_leT, gq_leF, gq_ltT, gq_ltF, gq_eqT, gq_eqF, if_true, if_false, gq_div, e1, e2, m3, mo]
    · refine ⟨gq_I (-2), ?_, ?_⟩
      · simp (disch := omega) only [Int.reduceToNat, gq_lit, gq_neg, gq_add, gq_sub, gq_mul, gq_nat, Int.toNat_natCast, gq_tadd, gq_tmul, gq_lte, gq_br, gq_bd, gq_ck, gq_leT, gq_leF, gq_ltT, gq_ltF, gq_eqT, gq_eqF, if_true, if_false, c0, c1, c2, gq_amF]
      · simp (disch := omega) only [Int.reduceToNat, gq_lit, gq_neg, gq_add, gq_sub, gq_mul, gq_nat, Int.toNat_natCast, gq_tadd, gq_tmul, gq_lte, gq_br, gq_bd, gq_ck, gq_leT, gq_leF, gq_ltT, gq_ltF, gq_eqT, gq_eqF, if_true, if_false, gq_div, e1, m3]
  by_cases k4 : x < 60
  · have e1 : x - x / 10 * 10 = x - 50 := by omega
    have e2 : (7 : Int) + 6 * (x / 10 - 2) + (x - 50) = 25 + (x - 50) := by omega
    by_cases k5 : x - 50 < w 2
    · have c7 := (c6 (x - 50).toNat (by omega)).2.2.2
      refine ⟨gq_I (w (25 + (x - 50).toNat)), ?_, ?_⟩
      · simp (disch := omega) only [Int.reduceToNat, gq_lit, gq_neg, gq_add, gq_sub, gq_mul, gq_nat, Int.toNat_natCast, gq_tadd, gq_tmul, gq_lte, gq_br, gq_bd, gq_ck, gq_leT, gq_leF, gq_ltT, gq_ltF, gq_eqT, gq_eqF, if_true, if_false, c0, c1, c2, gq_amF, gq_amT, c7]
      · simp (disch := omega) only [Int.reduceToNat, gq_lit, gq_neg, gq_add, gq_sub, gq_mul, gq_nat, Int.toNat_natCast, gq_tadd, gq_tmul, gq_lte, gq_br, gq_bd, gq_ck, gq_leT, gq_leF, gq_ltT, gq_ltF, gq_eqT, gq_eqF, if_true, if_false, gq_div, e1, e2, m3, mo]
    · refine ⟨gq_I (-2), ?_, ?_⟩
      · simp (disch := omega) only [Int.reduceToNat, gq_lit, gq_neg, gq_add, gq_sub, gq_mul, gq_nat, Int.toNat_natCast, gq_tadd, gq_tmul, gq_lte, gq_br, gq_bd, gq_ck, gq_leT, gq_leF, gq_ltT, gq_ltF, gq_eqT, gq_eqF, if_true, if_false, c0, c1, c2, gq_amF]
      · simp (disch := omega) only [Int.reduceToNat, gq_lit, gq_neg, gq_add, gq_sub, gq_mul, gq_nat, Int.toNat_natCast, gq_tadd, gq_tmul, gq_lte, gq_br, gq_bd, gq_ck, gq_leT, gq_leF, gq_ltT, gq_ltF, gq_eqT, gq_eqF, if_true, if_false, gq_div, e1, m3]
  by_cases k4 : x < 100
  · refine ⟨gq_I (-2), ?_, ?_⟩
    · simp (disch := omega) only [Int.reduceToNat, gq_lit, gq_neg, gq_add, gq_sub, gq_mul, gq_nat, Int.toNat_natCast, gq_tadd, gq_tmul, gq_lte, gq_br, gq_bd, gq_ck, gq_leT, gq_leF, gq_ltT, gq_ltF, gq_eqT, gq_eqF, if_true, if_false, c0, c1, c2, gq_amF]
    · simp (disch := omega) only [Int.reduceToNat, gq_lit, gq_neg, gq_add, gq_sub, gq_mul, gq_nat, Int.toNat_natCast, gq_tadd, gq_tmul, gq_lte, gq_br, gq_bd, gq_ck, gq_leT, gq_leF, gq_ltT, gq_ltF, gq_eqT, gq_eqF, if_true, if_false, gq_div]
  by_cases k6 : x < 200
  · have e1 : x - x / 100 * 100 = x - 100 := by omega
    by_cases k5 : x - 100 < w 0
    · refine ⟨gq_I (w (31 + (x - 100).toNat)), ?_, ?_⟩
      · simp (disch := omega) only [Int.reduceToNat, gq_lit, gq_neg, gq_add, gq_sub, gq_mul, gq_nat, Int.toNat_natCast, gq_tadd, gq_tmul, gq_lte, gq_br, gq_bd, gq_ck, gq_leT, gq_leF, gq_ltT, gq_ltF, gq_eqT, gq_eqF, if_true, if_false, c0, c1, c2, gq_amF, gq_amT, c4]
      · simp (disch := omega) only [Int.reduceToNat, gq_lit, gq_neg, gq_add, gq_sub, gq_mul, gq_nat, Int.toNat_natCast, gq_tadd, gq_tmul, gq_lte, gq_br, gq_bd, gq_ck, gq_leT, gq_leF, gq_ltT, gq_ltF, gq_eqT, gq_eqF, if_true, if_false, gq_div, e1, m1, m6]
    · refine ⟨gq_I (-2), ?_, ?_⟩
      · simp (disch := omega) only [Int.reduceToNat, gq_lit, gq_neg, gq_add, gq_sub, gq_mul, gq_nat, Int.toNat_natCast, gq_tadd, gq_tmul, gq_lte, gq_br, gq_bd, gq_ck, gq_leT, gq_leF, gq_ltT, gq_ltF, gq_eqT, gq_eqF, if_true, if_false, c0, c1, c2, gq_amF]
      · simp (disch := omega) only [Int.reduceToNat, gq_lit, gq_neg, gq_add, gq_sub, gq_mul, gq_nat, Int.toNat_natCast, gq_tadd, gq_tmul, gq_lte, gq_br, gq_bd, gq_ck, gq_leT, gq_leF, gq_ltT, gq_ltF, gq_eqT, gq_eqF, if_true, if_false, gq_div, e1, m1]
  by_cases k7 : x < 300
  · have e1 : x - x / 100 * 100 = x - 200 := by omega
    by_cases k5 : x - 200 < w 0
    · refine ⟨gq_I (w (71 + (x - 200).toNat)), ?_, ?_⟩
      · simp (disch := omega) only [Int.reduceToNat, gq_lit, gq_neg, gq_add, gq_sub, gq_mul, gq_nat, Int.toNat_natCast, gq_tadd, gq_tmul, gq_lte, gq_br, gq_bd, gq_ck, gq_leT, gq_leF, gq_ltT, gq_ltF, gq_eqT, gq_eqF, if_true, if_false, c0, c1, c2, gq_amF, gq_amT, c5]
      · simp (disch := omega) only [Int.reduceToNat, gq_lit, gq_neg, gq_add, gq_sub, gq_mul, gq_nat, Int.toNat_natCast, gq_tadd, gq_tmul, gq_lte, gq_br, gq_bd, gq_ck, gq_leT, gq_leF, gq_ltT, gq_ltF, gq_eqT, gq_eqF, if_true, if_false, gq_div, e1, m1, m7]
    · refine ⟨gq_I (-2), ?_, ?_⟩
      · simp (disch := omega) only [Int.reduceToNat, gq_lit, gq_neg, gq_add, gq_sub, gq_mul, gq_nat, Int.toNat_natCast, gq_tadd, gq_tmul, gq_lte, gq_br, gq_bd, gq_ck, gq_leT, gq_leF, gq_ltT, gq_ltF, gq_eqT, gq_eqF, if_true, if_false, c0, c1, c2, gq_amF]
      · simp (disch := omega) only [Int.reduceToNat, gq_lit, gq_neg, gq_add, gq_sub, gq_mul, gq_nat, Int.toNat_natCast, gq_tadd, gq_tmul, gq_lte, gq_br, gq_bd, gq_ck, gq_leT, gq_leF, gq_ltT, gq_ltF, gq_eqT, gq_eqF, if_true, if_false, gq_div, e1, m1]
  · refine ⟨gq_I (-2), ?_, ?_⟩
    · simp (disch := omega) only [Int.reduceToNat, gq_lit, gq_neg, gq_add, gq_sub, gq_mul, gq_nat, Int.toNat_natCast, gq_tadd, gq_tmul, gq_lte, gq_br, gq_bd, gq_ck, gq_leT, gq_leF, gq_ltT, gq_ltF, gq_eqT, gq_eqF, if_true, if_false, c0, c1, c2, gq_amF]
    · by_cases k5 : x - x / 100 * 100 < w 0
      · simp (disch := omega) only [Int.reduceToNat, gq_lit, gq_neg, gq_add, gq_sub, gq_mul, gq_nat, Int.toNat_natCast, gq_tadd, gq_tmul, gq_lte, gq_br, gq_bd, gq_ck, gq_leT, gq_leF, gq_ltT, gq_ltF, gq_eqT, gq_eqF, if_true, if_false, gq_div, m1]
      · simp (disch := omega) only [Int.reduceToNat, gq_lit, gq_neg, gq_add, gq_sub, gq_mul, gq_nat, Int.toNat_natCast, gq_tadd, gq_tmul, gq_lte, gq_br, gq_bd, gq_ck, gq_leT, gq_leF, gq_ltT, gq_ltF, gq_eqT, gq_eqF, if_true, if_false, gq_div, m1]
theorem gq_e_street {μ : gx_M} (hI : gq_inv μ) (p1 p2 : Int32) : ∃ r μ2, f_X11_street p1 p2 μ = some r ∧ f_X12_street p1 p2 μ = some (r, μ2) ∧ gq_inv μ2 := by
  obtain ⟨z, hz, rfl⟩ := gq_ex p1
  obtain ⟨x, hx, rfl⟩ := gq_ex p2
  have hT := hI.1
  obtain ⟨tp, n, f, q, N, W, Y, G, V, ok, hc, hm⟩ := hT
  rw [gq_ad_0] at hc
  have n0 := ok.2.2.1 0 (by omega)
  have c1 : μ.1 2 0 = gq_I (N 0) := hc.2.2.1 0 (by omega)
  have m1 : μ.1 211 0 = gq_I (N 0) := hm.2.2.1 0 (by omega)
  by_cases h : 0 ≤ z ∧ z < N 0
  · have m2 : gq_mS (gx_uI μ 206 0 (gq_I 0)) z.toNat (W z.toNat) := by
      have := hm.2.2.2.1 z.toNat (by omega)
      rw [show 2 * 0 + z.toNat = z.toNat by omega] at this
      exact this
    have c2 : gq_cS μ (8 + 16 * z.toNat) (W z.toNat) := hc.2.2.2.1 z.toNat (by omega)
    obtain ⟨μ2, a1, a2, a3, a4⟩ := gq_hand (μ := gx_uI μ 206 0 (gq_I 0)) (z := z) n0 m1 h m2
    obtain ⟨r, b1, b2⟩ := gq_partS (ok.2.2.2.1 z.toNat (by omega)) hx c2 (by omega) a2 (fun _ _ => none)
    refine ⟨r, μ2, ?_, ?_, gq_inv_m hI (gq_sm_tr (gq_sm_uI gq_Pm206 gq_sm_rf) a3)⟩
    · unfold f_X11_street
      rw [gq_hasS c1 n0 hz, decide_eq_true h]
      simp (disch := omega) only [gq_lte, gq_br, gq_ck, gq_nat, if_true]
      exact b1
    · unfold f_X12_street
      rw [gq_lte, gq_lit, a1, gq_bd, if_pos rfl]
      exact b2
  · refine ⟨gq_I (-2), gx_uI μ 206 0 (gq_I 0), ?_, ?_, gq_inv_m hI (gq_sm_uI gq_Pm206 gq_sm_rf)⟩
    · unfold f_X11_street
      rw [gq_hasS c1 n0 hz, decide_eq_false h]
      rfl
    · unfold f_X12_street
      rw [gq_lte, gq_lit, gq_hand_no (μ := gx_uI μ 206 0 (gq_I 0)) n0 m1 hz h]
      rfl
