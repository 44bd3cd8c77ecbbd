/-! the deeds of a play, on both sides -/
def gy_st (F G : gx_M → Option (Bool × gx_M)) (μ ν : gx_M) (s : Nat) (w : Nat → Int) : Prop := ∃ r μ' ν', F μ = some (r, μ') ∧ G ν = some (r, ν') ∧ gy_R μ' ν' s w ∧ gy_kc μ μ' ∧ gy_km ν ν'
theorem gy_kc_r (μ : gx_M) : gy_kc μ μ := ⟨fun _ _ => rfl, rfl, rfl⟩
theorem gy_km_r (μ : gx_M) : gy_km μ μ := ⟨fun _ _ _ _ => rfl, rfl⟩
theorem gy_no {F G : gx_M → Option (Bool × gx_M)} {μ ν : gx_M} {s : Nat} {w : Nat → Int} (h : gy_R μ ν s w) (h1 : F μ = some (false, μ)) (h2 : G ν = some (false, ν)) : gy_st F G μ ν s w := ⟨false, μ, ν, h1, h2, h, gy_kc_r μ, gy_km_r ν⟩
theorem gy_bds (x : Option (Bool × gx_M)) : gx_bd x (fun (r : Bool) (μ : gx_M) => some (r, μ)) = x := by cases x <;> rfl
/-- the check's four deeds of a person upon a minute -/
theorem gy_does {ν : gx_M} {k p m x : Int} (hk : 0 ≤ k ∧ k ≤ 3) (h1 : f_X12_isPerson (gq_I p) ν = true) (h2 : f_X12_isMinute (gq_I m) ν = true) (hm : 0 ≤ m ∧ m < 40) : f_X12_does (gq_I k) (gq_I p) (gq_I m) (gq_I x) ν = if ν.1 221 m.toNat = gq_I 0 then (if k = 0 then f_X12_buys (gq_I p) (gq_I m) ν else if k = 2 then f_X12_steals (gq_I p) (gq_I m) ν else if k = 3 then f_X12_sells (gq_I p) (gq_I m) ν else f_X12_thinks (gq_I p) (gq_I m) ν) else some (false, ν) := by
  unfold f_X12_does
  simp (disch := omega) only [Int.reduceToNat, gq_lit, gq_neg, gq_add, gq_sub, gq_mul, gq_nat, Int.toNat_natCast, gq_tadd, gq_tmul, gq_lte, gq_br, gq_bd, gq_ck, Bool.false_eq_true, gq_leT, gq_leF, gq_ltT, gq_ltF, gq_eqT, gq_eqF, if_true, if_false]
  rw [if_pos h1, if_pos h2]
  by_cases g : ν.1 221 m.toNat = gq_I 0
  · rw [if_pos g, if_pos g, gy_bds, gy_bds, gy_bds, gy_bds]
    by_cases k0 : k = 0
    · simp (disch := omega) only [Bool.false_eq_true, gq_leT, gq_leF, gq_ltT, gq_ltF, gq_eqT, gq_eqF, if_true, if_false, gq_ifT]
    · by_cases k2 : k = 2
      · simp (disch := omega) only [Bool.false_eq_true, gq_leT, gq_leF, gq_ltT, gq_ltF, gq_eqT, gq_eqF, if_true, if_false, gq_ifT, gq_ifF]
      · by_cases k3 : k = 3
        · simp (disch := omega) only [Bool.false_eq_true, gq_leT, gq_leF, gq_ltT, gq_ltF, gq_eqT, gq_eqF, if_true, if_false, gq_ifT, gq_ifF]
        · simp (disch := omega) only [Bool.false_eq_true, gq_leT, gq_leF, gq_ltT, gq_ltF, gq_eqT, gq_eqF, if_true, if_false, gq_ifT, gq_ifF]
  · rw [if_neg g, if_neg g]
theorem gy_not {ν : gx_M} {k p m x : Int} (hk : 0 ≤ k ∧ k ≤ 3) (h : ¬ (f_X12_isPerson (gq_I p) ν = true ∧ f_X12_isMinute (gq_I m) ν = true)) : f_X12_does (gq_I k) (gq_I p) (gq_I m) (gq_I x) ν = some (false, ν) := by
  unfold f_X12_does
  simp (disch := omega) only [Int.reduceToNat, gq_lit, gq_neg, gq_add, gq_sub, gq_mul, gq_nat, Int.toNat_natCast, gq_tadd, gq_tmul, gq_lte, gq_br, gq_bd, gq_ck, Bool.false_eq_true, gq_leT, gq_leF, gq_ltT, gq_ltF, gq_eqT, gq_eqF, if_true, if_false]
  by_cases g1 : f_X12_isPerson (gq_I p) ν = true
  · rw [if_pos g1, if_neg fun g2 => h ⟨g1, g2⟩]
  · rw [if_neg g1]
theorem gy_thinks {μ ν : gx_M} {s : Nat} {w : Nat → Int} (h : gy_R μ ν s w) (ok : gq_okS w) {p m x : Int} (hp : -2147483648 ≤ p ∧ p < 2147483648) (hm : -2147483648 ≤ m ∧ m < 2147483648) : gy_st (f_X3_thinks (gq_I p) (gq_I m)) (f_X12_does (gq_I 1) (gq_I p) (gq_I m) (gq_I x)) μ ν s w := by
  obtain ⟨t1, t2, t3, _⟩ := gy_there h ok hp hm
  have o0 := ok.1
  have o1 := ok.2.1
  by_cases g : (0 ≤ p ∧ p < w 1) ∧ 0 ≤ m ∧ m < w 0
  · have e1 := t1.2 g
    obtain ⟨j, rfl⟩ : ∃ j : Nat, m = j := ⟨m.toNat, by omega⟩
    obtain ⟨i, rfl⟩ : ∃ i : Nat, p = i := ⟨p.toNat, by omega⟩
    have e2 := gy_does (x := x) (k := 1) (by omega) (t2.2 g.1) (t3.2 g.2) (by omega)
    obtain ⟨_, _, _, h4, h5, _, _, _, t, ht, ht1, ht2⟩ := id h
    obtain ⟨o, ho, ho1, ho2⟩ := h4 j (by omega)
    obtain ⟨u, hu, hu1, hu2⟩ := h5 j (by omega)
    have eF : f_X3_thinks (gq_I i) (gq_I j) μ = if o = i ∧ u = 0 then (if t = -1 then some (true, gx_uI (gx_uI μ 71 j (gq_I 1)) 62 5 (gq_I i)) else some (true, gx_uI μ 71 j (gq_I 1))) else some (false, μ) := by
      unfold f_X3_thinks f_X3_isFreeOf
      rw [if_pos e1]
      by_cases a : o = i
      · by_cases b : u = 0
        · rw [if_pos (c := o = i ∧ u = 0) ⟨a, b⟩]
          by_cases c : t = -1
          · simp (disch := omega) only [Int.reduceToNat, gq_lit, gq_neg, gq_add, gq_sub, gq_mul, gq_nat, Int.toNat_natCast, gq_tadd, gq_tmul, gq_lte, gq_br, gq_bd, gq_ck, Bool.false_eq_true, gq_leT, gq_leF, gq_ltT, gq_ltF, gq_eqT, gq_eqF, if_true, if_false, gq_uI1, gq_uI2, gq_uL1, gq_uL2, Nat.reduceEqDiff, false_and, and_false, and_true, true_and, ho1, hu1, ht1, gq_biT, gq_ifT, gq_ifF]
          · simp (disch := omega) only [Int.reduceToNat, gq_lit, gq_neg, gq_add, gq_sub, gq_mul, gq_nat, Int.toNat_natCast, gq_tadd, gq_tmul, gq_lte, gq_br, gq_bd, gq_ck, Bool.false_eq_true, gq_leT, gq_leF, gq_ltT, gq_ltF, gq_eqT, gq_eqF, if_true, if_false, gq_uI1, gq_uI2, gq_uL1, gq_uL2, Nat.reduceEqDiff, false_and, and_false, and_true, true_and, ho1, hu1, ht1, gq_biT, gq_ifT, gq_ifF]
        · rw [if_neg (c := o = i ∧ u = 0) (by omega)]
          simp (disch := omega) only [Int.reduceToNat, gq_lit, gq_neg, gq_add, gq_sub, gq_mul, gq_nat, Int.toNat_natCast, gq_tadd, gq_tmul, gq_lte, gq_br, gq_bd, gq_ck, Bool.false_eq_true, gq_leT, gq_leF, gq_ltT, gq_ltF, gq_eqT, gq_eqF, if_true, if_false, gq_uI1, gq_uI2, gq_uL1, gq_uL2, Nat.reduceEqDiff, false_and, and_false, and_true, true_and, ho1, hu1, ht1, gq_biT, gq_ifT, gq_ifF]
      · rw [if_neg (c := o = i ∧ u = 0) (by omega)]
        simp (disch := omega) only [Int.reduceToNat, gq_lit, gq_neg, gq_add, gq_sub, gq_mul, gq_nat, Int.toNat_natCast, gq_tadd, gq_tmul, gq_lte, gq_br, gq_bd, gq_ck, Bool.false_eq_true, gq_leT, gq_leF, gq_ltT, gq_ltF, gq_eqT, gq_eqF, if_true, if_false, gq_uI1, gq_uI2, gq_uL1, gq_uL2, Nat.reduceEqDiff, false_and, and_false, and_true, true_and, ho1, hu1, ht1, gq_biT, gq_ifT, gq_ifF]
    have eG : f_X12_does (gq_I 1) (gq_I i) (gq_I j) (gq_I x) ν = if o = i ∧ u = 0 then (if t = -1 then some (true, gx_uI (gx_uI ν 221 j (gq_I 1)) 206 34 (gq_I i)) else some (true, gx_uI (gx_uI ν 221 j (gq_I 1)) 206 34 (gq_I t))) else some (false, ν) := by
      rw [e2]
      unfold f_X12_thinks
      by_cases b : u = 0
      · by_cases a : o = i
        · rw [if_pos (c := o = i ∧ u = 0) ⟨a, b⟩]
          by_cases c : t = -1
          · simp (disch := omega) only [Int.reduceToNat, gq_lit, gq_neg, gq_add, gq_sub, gq_mul, gq_nat, Int.toNat_natCast, gq_tadd, gq_tmul, gq_lte, gq_br, gq_bd, gq_ck, Bool.false_eq_true, gq_leT, gq_leF, gq_ltT, gq_ltF, gq_eqT, gq_eqF, if_true, if_false, gq_uI1, gq_uI2, gq_uL1, gq_uL2, Nat.reduceEqDiff, false_and, and_false, and_true, true_and, ho2, hu2, ht2, gq_biT, gq_ifT, gq_ifF]
          · simp (disch := omega) only [Int.reduceToNat, gq_lit, gq_neg, gq_add, gq_sub, gq_mul, gq_nat, Int.toNat_natCast, gq_tadd, gq_tmul, gq_lte, gq_br, gq_bd, gq_ck, Bool.false_eq_true, gq_leT, gq_leF, gq_ltT, gq_ltF, gq_eqT, gq_eqF, if_true, if_false, gq_uI1, gq_uI2, gq_uL1, gq_uL2, Nat.reduceEqDiff, false_and, and_false, and_true, true_and, ho2, hu2, ht2, gq_biT, gq_ifT, gq_ifF]
        · rw [if_neg (c := o = i ∧ u = 0) (by omega)]
          simp (disch := omega) only [Int.reduceToNat, gq_lit, gq_neg, gq_add, gq_sub, gq_mul, gq_nat, Int.toNat_natCast, gq_tadd, gq_tmul, gq_lte, gq_br, gq_bd, gq_ck, Bool.false_eq_true, gq_leT, gq_leF, gq_ltT, gq_ltF, gq_eqT, gq_eqF, if_true, if_false, gq_uI1, gq_uI2, gq_uL1, gq_uL2, Nat.reduceEqDiff, false_and, and_false, and_true, true_and, ho2, hu2, ht2, gq_biT, gq_ifT, gq_ifF]
      · rw [if_neg (c := o = i ∧ u = 0) (by omega)]
        simp (disch := omega) only [Int.reduceToNat, gq_lit, gq_neg, gq_add, gq_sub, gq_mul, gq_nat, Int.toNat_natCast, gq_tadd, gq_tmul, gq_lte, gq_br, gq_bd, gq_ck, Bool.false_eq_true, gq_leT, gq_leF, gq_ltT, gq_ltF, gq_eqT, gq_eqF, if_true, if_false, gq_uI1, gq_uI2, gq_uL1, gq_uL2, Nat.reduceEqDiff, false_and, and_false, and_true, true_and, ho2, hu2, ht2, gq_biT, gq_ifT, gq_ifF]
    by_cases a : o = i ∧ u = 0
    · rw [if_pos a] at eF eG
      by_cases c : t = -1
      · rw [if_pos c] at eF eG
        exact ⟨_, _, _, eF, eG, gy_think (gy_use h j) (by omega), gy_kc_tr (gy_kc_u (by omega)) (gy_kc_u (by omega)), gy_km_tr (gy_km_u (by omega)) (gy_km_u (by omega))⟩
      · rw [if_neg c] at eF eG
        refine ⟨_, _, _, eF, eG, ?_, gy_kc_u (by omega), gy_km_tr (gy_km_u (by omega)) (gy_km_u (by omega))⟩
        have e3 : gx_uI (gx_uI ν 221 j (gq_I 1)) 206 34 (gq_I t) = gx_uI ν 221 j (gq_I 1) := gq_uI_id (by rw [gq_uI1, if_neg (by omega)]; exact ht2)
        rw [e3]
        exact gy_use h j
    · rw [if_neg a] at eF eG
      exact gy_no h eF eG
  · refine gy_no h ?_ (gy_not (by omega) fun g2 => g ⟨t2.1 g2.1, t3.1 g2.2⟩)
    unfold f_X3_thinks
    rw [if_neg fun g2 => g (t1.1 g2)]
theorem gy_sells {μ ν : gx_M} {s : Nat} {w : Nat → Int} (h : gy_R μ ν s w) (ok : gq_okS w) {p m x : Int} (hp : -2147483648 ≤ p ∧ p < 2147483648) (hm : -2147483648 ≤ m ∧ m < 2147483648) : gy_st (f_X3_sells (gq_I p) (gq_I m)) (f_X12_does (gq_I 3) (gq_I p) (gq_I m) (gq_I x)) μ ν s w := by
  obtain ⟨t1, t2, t3, _⟩ := gy_there h ok hp hm
  have o0 := ok.1
  have o1 := ok.2.1
  by_cases g : (0 ≤ p ∧ p < w 1) ∧ 0 ≤ m ∧ m < w 0
  · have e1 := t1.2 g
    obtain ⟨j, rfl⟩ : ∃ j : Nat, m = j := ⟨m.toNat, by omega⟩
    obtain ⟨i, rfl⟩ : ∃ i : Nat, p = i := ⟨p.toNat, by omega⟩
    have e2 := gy_does (x := x) (k := 3) (by omega) (t2.2 g.1) (t3.2 g.2) (by omega)
    obtain ⟨_, h2, h3, h4, h5, _, _, h8, _⟩ := id h
    obtain ⟨o, ho, ho1, ho2⟩ := h4 j (by omega)
    obtain ⟨u, hu, hu1, hu2⟩ := h5 j (by omega)
    obtain ⟨c, hc, hc1, hc2⟩ := h3 j (by omega)
    have h2 := h2 i (by omega)
    have h8 := h8 j (by omega)
    have eF : f_X3_sells (gq_I i) (gq_I j) μ = if o = i ∧ u = 0 then some (true, gx_uI (gx_uI (gx_uI μ 64 i (μ.1 64 i + gq_I c)) 66 j (gq_I (-1))) 74 j (μ.1 74 j + gq_I 1)) else some (false, μ) := by
      unfold f_X3_sells f_X3_isFreeOf f_X3_moveTo
      rw [if_pos e1]
      by_cases a : o = i
      · by_cases b : u = 0
        · rw [if_pos (c := o = i ∧ u = 0) ⟨a, b⟩]
          simp (disch := omega) only [Int.reduceToNat, gq_lit, gq_neg, gq_add, gq_sub, gq_mul, gq_nat, Int.toNat_natCast, gq_tadd, gq_tmul, gq_lte, gq_br, gq_bd, gq_ck, Bool.false_eq_true, gq_leT, gq_leF, gq_ltT, gq_ltF, gq_eqT, gq_eqF, if_true, if_false, gq_uI1, gq_uI2, gq_uL1, gq_uL2, Nat.reduceEqDiff, false_and, and_false, and_true, true_and, ho1, hu1, hc1, Nat.reduceEqDiff, false_and, if_false]
        · rw [if_neg (c := o = i ∧ u = 0) (by omega)]
          simp (disch := omega) only [Int.reduceToNat, gq_lit, gq_neg, gq_add, gq_sub, gq_mul, gq_nat, Int.toNat_natCast, gq_tadd, gq_tmul, gq_lte, gq_br, gq_bd, gq_ck, Bool.false_eq_true, gq_leT, gq_leF, gq_ltT, gq_ltF, gq_eqT, gq_eqF, if_true, if_false, gq_uI1, gq_uI2, gq_uL1, gq_uL2, Nat.reduceEqDiff, false_and, and_false, and_true, true_and, ho1, hu1, gq_ifT, gq_ifF]
      · rw [if_neg (c := o = i ∧ u = 0) (by omega)]
        simp (disch := omega) only [Int.reduceToNat, gq_lit, gq_neg, gq_add, gq_sub, gq_mul, gq_nat, Int.toNat_natCast, gq_tadd, gq_tmul, gq_lte, gq_br, gq_bd, gq_ck, Bool.false_eq_true, gq_leT, gq_leF, gq_ltT, gq_ltF, gq_eqT, gq_eqF, if_true, if_false, gq_uI1, gq_uI2, gq_uL1, gq_uL2, Nat.reduceEqDiff, false_and, and_false, and_true, true_and, ho1, hu1, gq_ifT, gq_ifF]
    have eG : f_X12_does (gq_I 3) (gq_I i) (gq_I j) (gq_I x) ν = if o = i ∧ u = 0 then some (true, gx_uI (gx_uI (gx_uI ν 218 i (μ.1 64 i + gq_I c)) 220 j (gq_I (-1))) 224 j (μ.1 74 j + gq_I 1)) else some (false, ν) := by
      rw [e2]
      unfold f_X12_sells
      by_cases b : u = 0
      · by_cases a : o = i
        · rw [if_pos (c := o = i ∧ u = 0) ⟨a, b⟩, ← gq_uI_comm (a := 220) (b := 218) (by omega)]
          simp (disch := omega) only [Int.reduceToNat, gq_lit, gq_neg, gq_add, gq_sub, gq_mul, gq_nat, Int.toNat_natCast, gq_tadd, gq_tmul, gq_lte, gq_br, gq_bd, gq_ck, Bool.false_eq_true, gq_leT, gq_leF, gq_ltT, gq_ltF, gq_eqT, gq_eqF, if_true, if_false, gq_uI1, gq_uI2, gq_uL1, gq_uL2, Nat.reduceEqDiff, false_and, and_false, and_true, true_and, ho2, hu2, hc2, h2, h8, gq_ifT, gq_ifF]
        · rw [if_neg (c := o = i ∧ u = 0) (by omega)]
          simp (disch := omega) only [Int.reduceToNat, gq_lit, gq_neg, gq_add, gq_sub, gq_mul, gq_nat, Int.toNat_natCast, gq_tadd, gq_tmul, gq_lte, gq_br, gq_bd, gq_ck, Bool.false_eq_true, gq_leT, gq_leF, gq_ltT, gq_ltF, gq_eqT, gq_eqF, if_true, if_false, gq_uI1, gq_uI2, gq_uL1, gq_uL2, Nat.reduceEqDiff, false_and, and_false, and_true, true_and, ho2, hu2, gq_ifT, gq_ifF]
      · rw [if_neg (c := o = i ∧ u = 0) (by omega)]
        simp (disch := omega) only [Int.reduceToNat, gq_lit, gq_neg, gq_add, gq_sub, gq_mul, gq_nat, Int.toNat_natCast, gq_tadd, gq_tmul, gq_lte, gq_br, gq_bd, gq_ck, Bool.false_eq_true, gq_leT, gq_leF, gq_ltT, gq_ltF, gq_eqT, gq_eqF, if_true, if_false, gq_uI1, gq_uI2, gq_uL1, gq_uL2, Nat.reduceEqDiff, false_and, and_false, and_true, true_and, ho2, hu2, gq_ifT, gq_ifF]
    by_cases a : o = i ∧ u = 0
    · rw [if_pos a] at eF eG
      refine ⟨_, _, _, eF, eG, ?_, gy_kc_tr (gy_kc_tr (gy_kc_u (by omega)) (gy_kc_u (by omega))) (gy_kc_u (by omega)), gy_km_tr (gy_km_tr (gy_km_u (by omega)) (gy_km_u (by omega))) (gy_km_u (by omega))⟩
      have r := gy_move (gy_coin h i (μ.1 64 i + gq_I c)) (m := j) (o := -1) (by omega) (by omega)
      rw [gq_uI1, if_neg (by omega), gq_uI1, if_neg (by omega), h8] at r
      exact r
    · rw [if_neg a] at eF eG
      exact gy_no h eF eG
  · refine gy_no h ?_ (gy_not (by omega) fun g2 => g ⟨t2.1 g2.1, t3.1 g2.2⟩)
    unfold f_X3_sells
    rw [if_neg fun g2 => g (t1.1 g2)]
theorem gy_steals {μ ν : gx_M} {s : Nat} {w : Nat → Int} (h : gy_R μ ν s w) (ok : gq_okS w) {p m x : Int} (hp : -2147483648 ≤ p ∧ p < 2147483648) (hm : -2147483648 ≤ m ∧ m < 2147483648) : gy_st (f_X3_steals (gq_I p) (gq_I m)) (f_X12_does (gq_I 2) (gq_I p) (gq_I m) (gq_I x)) μ ν s w := by
  obtain ⟨t1, t2, t3, _⟩ := gy_there h ok hp hm
  have o0 := ok.1
  have o1 := ok.2.1
  by_cases g : (0 ≤ p ∧ p < w 1) ∧ 0 ≤ m ∧ m < w 0
  · have e1 := t1.2 g
    obtain ⟨j, rfl⟩ : ∃ j : Nat, m = j := ⟨m.toNat, by omega⟩
    obtain ⟨i, rfl⟩ : ∃ i : Nat, p = i := ⟨p.toNat, by omega⟩
    have e2 := gy_does (x := x) (k := 2) (by omega) (t2.2 g.1) (t3.2 g.2) (by omega)
    obtain ⟨_, _, _, h4, h5, _, h7, h8, _⟩ := id h
    obtain ⟨o, ho, ho1, ho2⟩ := h4 j (by omega)
    obtain ⟨u, hu, hu1, hu2⟩ := h5 j (by omega)
    have h8 := h8 j (by omega)
    by_cases b : u = 0
    · by_cases a : 0 ≤ o
      · obtain ⟨q, rfl⟩ : ∃ q : Nat, o = q := ⟨o.toNat, by omega⟩
        have h7 := h7 q (by omega)
        by_cases c : (q : Int) = i
        · refine gy_no h ?_ ?_
          · unfold f_X3_steals
            rw [if_pos e1]
            simp (disch := omega) only [Int.reduceToNat, gq_lit, gq_neg, gq_add, gq_sub, gq_mul, gq_nat, Int.toNat_natCast, gq_tadd, gq_tmul, gq_lte, gq_br, gq_bd, gq_ck, Bool.false_eq_true, gq_leT, gq_leF, gq_ltT, gq_ltF, gq_eqT, gq_eqF, if_true, if_false, gq_uI1, gq_uI2, gq_uL1, gq_uL2, Nat.reduceEqDiff, false_and, and_false, and_true, true_and, ho1, hu1, gq_ifT, gq_ifF]
          · rw [e2]
            unfold f_X12_steals
            simp (disch := omega) only [Int.reduceToNat, gq_lit, gq_neg, gq_add, gq_sub, gq_mul, gq_nat, Int.toNat_natCast, gq_tadd, gq_tmul, gq_lte, gq_br, gq_bd, gq_ck, Bool.false_eq_true, gq_leT, gq_leF, gq_ltT, gq_ltF, gq_eqT, gq_eqF, if_true, if_false, gq_uI1, gq_uI2, gq_uL1, gq_uL2, Nat.reduceEqDiff, false_and, and_false, and_true, true_and, ho2, hu2, gq_ifT, gq_ifF]
        · have eF : f_X3_steals (gq_I i) (gq_I j) μ = some (true, gx_uI (gx_uI (gx_uI μ 73 q (μ.1 73 q + gq_I 1)) 66 j (gq_I i)) 74 j (μ.1 74 j + gq_I 1)) := by
            unfold f_X3_steals f_X3_moveTo
            rw [if_pos e1]
            simp (disch := omega) only [Int.reduceToNat, gq_lit, gq_neg, gq_add, gq_sub, gq_mul, gq_nat, Int.toNat_natCast, gq_tadd, gq_tmul, gq_lte, gq_br, gq_bd, gq_ck, Bool.false_eq_true, gq_leT, gq_leF, gq_ltT, gq_ltF, gq_eqT, gq_eqF, if_true, if_false, gq_uI1, gq_uI2, gq_uL1, gq_uL2, Nat.reduceEqDiff, false_and, and_false, and_true, true_and, ho1, hu1, gq_ifT, gq_ifF, Nat.reduceEqDiff, false_and, if_false]
          have eG : f_X12_does (gq_I 2) (gq_I i) (gq_I j) (gq_I x) ν = some (true, gx_uI (gx_uI (gx_uI ν 223 q (μ.1 73 q + gq_I 1)) 220 j (gq_I i)) 224 j (μ.1 74 j + gq_I 1)) := by
            rw [e2]
            unfold f_X12_steals
            simp (disch := omega) only [Int.reduceToNat, gq_lit, gq_neg, gq_add, gq_sub, gq_mul, gq_nat, Int.toNat_natCast, gq_tadd, gq_tmul, gq_lte, gq_br, gq_bd, gq_ck, Bool.false_eq_true, gq_leT, gq_leF, gq_ltT, gq_ltF, gq_eqT, gq_eqF, if_true, if_false, gq_uI1, gq_uI2, gq_uL1, gq_uL2, Nat.reduceEqDiff, false_and, and_false, and_true, true_and, ho2, hu2, h7, h8, gq_ifT, gq_ifF, Nat.reduceEqDiff, false_and, if_false]
          refine ⟨_, _, _, eF, eG, ?_, gy_kc_tr (gy_kc_tr (gy_kc_u (by omega)) (gy_kc_u (by omega))) (gy_kc_u (by omega)), gy_km_tr (gy_km_tr (gy_km_u (by omega)) (gy_km_u (by omega))) (gy_km_u (by omega))⟩
          have r := gy_move (gy_stol h q (μ.1 73 q + gq_I 1)) (m := j) (o := i) (by omega) (by omega)
          rw [gq_uI1, if_neg (by omega), gq_uI1, if_neg (by omega), h8] at r
          exact r
      · refine gy_no h ?_ ?_
        · unfold f_X3_steals
          rw [if_pos e1]
          simp (disch := omega) only [Int.reduceToNat, gq_lit, gq_neg, gq_add, gq_sub, gq_mul, gq_nat, Int.toNat_natCast, gq_tadd, gq_tmul, gq_lte, gq_br, gq_bd, gq_ck, Bool.false_eq_true, gq_leT, gq_leF, gq_ltT, gq_ltF, gq_eqT, gq_eqF, if_true, if_false, gq_uI1, gq_uI2, gq_uL1, gq_uL2, Nat.reduceEqDiff, false_and, and_false, and_true, true_and, ho1, hu1, gq_ifT, gq_ifF]
        · rw [e2]
          unfold f_X12_steals
          simp (disch := omega) only [Int.reduceToNat, gq_lit, gq_neg, gq_add, gq_sub, gq_mul, gq_nat, Int.toNat_natCast, gq_tadd, gq_tmul, gq_lte, gq_br, gq_bd, gq_ck, Bool.false_eq_true, gq_leT, gq_leF, gq_ltT, gq_ltF, gq_eqT, gq_eqF, if_true, if_false, gq_uI1, gq_uI2, gq_uL1, gq_uL2, Nat.reduceEqDiff, false_and, and_false, and_true, true_and, ho2, hu2, gq_ifT, gq_ifF]
    · refine gy_no h ?_ ?_
      · unfold f_X3_steals
        rw [if_pos e1]
        simp (disch := omega) only [Int.reduceToNat, gq_lit, gq_neg, gq_add, gq_sub, gq_mul, gq_nat, Int.toNat_natCast, gq_tadd, gq_tmul, gq_lte, gq_br, gq_bd, gq_ck, Bool.false_eq_true, gq_leT, gq_leF, gq_ltT, gq_ltF, gq_eqT, gq_eqF, if_true, if_false, gq_uI1, gq_uI2, gq_uL1, gq_uL2, Nat.reduceEqDiff, false_and, and_false, and_true, true_and, ho1, hu1, gq_ifT, gq_ifF]
      · rw [e2]
        simp (disch := omega) only [Int.toNat_natCast, Bool.false_eq_true, gq_leT, gq_leF, gq_ltT, gq_ltF, gq_eqT, gq_eqF, if_true, if_false, hu2, gq_ifT, gq_ifF]
  · refine gy_no h ?_ (gy_not (by omega) fun g2 => g ⟨t2.1 g2.1, t3.1 g2.2⟩)
    unfold f_X3_steals
    rw [if_neg fun g2 => g (t1.1 g2)]
theorem gy_buys {μ ν : gx_M} {s : Nat} {w : Nat → Int} (h : gy_R μ ν s w) (ok : gq_okS w) {p m x : Int} (hp : -2147483648 ≤ p ∧ p < 2147483648) (hm : -2147483648 ≤ m ∧ m < 2147483648) : gy_st (f_X3_buys (gq_I p) (gq_I m)) (f_X12_does (gq_I 0) (gq_I p) (gq_I m) (gq_I x)) μ ν s w := by
  obtain ⟨t1, t2, t3, _⟩ := gy_there h ok hp hm
  have o0 := ok.1
  have o1 := ok.2.1
  by_cases g : (0 ≤ p ∧ p < w 1) ∧ 0 ≤ m ∧ m < w 0
  · have e1 := t1.2 g
    obtain ⟨j, rfl⟩ : ∃ j : Nat, m = j := ⟨m.toNat, by omega⟩
    obtain ⟨i, rfl⟩ : ∃ i : Nat, p = i := ⟨p.toNat, by omega⟩
    have e2 := gy_does (x := x) (k := 0) (by omega) (t2.2 g.1) (t3.2 g.2) (by omega)
    obtain ⟨_, h2, h3, h4, h5, _, _, h8, _⟩ := id h
    obtain ⟨o, ho, ho1, ho2⟩ := h4 j (by omega)
    obtain ⟨u, hu, hu1, hu2⟩ := h5 j (by omega)
    obtain ⟨c, hc, hc1, hc2⟩ := h3 j (by omega)
    have h8 := h8 j (by omega)
    have h2i := h2 i (by omega)
    by_cases b : u = 0
    · by_cases a : o = i
      · refine gy_no h ?_ ?_
        · unfold f_X3_buys
          rw [if_pos e1]
          simp (disch := omega) only [Int.reduceToNat, gq_lit, gq_neg, gq_add, gq_sub, gq_mul, gq_nat, Int.toNat_natCast, gq_tadd, gq_tmul, gq_lte, gq_br, gq_bd, gq_ck, Bool.false_eq_true, gq_leT, gq_leF, gq_ltT, gq_ltF, gq_eqT, gq_eqF, if_true, if_false, gq_uI1, gq_uI2, gq_uL1, gq_uL2, Nat.reduceEqDiff, false_and, and_false, and_true, true_and, ho1, hu1, gq_ifT, gq_ifF]
        · rw [e2]
          unfold f_X12_buys
          simp (disch := omega) only [Int.reduceToNat, gq_lit, gq_neg, gq_add, gq_sub, gq_mul, gq_nat, Int.toNat_natCast, gq_tadd, gq_tmul, gq_lte, gq_br, gq_bd, gq_ck, Bool.false_eq_true, gq_leT, gq_leF, gq_ltT, gq_ltF, gq_eqT, gq_eqF, if_true, if_false, gq_uI1, gq_uI2, gq_uL1, gq_uL2, Nat.reduceEqDiff, false_and, and_false, and_true, true_and, ho2, hu2, gq_ifT, gq_ifF]
      · by_cases d : gq_I c ≤ μ.1 64 i
        · have f1 : ∀ X Y : Option (Bool × gx_M), (if gq_I c ≤ μ.1 64 i then X else Y) = X := fun X Y => if_pos d
          by_cases e : 0 ≤ o
          · obtain ⟨q, rfl⟩ : ∃ q : Nat, o = q := ⟨o.toNat, by omega⟩
            have hqi : q ≠ i := by omega
            have h2q := h2 q (by omega)
            have eF : f_X3_buys (gq_I i) (gq_I j) μ = some (true, gx_uI (gx_uI (gx_uI (gx_uI μ 64 i (μ.1 64 i - gq_I c)) 64 q (μ.1 64 q + gq_I c)) 66 j (gq_I i)) 74 j (μ.1 74 j + gq_I 1)) := by
              unfold f_X3_buys f_X3_moveTo
              rw [if_pos e1]
              simp (disch := omega) only [Int.reduceToNat, gq_lit, gq_neg, gq_add, gq_sub, gq_mul, gq_nat, Int.toNat_natCast, gq_tadd, gq_tmul, gq_lte, gq_br, gq_bd, gq_ck, Bool.false_eq_true, gq_leT, gq_leF, gq_ltT, gq_ltF, gq_eqT, gq_eqF, if_true, if_false, gq_uI1, gq_uI2, gq_uL1, gq_uL2, Nat.reduceEqDiff, false_and, and_false, and_true, true_and, ho1, hu1, hc1, f1, gq_ifT, gq_ifF, Nat.reduceEqDiff, false_and, if_false]
            have eG : f_X12_does (gq_I 0) (gq_I i) (gq_I j) (gq_I x) ν = some (true, gx_uI (gx_uI (gx_uI (gx_uI ν 218 i (μ.1 64 i - gq_I c)) 218 q (μ.1 64 q + gq_I c)) 220 j (gq_I i)) 224 j (μ.1 74 j + gq_I 1)) := by
              rw [e2]
              unfold f_X12_buys
              simp (disch := omega) only [Int.reduceToNat, gq_lit, gq_neg, gq_add, gq_sub, gq_mul, gq_nat, Int.toNat_natCast, gq_tadd, gq_tmul, gq_lte, gq_br, gq_bd, gq_ck, Bool.false_eq_true, gq_leT, gq_leF, gq_ltT, gq_ltF, gq_eqT, gq_eqF, if_true, if_false, gq_uI1, gq_uI2, gq_uL1, gq_uL2, Nat.reduceEqDiff, false_and, and_false, and_true, true_and, ho2, hu2, hc2, h2i, h2q, h8, f1, gq_ifT, gq_ifF, Nat.reduceEqDiff, false_and, if_false]
            refine ⟨_, _, _, eF, eG, ?_, gy_kc_tr (gy_kc_tr (gy_kc_tr (gy_kc_u (by omega)) (gy_kc_u (by omega))) (gy_kc_u (by omega))) (gy_kc_u (by omega)), gy_km_tr (gy_km_tr (gy_km_tr (gy_km_u (by omega)) (gy_km_u (by omega))) (gy_km_u (by omega))) (gy_km_u (by omega))⟩
            have r := gy_move (gy_coin (gy_coin h i (μ.1 64 i - gq_I c)) q (μ.1 64 q + gq_I c)) (m := j) (o := i) (by omega) (by omega)
            rw [gq_uI1, if_neg (by omega), gq_uI1, if_neg (by omega), gq_uI1, if_neg (by omega), gq_uI1, if_neg (by omega), h8] at r
            exact r
          · have eF : f_X3_buys (gq_I i) (gq_I j) μ = some (true, gx_uI (gx_uI (gx_uI μ 64 i (μ.1 64 i - gq_I c)) 66 j (gq_I i)) 74 j (μ.1 74 j + gq_I 1)) := by
              unfold f_X3_buys f_X3_moveTo
              rw [if_pos e1]
              simp (disch := omega) only [Int.reduceToNat, gq_lit, gq_neg, gq_add, gq_sub, gq_mul, gq_nat, Int.toNat_natCast, gq_tadd, gq_tmul, gq_lte, gq_br, gq_bd, gq_ck, Bool.false_eq_true, gq_leT, gq_leF, gq_ltT, gq_ltF, gq_eqT, gq_eqF, if_true, if_false, gq_uI1, gq_uI2, gq_uL1, gq_uL2, Nat.reduceEqDiff, false_and, and_false, and_true, true_and, ho1, hu1, hc1, f1, gq_ifT, gq_ifF, Nat.reduceEqDiff, false_and, if_false]
            have eG : f_X12_does (gq_I 0) (gq_I i) (gq_I j) (gq_I x) ν = some (true, gx_uI (gx_uI (gx_uI ν 218 i (μ.1 64 i - gq_I c)) 220 j (gq_I i)) 224 j (μ.1 74 j + gq_I 1)) := by
              rw [e2]
              unfold f_X12_buys
              simp (disch := omega) only [Int.reduceToNat, gq_lit, gq_neg, gq_add, gq_sub, gq_mul, gq_nat, Int.toNat_natCast, gq_tadd, gq_tmul, gq_lte, gq_br, gq_bd, gq_ck, Bool.false_eq_true, gq_leT, gq_leF, gq_ltT, gq_ltF, gq_eqT, gq_eqF, if_true, if_false, gq_uI1, gq_uI2, gq_uL1, gq_uL2, Nat.reduceEqDiff, false_and, and_false, and_true, true_and, ho2, hu2, hc2, h2i, h8, f1, gq_ifT, gq_ifF, Nat.reduceEqDiff, false_and, if_false]
            refine ⟨_, _, _, eF, eG, ?_, gy_kc_tr (gy_kc_tr (gy_kc_u (by omega)) (gy_kc_u (by omega))) (gy_kc_u (by omega)), gy_km_tr (gy_km_tr (gy_km_u (by omega)) (gy_km_u (by omega))) (gy_km_u (by omega))⟩
            have r := gy_move (gy_coin h i (μ.1 64 i - gq_I c)) (m := j) (o := i) (by omega) (by omega)
            rw [gq_uI1, if_neg (by omega), gq_uI1, if_neg (by omega), h8] at r
            exact r
        · have f1 : ∀ X Y : Option (Bool × gx_M), (if gq_I c ≤ μ.1 64 i then X else Y) = Y := fun X Y => if_neg d
          refine gy_no h ?_ ?_
          · unfold f_X3_buys
            rw [if_pos e1]
            simp (disch := omega) only [Int.reduceToNat, gq_lit, gq_neg, gq_add, gq_sub, gq_mul, gq_nat, Int.toNat_natCast, gq_tadd, gq_tmul, gq_lte, gq_br, gq_bd, gq_ck, Bool.false_eq_true, gq_leT, gq_leF, gq_ltT, gq_ltF, gq_eqT, gq_eqF, if_true, if_false, gq_uI1, gq_uI2, gq_uL1, gq_uL2, Nat.reduceEqDiff, false_and, and_false, and_true, true_and, ho1, hu1, hc1, f1, gq_ifT, gq_ifF]
          · rw [e2]
            unfold f_X12_buys
            simp (disch := omega) only [Int.reduceToNat, gq_lit, gq_neg, gq_add, gq_sub, gq_mul, gq_nat, Int.toNat_natCast, gq_tadd, gq_tmul, gq_lte, gq_br, gq_bd, gq_ck, Bool.false_eq_true, gq_leT, gq_leF, gq_ltT, gq_ltF, gq_eqT, gq_eqF, if_true, if_false, gq_uI1, gq_uI2, gq_uL1, gq_uL2, Nat.reduceEqDiff, false_and, and_false, and_true, true_and, ho2, hu2, hc2, h2i, f1, gq_ifT, gq_ifF]
    · refine gy_no h ?_ ?_
      · unfold f_X3_buys
        rw [if_pos e1]
        simp (disch := omega) only [Int.reduceToNat, gq_lit, gq_neg, gq_add, gq_sub, gq_mul, gq_nat, Int.toNat_natCast, gq_tadd, gq_tmul, gq_lte, gq_br, gq_bd, gq_ck, Bool.false_eq_true, gq_leT, gq_leF, gq_ltT, gq_ltF, gq_eqT, gq_eqF, if_true, if_false, gq_uI1, gq_uI2, gq_uL1, gq_uL2, Nat.reduceEqDiff, false_and, and_false, and_true, true_and, ho1, hu1, gq_ifT, gq_ifF]
      · rw [e2]
        simp (disch := omega) only [Int.toNat_natCast, Bool.false_eq_true, gq_leT, gq_leF, gq_ltT, gq_ltF, gq_eqT, gq_eqF, if_true, if_false, hu2, gq_ifT, gq_ifF]
  · refine gy_no h ?_ (gy_not (by omega) fun g2 => g ⟨t2.1 g2.1, t3.1 g2.2⟩)
    unfold f_X3_buys
    rw [if_neg fun g2 => g (t1.1 g2)]
