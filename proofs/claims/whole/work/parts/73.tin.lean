/-! fractions in least terms; tin, enough, waits -/
theorem gn_mod {a b : Nat} (hb : 0 < b) (ha : a < 4611686018427387904) (hb2 : b < 4611686018427387904) : gq_L a - gq_L a / gq_L b * gq_L b = gq_L (a % b : Nat) := by
  rw [gq_Ldiv (by omega), gq_Lmul, gq_Lsub]
  have e : (a : Int) - a / b * b = ((a % b : Nat) : Int) := by
    rw [Int.natCast_emod, Int.emod_def, Int.mul_comm]
  rw [e]
theorem gn_gcdL : ∀ (n a b : Nat), b < 2 ^ n → a < 4611686018427387904 → b < 4611686018427387904 → ∀ (f c : Nat), 2 * n + 2 < f → c + 2 * n + 2 ≤ 200 → (∀ k : Int64 → Option Int64, L_X11_commonDivisor_9 k f (gq_L a) (gq_L b) (gq_I c) = k (gq_L (Nat.gcd a b))) ∧ ∀ k : Int64 → Option Int64, L_X12_common_6 k f (gq_L a) (gq_L b) = k (gq_L (Nat.gcd a b))
  | _, _, _, _, _, _, 0, _, hf, _ => absurd hf (Nat.not_lt_zero _)
  | 0, a, b, hb, ha, hb2, f + 1, c, hf, hc => by
    have b0 : b = 0 := by rw [Nat.pow_zero] at hb; omega
    subst b0
    have z : (gq_L ((0 : Nat) : Int) = gq_L 0) := rfl
    refine ⟨fun k => ?_, fun k => ?_⟩
    · rw [L_X11_commonDivisor_9.eq_2, gq_Llit, if_pos (c := gq_L ((0 : Nat) : Int) = gq_L 0) z, Nat.gcd_zero_right]
      split <;> rfl
    · rw [L_X12_common_6.eq_2, gq_Llit, if_pos (c := gq_L ((0 : Nat) : Int) = gq_L 0) z, Nat.gcd_zero_right]
  | n + 1, a, b, hb, ha, hb2, f + 1, c, hf, hc => by
    by_cases b0 : b = 0
    · subst b0
      have z : (gq_L ((0 : Nat) : Int) = gq_L 0) := rfl
      refine ⟨fun k => ?_, fun k => ?_⟩
      · rw [L_X11_commonDivisor_9.eq_2, gq_Llit, if_pos (c := gq_L ((0 : Nat) : Int) = gq_L 0) z, Nat.gcd_zero_right]
        split <;> rfl
      · rw [L_X12_common_6.eq_2, gq_Llit, if_pos (c := gq_L ((0 : Nat) : Int) = gq_L 0) z, Nat.gcd_zero_right]
    · have hr : a % b < b := Nat.mod_lt _ (by omega)
      have hm := gn_mod (a := a) (b := b) (by omega) ha hb2
      have ne : ¬ (gq_L (b : Int) = gq_L 0) := by rw [gq_Leq (by omega)]; omega
      have g1 : Nat.gcd a b = Nat.gcd b (a % b) := by rw [Nat.gcd_comm a b, Nat.gcd_rec b a, Nat.gcd_comm]
      by_cases r0 : a % b = 0
      · obtain ⟨f', rfl⟩ : ∃ f', f = f' + 1 := ⟨f - 1, by omega⟩
        have z : (gq_L ((0 : Nat) : Int) = gq_L 0) := rfl
        have cl : ¬ ((200 : Int) ≤ c) := by omega
        rw [g1, r0, Nat.gcd_zero_right]
        rw [r0] at hm
        refine ⟨fun k => ?_, fun k => ?_⟩
        · rw [L_X11_commonDivisor_9.eq_2, gq_Llit, if_neg (c := gq_L (b : Int) = gq_L 0) ne, gq_ckT ne, hm]
          rw [gq_lit, if_neg (c := gq_I 200 ≤ gq_I c) (by rw [gq_le (by omega)]; exact cl), gq_lte, L_X11_commonDivisor_9.eq_2, gq_Llit, if_pos (c := gq_L ((0 : Nat) : Int) = gq_L 0) z]
          split <;> rfl
        · rw [L_X12_common_6.eq_2, gq_Llit, if_neg (c := gq_L (b : Int) = gq_L 0) ne, gq_ckT ne, hm, gq_lte, L_X12_common_6.eq_2, gq_Llit, if_pos (c := gq_L ((0 : Nat) : Int) = gq_L 0) z]
      · obtain ⟨f', rfl⟩ : ∃ f', f = f' + 1 := ⟨f - 1, by omega⟩
        have hr2 : b % (a % b) < a % b := Nat.mod_lt _ (by omega)
        have hm2 := gn_mod (a := b) (b := a % b) (by omega) hb2 (by omega)
        have ne2 : ¬ (gq_L ((a % b : Nat) : Int) = gq_L 0) := by rw [gq_Leq (by omega)]; omega
        have half : b % (a % b) < 2 ^ n := by
          have h1 : b % (a % b) + (a % b) * (b / (a % b)) = b := Nat.mod_add_div b (a % b)
          have h2 : 1 ≤ b / (a % b) := Nat.div_pos (by omega) (by omega)
          have h3 : (a % b) * 1 ≤ (a % b) * (b / (a % b)) := Nat.mul_le_mul_left _ h2
          rw [Nat.pow_succ] at hb
          omega
        have g2 : Nat.gcd b (a % b) = Nat.gcd (a % b) (b % (a % b)) := by rw [Nat.gcd_comm b (a % b), Nat.gcd_rec (a % b) b, Nat.gcd_comm]
        obtain ⟨i1, i2⟩ := gn_gcdL n (a % b) (b % (a % b)) half (by omega) (by omega) f' (c + 2) (by omega) (by omega)
        have cl : ¬ ((200 : Int) ≤ c) := by omega
        have cl2 : ¬ ((200 : Int) ≤ (c : Int) + 1) := by omega
        rw [g1, g2]
        refine ⟨fun k => ?_, fun k => ?_⟩
        · rw [← i1 k, L_X11_commonDivisor_9.eq_2, gq_Llit, if_neg (c := gq_L (b : Int) = gq_L 0) ne, gq_ckT ne, hm]
          rw [gq_lit, if_neg (c := gq_I 200 ≤ gq_I c) (by rw [gq_le (by omega)]; exact cl), gq_lte, L_X11_commonDivisor_9.eq_2, gq_Llit, if_neg (c := gq_L ((a % b : Nat) : Int) = gq_L 0) ne2, gq_ckT ne2, hm2]
          rw [gq_lit, gq_lit, gq_add, if_neg (c := gq_I 200 ≤ gq_I _) (by rw [gq_le (by omega)]; exact cl2), gq_lte, gq_add]
          rw [show (c : Int) + 1 + 1 = ((c + 2 : Nat) : Int) by omega]
        · rw [← i2 k, L_X12_common_6.eq_2, gq_Llit, if_neg (c := gq_L (b : Int) = gq_L 0) ne, gq_ckT ne, hm, gq_lte, L_X12_common_6.eq_2, gq_Llit, if_neg (c := gq_L ((a % b : Nat) : Int) = gq_L 0) ne2, gq_ckT ne2, hm2, gq_lte]
theorem gn_gcd {a b : Nat} (ha : a < 4611686018427387904) (hb : b < 4611686018427387904) (μ : gx_M) : f_X11_commonDivisor (gq_L a) (gq_L b) μ = some (gq_L (Nat.gcd a b)) ∧ f_X12_common (gq_L a) (gq_L b) μ = some (gq_L (Nat.gcd a b)) := by
  obtain ⟨i1, i2⟩ := gn_gcdL 62 a b hb ha hb 4000 0 (by omega) (by omega)
  refine ⟨?_, ?_⟩
  · unfold f_X11_commonDivisor
    exact i1 _
  · unfold f_X12_common
    exact i2 _
/-- a fraction in least terms, on both sides -/
theorem gn_part {a b : Nat} (ha : a < 4611686018427387904) (hb : b < 4611686018427387904) (hb0 : 0 < b) (c : Bool) (μ ν : gx_M) : ∃ r, f_X11_lowest (gq_L a) (gq_L b) c μ = some r ∧ f_X12_part (gq_L a) (gq_L b) c ν = some r := by
  have g0 : 0 < Nat.gcd a b := Nat.gcd_pos_of_pos_right _ hb0
  have g1 : Nat.gcd a b ≤ b := Nat.le_of_dvd hb0 (Nat.gcd_dvd_right a b)
  have h1 := (gn_gcd ha hb μ).1
  have h2 := (gn_gcd hb ha ν).2
  rw [Nat.gcd_comm] at h2
  have ne : ¬ (gq_L (Nat.gcd a b : Int) = gq_L 0) := by rw [gq_Leq (by omega)]; omega
  have le : (gq_L 1 ≤ gq_L (Nat.gcd a b : Int)) := by rw [gq_Lle (by omega)]; omega
  unfold f_X11_lowest f_X12_part
  rw [h1, h2, gq_br]
  simp only [gq_lte, gq_br]
  rw [show (1 : Int64) = gq_L 1 from rfl, show (0 : Int64) = gq_L 0 from rfl, if_pos le]
  cases c with
  | true =>
    refine ⟨gq_L b / gq_L (Nat.gcd a b : Int), ?_, ?_⟩
    · rw [if_pos rfl, gq_ckT ne]
    · rw [if_pos rfl, gq_ckT ne]
  | false =>
    refine ⟨gq_L a / gq_L (Nat.gcd a b : Int), ?_, ?_⟩
    · rw [if_neg (by decide), gq_ckT ne]
    · rw [if_neg (by decide), gq_ckT ne]
theorem gn_dp : ∀ n, n < 11 → 0 < 10 ^ n ∧ 10 ^ n ≤ 10000000000 := by decide +kernel
theorem gq_e_tin {μ : gx_M} (hI : gq_inv μ) (p1 p2 p3 : Int32) (b : Bool) : ∃ r μ2, f_X11_tin p1 p2 p3 b μ = some r ∧ f_X12_tin p1 p2 p3 b μ = some (r, μ2) ∧ gq_inv μ2 := by
  obtain ⟨n, hn, rfl⟩ := gq_ex p1
  obtain ⟨k, hk, rfl⟩ := gq_ex p2
  obtain ⟨p, hp, rfl⟩ := gq_ex p3
  have hJ : gq_inv (gx_uI μ 206 0 (gq_I 0)) := gq_inv_m hI (gq_sm_uI gq_Pm206 gq_sm_rf)
  by_cases g : (0 ≤ n ∧ n ≤ 9) ∧ (0 ≤ k ∧ k ≤ 9) ∧ 0 ≤ p ∧ p ≤ 10
  · obtain ⟨n, rfl⟩ : ∃ m : Nat, n = m := ⟨n.toNat, by omega⟩
    obtain ⟨k, rfl⟩ : ∃ m : Nat, k = m := ⟨k.toNat, by omega⟩
    obtain ⟨p, rfl⟩ : ∃ m : Nat, p = m := ⟨p.toNat, by omega⟩
    obtain ⟨R, r0, r1, r2, _⟩ := gn_ways (n := n) (p := p) (kk := k) (by omega) (by omega) (by omega) μ (gx_uI μ 206 0 (gq_I 0))
    obtain ⟨R, rfl⟩ : ∃ m : Nat, R = m := ⟨R.toNat, by omega⟩
    have q1 := gn_pC 10 (n := n) (by omega) μ
    have q2 := gn_pM 10 (n := n) (by omega) (gx_uI μ 206 0 (gq_I 0))
    have d := gn_dp n (by omega)
    have eq : (10 : Int) ^ n = ((10 ^ n : Nat) : Int) := by rw [Int.natCast_pow]; rfl
    rw [eq] at q1 q2
    obtain ⟨r, t1, t2⟩ := gn_part (a := R) (b := 10 ^ n) (by omega) (by omega) d.1 b μ (gx_uI μ 206 0 (gq_I 0))
    refine ⟨r, _, ?_, ?_, hJ⟩
    · unfold f_X11_tin
      simp (disch := omega) only [Int.reduceToNat, gq_lit, gq_neg, gq_add, gq_sub, gq_mul, gq_nat, Int.toNat_natCast, gq_tadd, gq_tmul, gq_lte, gq_br, gq_bd, gq_ck, Bool.false_eq_true, gq_leT, gq_leF, gq_ltT, gq_ltF, gq_eqT, gq_eqF, if_true, if_false, gq_amT, r1, gq_Llit, q1, t1]
    · unfold f_X12_tin
      simp (disch := omega) only [Int.reduceToNat, gq_lit, gq_neg, gq_add, gq_sub, gq_mul, gq_nat, Int.toNat_natCast, gq_tadd, gq_tmul, gq_lte, gq_br, gq_bd, gq_ck, Bool.false_eq_true, gq_leT, gq_leF, gq_ltT, gq_ltF, gq_eqT, gq_eqF, if_true, if_false, gq_inT, r2, gq_Llit, q2, t2]
  · refine ⟨gq_L (-1), _, ?_, ?_, hJ⟩
    · unfold f_X11_tin
      by_cases g1 : 0 ≤ n ∧ n ≤ 9
      · by_cases g2 : 0 ≤ k ∧ k ≤ 9
        · simp (disch := omega) only [Int.reduceToNat, gq_lit, gq_neg, gq_add, gq_sub, gq_mul, gq_nat, Int.toNat_natCast, gq_tadd, gq_tmul, gq_lte, gq_br, gq_bd, gq_ck, Bool.false_eq_true, gq_leT, gq_leF, gq_ltT, gq_ltF, gq_eqT, gq_eqF, if_true, if_false, gq_amT, gq_amF, gq_Llit, gq_Lneg]
        · simp (disch := omega) only [Int.reduceToNat, gq_lit, gq_neg, gq_add, gq_sub, gq_mul, gq_nat, Int.toNat_natCast, gq_tadd, gq_tmul, gq_lte, gq_br, gq_bd, gq_ck, Bool.false_eq_true, gq_leT, gq_leF, gq_ltT, gq_ltF, gq_eqT, gq_eqF, if_true, if_false, gq_amT, gq_amF, gq_Llit, gq_Lneg]
      · simp (disch := omega) only [Int.reduceToNat, gq_lit, gq_neg, gq_add, gq_sub, gq_mul, gq_nat, Int.toNat_natCast, gq_tadd, gq_tmul, gq_lte, gq_br, gq_bd, gq_ck, Bool.false_eq_true, gq_leT, gq_leF, gq_ltT, gq_ltF, gq_eqT, gq_eqF, if_true, if_false, gq_amT, gq_amF, gq_Llit, gq_Lneg]
    · unfold f_X12_tin
      by_cases g1 : 0 ≤ n ∧ n ≤ 9
      · by_cases g2 : 0 ≤ k ∧ k ≤ 9
        · simp (disch := omega) only [Int.reduceToNat, gq_lit, gq_neg, gq_add, gq_sub, gq_mul, gq_nat, Int.toNat_natCast, gq_tadd, gq_tmul, gq_lte, gq_br, gq_bd, gq_ck, Bool.false_eq_true, gq_leT, gq_leF, gq_ltT, gq_ltF, gq_eqT, gq_eqF, if_true, if_false, gq_inT, gq_inF, gq_Llit, gq_Lneg]
        · simp (disch := omega) only [Int.reduceToNat, gq_lit, gq_neg, gq_add, gq_sub, gq_mul, gq_nat, Int.toNat_natCast, gq_tadd, gq_tmul, gq_lte, gq_br, gq_bd, gq_ck, Bool.false_eq_true, gq_leT, gq_leF, gq_ltT, gq_ltF, gq_eqT, gq_eqF, if_true, if_false, gq_inT, gq_inF, gq_Llit, gq_Lneg]
      · simp (disch := omega) only [Int.reduceToNat, gq_lit, gq_neg, gq_add, gq_sub, gq_mul, gq_nat, Int.toNat_natCast, gq_tadd, gq_tmul, gq_lte, gq_br, gq_bd, gq_ck, Bool.false_eq_true, gq_leT, gq_leF, gq_ltT, gq_ltF, gq_eqT, gq_eqF, if_true, if_false, gq_inT, gq_inF, gq_Llit, gq_Lneg]
/-- enough: from k on -/
theorem gn_enL {k p : Nat} (hk : 1 ≤ k ∧ k ≤ 9) (hp : p < 11) {μ ν : gx_M} : ∀ (d f f2 v : Nat), d < f → d < f2 → v + d = 10 → k ≤ v → ∃ r, L_X11_enough_24 (gq_I k) (gq_I p) μ (some (gq_I (-1))) f (gq_I v) = some r ∧ L_X12_enough_29 (gq_I k) (gq_I p) (fun (μ12 : gx_M) => some (gq_I (-1), μ12)) f2 (gq_I v) ν = some (r, ν)
  | _, 0, _, _, hf, _, _, _ => absurd hf (Nat.not_lt_zero _)
  | _, _, 0, _, _, hf, _, _ => absurd hf (Nat.not_lt_zero _)
  | 0, f + 1, f2 + 1, v, hf, hf2, hv, hkv => by
    refine ⟨gq_I (-1), ?_, ?_⟩
    · rw [L_X11_enough_24.eq_2]
      simp (disch := omega) only [Int.reduceToNat, gq_lit, gq_neg, gq_add, gq_sub, gq_mul, gq_nat, Int.toNat_natCast, gq_tadd, gq_tmul, gq_lte, gq_br, gq_bd, gq_ck, Bool.false_eq_true, gq_leT, gq_leF, gq_ltT, gq_ltF, gq_eqT, gq_eqF, if_true, if_false]
    · rw [L_X12_enough_29.eq_2]
      simp (disch := omega) only [Int.reduceToNat, gq_lit, gq_neg, gq_add, gq_sub, gq_mul, gq_nat, Int.toNat_natCast, gq_tadd, gq_tmul, gq_lte, gq_br, gq_bd, gq_ck, Bool.false_eq_true, gq_leT, gq_leF, gq_ltT, gq_ltF, gq_eqT, gq_eqF, if_true, if_false]
  | d + 1, f + 1, f2 + 1, v, hf, hf2, hv, hkv => by
    obtain ⟨R, r0, r1, _, _⟩ := gn_ways (n := v) (p := p) (kk := k) (by omega) hp (by omega) μ ν
    obtain ⟨R', r0', r1', r2', _⟩ := gn_ways (n := v) (p := p) (kk := k) (by omega) hp (by omega) μ ν
    have eR : gq_L R = gq_L R' := by rw [r1] at r1'; exact Option.some.inj r1'
    have q1 := gn_pC 10 (n := v) (by omega) μ
    have q2 := gn_pM 10 (n := v) (by omega) ν
    obtain ⟨r, i1, i2⟩ := gn_enL hk hp (μ := μ) (ν := ν) d f f2 (v + 1) (by omega) (by omega) (by omega) (by omega)
    by_cases g : gq_L (R' * 10) < gq_L (10 ^ v * 9)
    · refine ⟨r, ?_, ?_⟩
      · rw [L_X11_enough_24.eq_2]
        simp (disch := omega) only [Int.reduceToNat, gq_lit, gq_neg, gq_add, gq_sub, gq_mul, gq_nat, Int.toNat_natCast, gq_tadd, gq_tmul, gq_lte, gq_br, gq_bd, gq_ck, Bool.false_eq_true, gq_leT, gq_leF, gq_ltT, gq_ltF, gq_eqT, gq_eqF, if_true, if_false, r1', gq_Llit, q1, gq_Lmul]
        rw [if_pos g]
        exact i1
      · rw [L_X12_enough_29.eq_2]
        simp (disch := omega) only [Int.reduceToNat, gq_lit, gq_neg, gq_add, gq_sub, gq_mul, gq_nat, Int.toNat_natCast, gq_tadd, gq_tmul, gq_lte, gq_br, gq_bd, gq_ck, Bool.false_eq_true, gq_leT, gq_leF, gq_ltT, gq_ltF, gq_eqT, gq_eqF, if_true, if_false, r2', gq_Llit, q2, gq_Lmul]
        rw [Int.mul_comm 10, Int.mul_comm 9, if_pos g]
        exact i2
    · refine ⟨gq_I v, ?_, ?_⟩
      · rw [L_X11_enough_24.eq_2]
        simp (disch := omega) only [Int.reduceToNat, gq_lit, gq_neg, gq_add, gq_sub, gq_mul, gq_nat, Int.toNat_natCast, gq_tadd, gq_tmul, gq_lte, gq_br, gq_bd, gq_ck, Bool.false_eq_true, gq_leT, gq_leF, gq_ltT, gq_ltF, gq_eqT, gq_eqF, if_true, if_false, r1', gq_Llit, q1, gq_Lmul]
        rw [if_neg g]
      · rw [L_X12_enough_29.eq_2]
        simp (disch := omega) only [Int.reduceToNat, gq_lit, gq_neg, gq_add, gq_sub, gq_mul, gq_nat, Int.toNat_natCast, gq_tadd, gq_tmul, gq_lte, gq_br, gq_bd, gq_ck, Bool.false_eq_true, gq_leT, gq_leF, gq_ltT, gq_ltF, gq_eqT, gq_eqF, if_true, if_false, r2', gq_Llit, q2, gq_Lmul]
        rw [Int.mul_comm 10, Int.mul_comm 9, if_neg g]
theorem gn_en0 {k p : Nat} (hk : 1 ≤ k ∧ k ≤ 9) (hp : p < 11) {ν : gx_M} {K : gx_M → Option (Int32 × gx_M)} : ∀ (d f v : Nat), d < f → v + d = k → L_X12_enough_29 (gq_I k) (gq_I p) K f (gq_I v) ν = L_X12_enough_29 (gq_I k) (gq_I p) K (f - d) (gq_I k) ν
  | 0, f, v, hf, hv => by rw [show v = k by omega]; rfl
  | d + 1, 0, v, hf, hv => absurd hf (Nat.not_lt_zero _)
  | d + 1, f + 1, v, hf, hv => by
    obtain ⟨R, r0, r1, r2, r3⟩ := gn_ways (n := v) (p := p) (kk := k) (by omega) hp (by omega) ν ν
    have R0 := r3 (by omega)
    rw [R0] at r2
    have q2 := gn_pM 10 (n := v) (by omega) ν
    have dd := gn_dp v (by omega)
    have eq : (10 : Int) ^ v = ((10 ^ v : Nat) : Int) := by rw [Int.natCast_pow]; rfl
    rw [eq] at q2
    have g : gq_L (10 * 0) < gq_L (9 * ((10 ^ v : Nat) : Int)) := by rw [gq_Llt (by omega)]; omega
    have ih := gn_en0 hk hp (ν := ν) (K := K) d f (v + 1) (by omega) (by omega)
    rw [show f + 1 - (d + 1) = f - d by omega, ← ih, L_X12_enough_29.eq_2]
    simp (disch := omega) only [Int.reduceToNat, gq_lit, gq_neg, gq_add, gq_sub, gq_mul, gq_nat, Int.toNat_natCast, gq_tadd, gq_tmul, gq_lte, gq_br, gq_bd, gq_ck, Bool.false_eq_true, gq_leT, gq_leF, gq_ltT, gq_ltF, gq_eqT, gq_eqF, if_true, if_false, r2, gq_Llit, q2, gq_Lmul]
    rw [if_pos g]
    rfl
theorem gq_e_enough {μ : gx_M} (hI : gq_inv μ) (p1 p2 : Int32) : ∃ r μ2, f_X11_enough p1 p2 μ = some r ∧ f_X12_enough p1 p2 μ = some (r, μ2) ∧ gq_inv μ2 := by
  obtain ⟨k, hk, rfl⟩ := gq_ex p1
  obtain ⟨p, hp, rfl⟩ := gq_ex p2
  have hJ : gq_inv (gx_uI μ 206 0 (gq_I 0)) := gq_inv_m hI (gq_sm_uI gq_Pm206 gq_sm_rf)
  by_cases g : (1 ≤ k ∧ k ≤ 9) ∧ 0 ≤ p ∧ p ≤ 10
  · obtain ⟨k, rfl⟩ : ∃ m : Nat, k = m := ⟨k.toNat, by omega⟩
    obtain ⟨p, rfl⟩ : ∃ m : Nat, p = m := ⟨p.toNat, by omega⟩
    obtain ⟨r, i1, i2⟩ := gn_enL (k := k) (p := p) (by omega) (by omega) (μ := μ) (ν := gx_uI μ 206 0 (gq_I 0)) (10 - k) 4000 (4000 - k) k (by omega) (by omega) (by omega) (Nat.le_refl k)
    have i3 := gn_en0 (k := k) (p := p) (by omega) (by omega) (ν := gx_uI μ 206 0 (gq_I 0)) (K := fun (μ12 : gx_M) => some (gq_I (-1), μ12)) k 4000 0 (by omega) (by omega)
    refine ⟨r, _, ?_, ?_, hJ⟩
    · unfold f_X11_enough
      simp (disch := omega) only [Int.reduceToNat, gq_lit, gq_neg, gq_add, gq_sub, gq_mul, gq_nat, Int.toNat_natCast, gq_tadd, gq_tmul, gq_lte, gq_br, gq_bd, gq_ck, Bool.false_eq_true, gq_leT, gq_leF, gq_ltT, gq_ltF, gq_eqT, gq_eqF, if_true, if_false, gq_amT]
      exact i1
    · unfold f_X12_enough
      simp (disch := omega) only [Int.reduceToNat, gq_lit, gq_neg, gq_add, gq_sub, gq_mul, gq_nat, Int.toNat_natCast, gq_tadd, gq_tmul, gq_lte, gq_br, gq_bd, gq_ck, Bool.false_eq_true, gq_leT, gq_leF, gq_ltT, gq_ltF, gq_eqT, gq_eqF, if_true, if_false, gq_inT]
      exact i3.trans i2
  · refine ⟨gq_I (-1), _, ?_, ?_, hJ⟩
    · unfold f_X11_enough
      by_cases g1 : 1 ≤ k ∧ k ≤ 9
      · simp (disch := omega) only [Int.reduceToNat, gq_lit, gq_neg, gq_add, gq_sub, gq_mul, gq_nat, Int.toNat_natCast, gq_tadd, gq_tmul, gq_lte, gq_br, gq_bd, gq_ck, Bool.false_eq_true, gq_leT, gq_leF, gq_ltT, gq_ltF, gq_eqT, gq_eqF, if_true, if_false, gq_amT, gq_amF]
      · simp (disch := omega) only [Int.reduceToNat, gq_lit, gq_neg, gq_add, gq_sub, gq_mul, gq_nat, Int.toNat_natCast, gq_tadd, gq_tmul, gq_lte, gq_br, gq_bd, gq_ck, Bool.false_eq_true, gq_leT, gq_leF, gq_ltT, gq_ltF, gq_eqT, gq_eqF, if_true, if_false, gq_amF]
    · unfold f_X12_enough
      by_cases g1 : 1 ≤ k ∧ k ≤ 9
      · simp (disch := omega) only [Int.reduceToNat, gq_lit, gq_neg, gq_add, gq_sub, gq_mul, gq_nat, Int.toNat_natCast, gq_tadd, gq_tmul, gq_lte, gq_br, gq_bd, gq_ck, Bool.false_eq_true, gq_leT, gq_leF, gq_ltT, gq_ltF, gq_eqT, gq_eqF, if_true, if_false, gq_inT, gq_inF]
      · simp (disch := omega) only [Int.reduceToNat, gq_lit, gq_neg, gq_add, gq_sub, gq_mul, gq_nat, Int.toNat_natCast, gq_tadd, gq_tmul, gq_lte, gq_br, gq_bd, gq_ck, Bool.false_eq_true, gq_leT, gq_leF, gq_ltT, gq_ltF, gq_eqT, gq_eqF, if_true, if_false, gq_inF]
