/-! waits -/
def gn_s (a b : Nat) : Nat → Nat
  | 0 => 0
  | v + 1 => gn_s a b v + (if a < v * b then v * b else a)
theorem gn_s_le {a b : Nat} (h : a ≤ 9 * b) : ∀ v, v ≤ 10 → gn_s a b v ≤ v * (9 * b)
  | 0, _ => Nat.zero_le _
  | v + 1, hv => by
    have ih := gn_s_le h v (by omega)
    have h1 : v * b ≤ 9 * b := Nat.mul_le_mul_right b (by omega)
    have h2 : (v + 1) * (9 * b) = v * (9 * b) + 9 * b := Nat.succ_mul v (9 * b)
    rw [h2]
    show gn_s a b v + (if a < v * b then v * b else a) ≤ _
    split <;> omega
theorem gn_vb {v b : Nat} (hv : v ≤ 9) (hb : b ≤ 10000000000) : ((v : Int) * (b : Int)) = ((v * b : Nat) : Int) ∧ v * b ≤ 90000000000 := by
  refine ⟨(Int.natCast_mul v b).symm, ?_⟩
  have := Nat.mul_le_mul hv hb
  omega
theorem gn_dayC {a b : Nat} (hb : b ≤ 10000000000) (ha : a ≤ 9 * b) {k : Int64 → Option Int64} : ∀ (d f v : Nat), d < f → v + d = 10 → L_X11_dayBefore_6 (gq_L a) (gq_L b) k f (gq_L (gn_s a b v : Nat)) (gq_I v) = k (gq_L (gn_s a b 10 : Nat))
  | _, 0, _, hf, _ => absurd hf (Nat.not_lt_zero _)
  | 0, f + 1, v, hf, hv => by
    rw [L_X11_dayBefore_6.eq_2, show v = 10 by omega]
    simp (disch := omega) only [Int.reduceToNat, gq_lit, gq_neg, gq_add, gq_sub, gq_mul, gq_nat, Int.toNat_natCast, gq_tadd, gq_tmul, gq_lte, gq_br, gq_bd, gq_ck, Bool.false_eq_true, gq_leT, gq_leF, gq_ltT, gq_ltF, gq_eqT, gq_eqF, if_true, if_false]
  | d + 1, f + 1, v, hf, hv => by
    obtain ⟨e1, e2⟩ := gn_vb (v := v) (b := b) (by omega) hb
    rw [← gn_dayC hb ha (k := k) d f (v + 1) (by omega) (by omega), L_X11_dayBefore_6.eq_2]
    have es : gn_s a b (v + 1) = gn_s a b v + (if a < v * b then v * b else a) := rfl
    by_cases g : a < v * b
    · rw [if_pos g] at es
      rw [es]
      simp (disch := omega) only [Int.reduceToNat, gq_lit, gq_neg, gq_add, gq_sub, gq_mul, gq_nat, Int.toNat_natCast, gq_tadd, gq_tmul, gq_lte, gq_br, gq_bd, gq_ck, Bool.false_eq_true, gq_leT, gq_leF, gq_ltT, gq_ltF, gq_eqT, gq_eqF, if_true, if_false, gq_toL, gq_Lmul, e1]
      rw [if_pos (by rw [gq_Llt (by omega)]; omega), gq_Ladd]
      rfl
    · rw [if_neg g] at es
      rw [es]
      simp (disch := omega) only [Int.reduceToNat, gq_lit, gq_neg, gq_add, gq_sub, gq_mul, gq_nat, Int.toNat_natCast, gq_tadd, gq_tmul, gq_lte, gq_br, gq_bd, gq_ck, Bool.false_eq_true, gq_leT, gq_leF, gq_ltT, gq_ltF, gq_eqT, gq_eqF, if_true, if_false, gq_toL, gq_Lmul, e1]
      rw [if_neg (by rw [gq_Llt (by omega)]; omega), gq_Ladd]
      rfl
theorem gn_day48 {a b : Nat} (hb : b ≤ 10000000000) (ha : a ≤ 9 * b) {ν : gx_M} {k : Int64 → gx_M → Option (Int64 × gx_M)} : ∀ (d f v : Nat), d < f → v + d = 10 → L_X12_waits_48 (gq_L b) (gq_L a) k f (gq_L (gn_s a b v : Nat)) (gq_I v) ν = k (gq_L (gn_s a b 10 : Nat)) ν
  | _, 0, _, hf, _ => absurd hf (Nat.not_lt_zero _)
  | 0, f + 1, v, hf, hv => by
    rw [L_X12_waits_48.eq_2, show v = 10 by omega]
    simp (disch := omega) only [Int.reduceToNat, gq_lit, gq_neg, gq_add, gq_sub, gq_mul, gq_nat, Int.toNat_natCast, gq_tadd, gq_tmul, gq_lte, gq_br, gq_bd, gq_ck, Bool.false_eq_true, gq_leT, gq_leF, gq_ltT, gq_ltF, gq_eqT, gq_eqF, if_true, if_false]
  | d + 1, f + 1, v, hf, hv => by
    obtain ⟨e1, e2⟩ := gn_vb (v := v) (b := b) (by omega) hb
    rw [← gn_day48 hb ha (ν := ν) (k := k) d f (v + 1) (by omega) (by omega), L_X12_waits_48.eq_2]
    have es : gn_s a b (v + 1) = gn_s a b v + (if a < v * b then v * b else a) := rfl
    by_cases g : a < v * b
    · rw [if_pos g] at es
      rw [es]
      simp (disch := omega) only [Int.reduceToNat, gq_lit, gq_neg, gq_add, gq_sub, gq_mul, gq_nat, Int.toNat_natCast, gq_tadd, gq_tmul, gq_lte, gq_br, gq_bd, gq_ck, Bool.false_eq_true, gq_leT, gq_leF, gq_ltT, gq_ltF, gq_eqT, gq_eqF, if_true, if_false, gq_toL, gq_Lmul, e1]
      rw [if_neg (by rw [gq_Lle (by omega)]; omega), gq_Ladd]
      rfl
    · rw [if_neg g] at es
      rw [es]
      simp (disch := omega) only [Int.reduceToNat, gq_lit, gq_neg, gq_add, gq_sub, gq_mul, gq_nat, Int.toNat_natCast, gq_tadd, gq_tmul, gq_lte, gq_br, gq_bd, gq_ck, Bool.false_eq_true, gq_leT, gq_leF, gq_ltT, gq_ltF, gq_eqT, gq_eqF, if_true, if_false, gq_toL, gq_Lmul, e1]
      rw [if_pos (by rw [gq_Lle (by omega)]; omega), gq_Ladd]
      rfl
theorem gn_day139 {a b : Nat} (hb : b ≤ 10000000000) (ha : a ≤ 9 * b) {ν : gx_M} {k : Int64 → gx_M → Option (Int64 × gx_M)} : ∀ (d f v : Nat), d < f → v + d = 10 → L_X12_waits_139 (gq_L b) (gq_L a) k f (gq_L (gn_s a b v : Nat)) (gq_I v) ν = k (gq_L (gn_s a b 10 : Nat)) ν
  | _, 0, _, hf, _ => absurd hf (Nat.not_lt_zero _)
  | 0, f + 1, v, hf, hv => by
    rw [L_X12_waits_139.eq_2, show v = 10 by omega]
    simp (disch := omega) only [Int.reduceToNat, gq_lit, gq_neg, gq_add, gq_sub, gq_mul, gq_nat, Int.toNat_natCast, gq_tadd, gq_tmul, gq_lte, gq_br, gq_bd, gq_ck, Bool.false_eq_true, gq_leT, gq_leF, gq_ltT, gq_ltF, gq_eqT, gq_eqF, if_true, if_false]
  | d + 1, f + 1, v, hf, hv => by
    obtain ⟨e1, e2⟩ := gn_vb (v := v) (b := b) (by omega) hb
    rw [← gn_day139 hb ha (ν := ν) (k := k) d f (v + 1) (by omega) (by omega), L_X12_waits_139.eq_2]
    have es : gn_s a b (v + 1) = gn_s a b v + (if a < v * b then v * b else a) := rfl
    by_cases g : a < v * b
    · rw [if_pos g] at es
      rw [es]
      simp (disch := omega) only [Int.reduceToNat, gq_lit, gq_neg, gq_add, gq_sub, gq_mul, gq_nat, Int.toNat_natCast, gq_tadd, gq_tmul, gq_lte, gq_br, gq_bd, gq_ck, Bool.false_eq_true, gq_leT, gq_leF, gq_ltT, gq_ltF, gq_eqT, gq_eqF, if_true, if_false, gq_toL, gq_Lmul, e1]
      rw [if_neg (by rw [gq_Lle (by omega)]; omega), gq_Ladd]
      rfl
    · rw [if_neg g] at es
      rw [es]
      simp (disch := omega) only [Int.reduceToNat, gq_lit, gq_neg, gq_add, gq_sub, gq_mul, gq_nat, Int.toNat_natCast, gq_tadd, gq_tmul, gq_lte, gq_br, gq_bd, gq_ck, Bool.false_eq_true, gq_leT, gq_leF, gq_ltT, gq_ltF, gq_eqT, gq_eqF, if_true, if_false, gq_toL, gq_Lmul, e1]
      rw [if_pos (by rw [gq_Lle (by omega)]; omega), gq_Ladd]
      rfl
theorem gn_waitL {n : Nat} (hn : 1 ≤ n ∧ n ≤ 9) {μ ν : gx_M} {k : Int64 → Option Int64} {k2 : Int64 → Int64 → gx_M → Option (Int64 × gx_M)} : ∀ (d f f2 i A : Nat), d < f → d < f2 → i + d = n - 1 → A ≤ 9 * 10 ^ i → ∃ R : Nat, R ≤ 9 * 10 ^ (n - 1) ∧ L_X11_waits_28 (gq_I n) μ k f (gq_L A) (gq_I i) = k (gq_L R) ∧ L_X12_waits_36 (gq_I n) k2 f2 (gq_L A) (gq_L (10 ^ i : Nat)) (gq_I (i + 1 : Nat)) ν = k2 (gq_L R) (gq_L (10 ^ (n - 1) : Nat)) ν
  | _, 0, _, _, _, hf, _, _, _ => absurd hf (Nat.not_lt_zero _)
  | _, _, 0, _, _, _, hf, _, _ => absurd hf (Nat.not_lt_zero _)
  | 0, f + 1, f2 + 1, i, A, hf, hf2, hi, hA => by
    have e : i = n - 1 := by omega
    refine ⟨A, by rw [← e]; exact hA, ?_, ?_⟩
    · rw [L_X11_waits_28.eq_2]
      simp (disch := omega) only [Int.reduceToNat, gq_lit, gq_neg, gq_add, gq_sub, gq_mul, gq_nat, Int.toNat_natCast, gq_tadd, gq_tmul, gq_lte, gq_br, gq_bd, gq_ck, gq_sub, Bool.false_eq_true, gq_leT, gq_leF, gq_ltT, gq_ltF, gq_eqT, gq_eqF, if_true, if_false]
    · rw [L_X12_waits_36.eq_2, e]
      simp (disch := omega) only [Int.reduceToNat, gq_lit, gq_neg, gq_add, gq_sub, gq_mul, gq_nat, Int.toNat_natCast, gq_tadd, gq_tmul, gq_lte, gq_br, gq_bd, gq_ck, Bool.false_eq_true, gq_leT, gq_leF, gq_ltT, gq_ltF, gq_eqT, gq_eqF, if_true, if_false]
  | d + 1, f + 1, f2 + 1, i, A, hf, hf2, hi, hA => by
    have dd := gn_dp i (by omega)
    have hs := gn_s_le hA 10 (by omega)
    have e10 : 10 ^ (i + 1) = 10 ^ i * 10 := Nat.pow_succ 10 i
    obtain ⟨R, r0, r1, r2⟩ := gn_waitL hn (μ := μ) (ν := ν) (k := k) (k2 := k2) d f f2 (i + 1) (gn_s A (10 ^ i) 10) (by omega) (by omega) (by omega) (by omega)
    refine ⟨R, r0, ?_, ?_⟩
    · have q1 := gn_pC 10 (n := i) (by omega) μ
      have eq : (10 : Int) ^ i = ((10 ^ i : Nat) : Int) := by rw [Int.natCast_pow]; rfl
      rw [eq] at q1
      have q2 : f_X11_dayBefore (gq_L A) (gq_L (10 ^ i : Nat)) μ = some (gq_L (gn_s A (10 ^ i) 10 : Nat)) := by
        unfold f_X11_dayBefore
        exact gn_dayC dd.2 hA 10 4000 0 (by omega) (by omega)
      rw [← r1, L_X11_waits_28.eq_2]
      simp (disch := omega) only [Int.reduceToNat, gq_lit, gq_neg, gq_add, gq_sub, gq_mul, gq_nat, Int.toNat_natCast, gq_tadd, gq_tmul, gq_lte, gq_br, gq_bd, gq_ck, gq_sub, Bool.false_eq_true, gq_leT, gq_leF, gq_ltT, gq_ltF, gq_eqT, gq_eqF, if_true, if_false, gq_Llit, q1, q2]
      rfl
    · rw [← r2, L_X12_waits_36.eq_2]
      simp (disch := omega) only [Int.reduceToNat, gq_lit, gq_neg, gq_add, gq_sub, gq_mul, gq_nat, Int.toNat_natCast, gq_tadd, gq_tmul, gq_lte, gq_br, gq_bd, gq_ck, Bool.false_eq_true, gq_leT, gq_leF, gq_ltT, gq_ltF, gq_eqT, gq_eqF, if_true, if_false, gq_Llit]
      refine Eq.trans (gn_day48 dd.2 hA 10 4000 0 (by omega) (by omega)) ?_
      rw [gq_Lmul, e10]
      rfl
theorem gn_leastL {A B : Nat} (hB : B ≤ 10000000000) (hA : A ≤ 9 * B) {ν : gx_M} {k : Int32 → Option Int32} {k2 : Int32 → gx_M → Option (Int64 × gx_M)} : ∀ (d f v : Nat), d < f → v + d = 9 → ∃ r : Int32, L_X11_leastTaken_3 (gq_L A) (gq_L B) k f (gq_I v) = k r ∧ L_X12_waits_112 (gq_L A) (gq_L B) k2 f (gq_I v) ν = k2 r ν
  | _, 0, _, hf, _ => absurd hf (Nat.not_lt_zero _)
  | 0, f + 1, v, hf, hv => by
    obtain ⟨e1, e2⟩ := gn_vb (v := v) (b := B) (by omega) hB
    have e : v * B = 9 * B := by rw [show v = 9 by omega]
    refine ⟨gq_I v, ?_, ?_⟩
    · rw [L_X11_leastTaken_3.eq_2]
      simp (disch := omega) only [Int.reduceToNat, gq_lit, gq_neg, gq_add, gq_sub, gq_mul, gq_nat, Int.toNat_natCast, gq_tadd, gq_tmul, gq_lte, gq_br, gq_bd, gq_ck, Bool.false_eq_true, gq_leT, gq_leF, gq_ltT, gq_ltF, gq_eqT, gq_eqF, if_true, if_false]
    · rw [L_X12_waits_112.eq_2]
      simp (disch := omega) only [Int.reduceToNat, gq_lit, gq_neg, gq_add, gq_sub, gq_mul, gq_nat, Int.toNat_natCast, gq_tadd, gq_tmul, gq_lte, gq_br, gq_bd, gq_ck, Bool.false_eq_true, gq_leT, gq_leF, gq_ltT, gq_ltF, gq_eqT, gq_eqF, if_true, if_false, gq_toL, gq_Lmul, e1]
      rw [if_pos (by rw [gq_Lle (by omega)]; omega)]
  | d + 1, f + 1, v, hf, hv => by
    obtain ⟨e1, e2⟩ := gn_vb (v := v) (b := B) (by omega) hB
    by_cases g : A ≤ v * B
    · refine ⟨gq_I v, ?_, ?_⟩
      · rw [L_X11_leastTaken_3.eq_2]
        simp (disch := omega) only [Int.reduceToNat, gq_lit, gq_neg, gq_add, gq_sub, gq_mul, gq_nat, Int.toNat_natCast, gq_tadd, gq_tmul, gq_lte, gq_br, gq_bd, gq_ck, Bool.false_eq_true, gq_leT, gq_leF, gq_ltT, gq_ltF, gq_eqT, gq_eqF, if_true, if_false, gq_toL, gq_Lmul, e1]
        rw [if_pos (by rw [gq_Lle (by omega)]; omega)]
      · rw [L_X12_waits_112.eq_2]
        simp (disch := omega) only [Int.reduceToNat, gq_lit, gq_neg, gq_add, gq_sub, gq_mul, gq_nat, Int.toNat_natCast, gq_tadd, gq_tmul, gq_lte, gq_br, gq_bd, gq_ck, Bool.false_eq_true, gq_leT, gq_leF, gq_ltT, gq_ltF, gq_eqT, gq_eqF, if_true, if_false, gq_toL, gq_Lmul, e1]
        rw [if_pos (by rw [gq_Lle (by omega)]; omega)]
    · obtain ⟨r, i1, i2⟩ := gn_leastL hB hA (ν := ν) (k := k) (k2 := k2) d f (v + 1) (by omega) (by omega)
      refine ⟨r, ?_, ?_⟩
      · rw [← i1, L_X11_leastTaken_3.eq_2]
        simp (disch := omega) only [Int.reduceToNat, gq_lit, gq_neg, gq_add, gq_sub, gq_mul, gq_nat, Int.toNat_natCast, gq_tadd, gq_tmul, gq_lte, gq_br, gq_bd, gq_ck, Bool.false_eq_true, gq_leT, gq_leF, gq_ltT, gq_ltF, gq_eqT, gq_eqF, if_true, if_false, gq_toL, gq_Lmul, e1]
        rw [if_neg (by rw [gq_Lle (by omega)]; omega)]
        rfl
      · rw [← i2, L_X12_waits_112.eq_2]
        simp (disch := omega) only [Int.reduceToNat, gq_lit, gq_neg, gq_add, gq_sub, gq_mul, gq_nat, Int.toNat_natCast, gq_tadd, gq_tmul, gq_lte, gq_br, gq_bd, gq_ck, Bool.false_eq_true, gq_leT, gq_leF, gq_ltT, gq_ltF, gq_eqT, gq_eqF, if_true, if_false, gq_toL, gq_Lmul, e1]
        rw [if_neg (by rw [gq_Lle (by omega)]; omega)]
        rfl
theorem gq_e_waits {μ : gx_M} (hI : gq_inv μ) (p1 p2 : Int32) : ∃ r μ2, f_X11_waits p1 p2 μ = some r ∧ f_X12_waits p1 p2 μ = some (r, μ2) ∧ gq_inv μ2 := by
  obtain ⟨n, hn, rfl⟩ := gq_ex p1
  obtain ⟨q, hq, rfl⟩ := gq_ex p2
  obtain ⟨ν, hν⟩ : ∃ ν, ν = gx_uI μ 206 0 (gq_I 0) := ⟨_, rfl⟩
  have hJ : gq_inv ν := by rw [hν]; exact gq_inv_m hI (gq_sm_uI gq_Pm206 gq_sm_rf)
  by_cases g : (1 ≤ n ∧ n ≤ 9) ∧ 0 ≤ q ∧ q ≤ 2
  · obtain ⟨n, rfl⟩ : ∃ m : Nat, n = m := ⟨n.toNat, by omega⟩
    obtain ⟨B, hB⟩ : ∃ B, B = 10 ^ (n - 1) := ⟨_, rfl⟩
    have dd := gn_dp (n - 1) (by omega)
    rw [← hB] at dd
    have q1 : f_X11_power (gq_L 10) (gq_I n - gq_I 1) μ = some (gq_L B) := by
      have q1 := gn_pC 10 (n := n - 1) (by omega) μ
      have eq : (10 : Int) ^ (n - 1) = ((10 ^ (n - 1) : Nat) : Int) := by rw [Int.natCast_pow]; rfl
      rw [eq, ← hB] at q1
      rw [gq_sub, show (n : Int) - 1 = ((n - 1 : Nat) : Int) by omega]
      exact q1
    have q1' := q1
    rw [gq_sub] at q1'
    obtain ⟨R, r0, r1, r2⟩ := gn_waitL (n := n) (by omega) (μ := μ) (ν := ν) (k := fun (x3_10 : Int64) => gx_br (f_X11_power (gq_L 10) (gq_I n - gq_I 1) μ) (fun (r11 : Int64) => if gq_I q = gq_I 2 then gx_br (f_X11_leastTaken x3_10 r11 μ) (fun (r18 : Int32) => some ((r18 : Int32).toInt64)) else gx_br (f_X11_dayBefore x3_10 r11 μ) (fun (r13 : Int64) => gx_lt (fun (j0_16 : Bool) => gx_br (f_X11_lowest r13 (r11 * gq_L 10) j0_16 μ) (fun (r17 : Int64) => some r17)) (fun J14 => if gq_I q = gq_I 1 then J14 true else J14 false)))) (k2 := fun (x3_28 : Int64) (x5_29 : Int64) (μ30 : gx_M) => if gq_I q = gq_I 2 then L_X12_waits_112 x3_28 x5_29 (fun (x7_57 : Int32) (μ58 : gx_M) => some ((x7_57 : Int32).toInt64, μ58)) 4000 (gq_I 0) μ30 else L_X12_waits_139 x5_29 x3_28 (fun (x7_44 : Int64) (μ45 : gx_M) => gx_lt (fun (j0_48 : Bool) (μ49 : gx_M) => gx_br (f_X12_part x7_44 (gq_L 10 * x5_29) j0_48 μ49) (fun (r50 : Int64) => some (r50, μ49))) (fun J46 => if gq_I q = gq_I 1 then J46 true μ45 else J46 false μ45)) 4000 (gq_L 0) (gq_I 0) μ30) (n - 1) 4000 4000 0 0 (by omega) (by omega) (by omega) (by omega)
    rw [← hB] at r0 r2
    have main : ∃ r, L_X11_waits_28 (gq_I n) μ (fun (x3_10 : Int64) => gx_br (f_X11_power (gq_L 10) (gq_I n - gq_I 1) μ) (fun (r11 : Int64) => if gq_I q = gq_I 2 then gx_br (f_X11_leastTaken x3_10 r11 μ) (fun (r18 : Int32) => some ((r18 : Int32).toInt64)) else gx_br (f_X11_dayBefore x3_10 r11 μ) (fun (r13 : Int64) => gx_lt (fun (j0_16 : Bool) => gx_br (f_X11_lowest r13 (r11 * gq_L 10) j0_16 μ) (fun (r17 : Int64) => some r17)) (fun J14 => if gq_I q = gq_I 1 then J14 true else J14 false)))) 4000 (gq_L (0 : Nat)) (gq_I (0 : Nat)) = some r ∧ L_X12_waits_36 (gq_I n) (fun (x3_28 : Int64) (x5_29 : Int64) (μ30 : gx_M) => if gq_I q = gq_I 2 then L_X12_waits_112 x3_28 x5_29 (fun (x7_57 : Int32) (μ58 : gx_M) => some ((x7_57 : Int32).toInt64, μ58)) 4000 (gq_I 0) μ30 else L_X12_waits_139 x5_29 x3_28 (fun (x7_44 : Int64) (μ45 : gx_M) => gx_lt (fun (j0_48 : Bool) (μ49 : gx_M) => gx_br (f_X12_part x7_44 (gq_L 10 * x5_29) j0_48 μ49) (fun (r50 : Int64) => some (r50, μ49))) (fun J46 => if gq_I q = gq_I 1 then J46 true μ45 else J46 false μ45)) 4000 (gq_L 0) (gq_I 0) μ30) 4000 (gq_L (0 : Nat)) (gq_L (10 ^ 0 : Nat)) (gq_I (0 + 1 : Nat)) ν = some (r, ν) := by
      rw [r1, r2]
      by_cases g2 : q = 2
      · obtain ⟨t, t1, t2⟩ := gn_leastL (A := R) (B := B) dd.2 r0 (ν := ν) (k := fun (x4_6 : Int32) => some x4_6) (k2 := fun (x7_57 : Int32) (μ58 : gx_M) => some ((x7_57 : Int32).toInt64, μ58)) 9 4000 0 (by omega) (by omega)
        have t3 : f_X11_leastTaken (gq_L R) (gq_L B) μ = some t := by
          unfold f_X11_leastTaken
          exact t1
        refine ⟨t.toInt64, ?_, ?_⟩
        · simp (disch := omega) only [Int.reduceToNat, gq_lit, gq_neg, gq_add, gq_sub, gq_mul, gq_nat, Int.toNat_natCast, gq_tadd, gq_tmul, gq_lte, gq_br, gq_bd, gq_ck, Bool.false_eq_true, gq_leT, gq_leF, gq_ltT, gq_ltF, gq_eqT, gq_eqF, if_true, if_false, q1', t3]
        · rw [if_pos (by rw [g2])]
          exact t2
      · have hs := gn_s_le r0 10 (by omega)
        have t3 : f_X11_dayBefore (gq_L R) (gq_L B) μ = some (gq_L (gn_s R B 10 : Nat)) := by
          unfold f_X11_dayBefore
          exact gn_dayC dd.2 r0 10 4000 0 (by omega) (by omega)
        have eb : (B : Int) * 10 = ((B * 10 : Nat) : Int) := by omega
        have eb2 : 10 * (B : Int) = ((B * 10 : Nat) : Int) := by omega
        obtain ⟨t, t1, t2⟩ := gn_part (a := gn_s R B 10) (b := B * 10) (by omega) (by omega) (by omega) (decide (q = 1)) μ ν
        refine ⟨t, ?_, ?_⟩
        · simp (disch := omega) only [Int.reduceToNat, gq_lit, gq_neg, gq_add, gq_sub, gq_mul, gq_nat, Int.toNat_natCast, gq_tadd, gq_tmul, gq_lte, gq_br, gq_bd, gq_ck, Bool.false_eq_true, gq_leT, gq_leF, gq_ltT, gq_ltF, gq_eqT, gq_eqF, if_true, if_false, q1', t3, gq_Lmul, eb]
          by_cases g3 : q = 1
          · rw [decide_eq_true g3] at t1
            rw [if_pos (by rw [g3]), t1]
            rfl
          · rw [decide_eq_false g3] at t1
            rw [if_neg (by rw [gq_eq (by omega)]; exact g3), t1]
            rfl
        · rw [if_neg (by rw [gq_eq (by omega)]; exact g2)]
          refine Eq.trans (gn_day139 dd.2 r0 10 4000 0 (by omega) (by omega)) ?_
          simp only [gq_lte, gq_Lmul, eb2]
          by_cases g3 : q = 1
          · rw [decide_eq_true g3] at t2
            rw [if_pos (by rw [g3]), t2]
            rfl
          · rw [decide_eq_false g3] at t2
            rw [if_neg (by rw [gq_eq (by omega)]; exact g3), t2]
            rfl
    obtain ⟨r, m1, m2⟩ := main
    refine ⟨r, ν, ?_, ?_, hJ⟩
    · unfold f_X11_waits
      simp (disch := omega) only [gq_lit, gq_Llit, Bool.false_eq_true, gq_leT, gq_leF, gq_ltT, gq_ltF, gq_eqT, gq_eqF, if_true, if_false, gq_amT]
      exact m1
    · unfold f_X12_waits
      simp (disch := omega) only [gq_lit, gq_Llit, gq_lte, Bool.false_eq_true, gq_leT, gq_leF, gq_ltT, gq_ltF, gq_eqT, gq_eqF, if_true, if_false, gq_inT]
      rw [← hν]
      exact m2
  · refine ⟨gq_L (-1), ν, ?_, ?_, hJ⟩
    · unfold f_X11_waits
      by_cases g1 : 1 ≤ n ∧ n ≤ 9
      · simp (disch := omega) only [Int.reduceToNat, gq_lit, gq_neg, gq_add, gq_sub, gq_mul, gq_nat, Int.toNat_natCast, gq_tadd, gq_tmul, gq_lte, gq_br, gq_bd, gq_ck, Bool.false_eq_true, gq_leT, gq_leF, gq_ltT, gq_ltF, gq_eqT, gq_eqF, if_true, if_false, gq_amT, gq_amF, gq_Llit, gq_Lneg]
      · simp (disch := omega) only [Int.reduceToNat, gq_lit, gq_neg, gq_add, gq_sub, gq_mul, gq_nat, Int.toNat_natCast, gq_tadd, gq_tmul, gq_lte, gq_br, gq_bd, gq_ck, Bool.false_eq_true, gq_leT, gq_leF, gq_ltT, gq_ltF, gq_eqT, gq_eqF, if_true, if_false, gq_amF, gq_Llit, gq_Lneg]
    · unfold f_X12_waits
      by_cases g1 : 1 ≤ n ∧ n ≤ 9
      · simp (disch := omega) only [Int.reduceToNat, gq_lit, gq_neg, gq_add, gq_sub, gq_mul, gq_nat, Int.toNat_natCast, gq_tadd, gq_tmul, gq_lte, gq_br, gq_bd, gq_ck, Bool.false_eq_true, gq_leT, gq_leF, gq_ltT, gq_ltF, gq_eqT, gq_eqF, if_true, if_false, gq_inT, gq_inF, gq_Llit, gq_Lneg]
        rw [← hν]
      · simp (disch := omega) only [Int.reduceToNat, gq_lit, gq_neg, gq_add, gq_sub, gq_mul, gq_nat, Int.toNat_natCast, gq_tadd, gq_tmul, gq_lte, gq_br, gq_bd, gq_ck, Bool.false_eq_true, gq_leT, gq_leF, gq_ltT, gq_ltF, gq_eqT, gq_eqF, if_true, if_false, gq_inF, gq_Llit, gq_Lneg]
        rw [← hν]
