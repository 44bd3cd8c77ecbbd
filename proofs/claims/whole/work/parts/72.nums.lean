/-! numbers: powers, choices, fractions; tin, enough, waits -/
theorem gn_powC {a : Int} {n : Nat} (hn : n ≤ 10) {k : Int64 → Option Int64} : ∀ (d f i : Nat), d < f → i + d = n → L_X11_power_5 (gq_I n) (gq_L a) k f (gq_L (a ^ i)) (gq_I i) = k (gq_L (a ^ n))
  | _, 0, _, hf, _ => absurd hf (Nat.not_lt_zero _)
  | 0, f + 1, i, hf, hi => by
    rw [L_X11_power_5.eq_2, show i = n by omega]
    simp (disch := omega) only [Int.reduceToNat, gq_lit, gq_neg, gq_add, gq_sub, gq_mul, gq_nat, Int.toNat_natCast, gq_tadd, gq_tmul, gq_lte, gq_br, gq_bd, gq_ck, Bool.false_eq_true, gq_leT, gq_leF, gq_ltT, gq_ltF, gq_eqT, gq_eqF, if_true, if_false]
  | d + 1, f + 1, i, hf, hi => by
    rw [← gn_powC hn (k := k) d f (i + 1) (by omega) (by omega), L_X11_power_5.eq_2]
    simp (disch := omega) only [Int.reduceToNat, gq_lit, gq_neg, gq_add, gq_sub, gq_mul, gq_nat, Int.toNat_natCast, gq_tadd, gq_tmul, gq_lte, gq_br, gq_bd, gq_ck, Bool.false_eq_true, gq_leT, gq_leF, gq_ltT, gq_ltF, gq_eqT, gq_eqF, if_true, if_false, gq_Lmul]
    rw [Int.pow_succ]
    rfl
theorem gn_powM {a : Int} {n : Nat} (hn : n ≤ 10) {k : Int64 → Option Int64} : ∀ (d f i : Nat), d < f → i + d = n → L_X12_power_5 (gq_I n) (gq_L a) k f (gq_L (a ^ i)) (gq_I i) = k (gq_L (a ^ n))
  | _, 0, _, hf, _ => absurd hf (Nat.not_lt_zero _)
  | 0, f + 1, i, hf, hi => by
    rw [L_X12_power_5.eq_2, show i = n by omega]
    simp (disch := omega) only [Int.reduceToNat, gq_lit, gq_neg, gq_add, gq_sub, gq_mul, gq_nat, Int.toNat_natCast, gq_tadd, gq_tmul, gq_lte, gq_br, gq_bd, gq_ck, Bool.false_eq_true, gq_leT, gq_leF, gq_ltT, gq_ltF, gq_eqT, gq_eqF, if_true, if_false]
  | d + 1, f + 1, i, hf, hi => by
    rw [← gn_powM hn (k := k) d f (i + 1) (by omega) (by omega), L_X12_power_5.eq_2]
    simp (disch := omega) only [Int.reduceToNat, gq_lit, gq_neg, gq_add, gq_sub, gq_mul, gq_nat, Int.toNat_natCast, gq_tadd, gq_tmul, gq_lte, gq_br, gq_bd, gq_ck, Bool.false_eq_true, gq_leT, gq_leF, gq_ltT, gq_ltF, gq_eqT, gq_eqF, if_true, if_false, gq_Lmul]
    rw [Int.pow_succ]
    rfl
theorem gn_pC (a : Int) {n : Nat} (hn : n ≤ 10) (μ : gx_M) : f_X11_power (gq_L a) (gq_I n) μ = some (gq_L (a ^ n)) := by
  unfold f_X11_power
  simp only [gq_lit, gq_Llit]
  have h := gn_powC (a := a) hn (k := fun (x3_7 : Int64) => some x3_7) n 4000 0 (by omega) (by omega)
  rw [Int.pow_zero] at h
  exact h
theorem gn_pM (a : Int) {n : Nat} (hn : n ≤ 10) (μ : gx_M) : f_X12_power (gq_L a) (gq_I n) μ = some (gq_L (a ^ n)) := by
  unfold f_X12_power
  simp only [gq_lit, gq_Llit]
  have h := gn_powM (a := a) hn (k := fun (x3_7 : Int64) => some x3_7) n 4000 0 (by omega) (by omega)
  rw [Int.pow_zero] at h
  exact h
def gn_k (n i : Nat) : Nat → Int
  | 0 => 1
  | j + 1 => gn_k n i j * ((n : Int) - i + (j + 1 : Nat)) / ((j + 1 : Nat) : Int)
def gn_c (n : Nat) : Nat → Int
  | 0 => 1
  | j + 1 => gn_c n j * ((n : Int) - j) / ((j + 1 : Nat) : Int)
theorem gn_dk : ∀ n, n < 10 → ∀ i, i < n + 1 → gn_k n i i = gn_c n i ∧ (0 ≤ gn_c n i ∧ gn_c n i ≤ 126) ∧ ∀ j, j < i + 1 → 0 ≤ gn_k n i j ∧ gn_k n i j ≤ 1000 := by decide +kernel
theorem gn_dt : ∀ n, n < 10 → ∀ p, p < 11 → ∀ i, i < n + 1 → 0 ≤ gn_c n i * (10 - (p : Nat) : Int) ^ i * ((p : Nat) : Int) ^ (n - i) ∧ gn_c n i * (10 - (p : Nat) : Int) ^ i * ((p : Nat) : Int) ^ (n - i) ≤ 1000000000000 := by decide +kernel
theorem gn_picL {n i : Nat} (hn : n < 10) (hi : i < n + 1) {k : Int64 → Option Int64} : ∀ (d f j : Nat), d < f → j + d = i → L_X11_picks_5 (gq_I i) (gq_I n) k f (gq_L (gn_k n i j)) (gq_I (j + 1 : Nat)) = k (gq_L (gn_k n i i))
  | _, 0, _, hf, _ => absurd hf (Nat.not_lt_zero _)
  | 0, f + 1, j, hf, hj => by
    rw [L_X11_picks_5.eq_2, show j = i by omega]
    simp (disch := omega) only [Int.reduceToNat, gq_lit, gq_neg, gq_add, gq_sub, gq_mul, gq_nat, Int.toNat_natCast, gq_tadd, gq_tmul, gq_lte, gq_br, gq_bd, gq_ck, Bool.false_eq_true, gq_leT, gq_leF, gq_ltT, gq_ltF, gq_eqT, gq_eqF, if_true, if_false]
  | d + 1, f + 1, j, hf, hj => by
    have h1 := (gn_dk n hn i hi).2.2 j (by omega)
    have e : (n : Int) - i + (j + 1 : Nat) ≤ 20 ∧ 0 ≤ (n : Int) - i + (j + 1 : Nat) := by omega
    have h2 : 0 ≤ gn_k n i j * ((n : Int) - i + (j + 1 : Nat)) := Int.mul_nonneg h1.1 e.2
    have h3 : gn_k n i j * ((n : Int) - i + (j + 1 : Nat)) ≤ 1000 * 20 := Int.mul_le_mul h1.2 e.1 e.2 (by omega)
    rw [← gn_picL hn hi (k := k) d f (j + 1) (by omega) (by omega), L_X11_picks_5.eq_2]
    have ne : ¬ (gq_L ((j + 1 : Nat) : Int) = gq_L 0) := by rw [gq_Leq (by omega)]; omega
    simp (disch := omega) only [Int.reduceToNat, gq_lit, gq_neg, gq_add, gq_sub, gq_mul, gq_nat, Int.toNat_natCast, gq_tadd, gq_tmul, gq_lte, gq_br, gq_bd, gq_ck, gq_sub, Bool.false_eq_true, gq_leT, gq_leF, gq_ltT, gq_ltF, gq_eqT, gq_eqF, if_true, if_false, gq_toL, gq_Llit]
    rw [gq_ckT ne, gq_Lmul, gq_Ldiv (by omega)]
    rfl
theorem gn_pic {n i : Nat} (hn : n < 10) (hi : i < n + 1) (μ : gx_M) : f_X11_picks (gq_I n) (gq_I i) μ = some (gq_L (gn_c n i)) := by
  unfold f_X11_picks
  simp only [gq_lit, gq_Llit]
  rw [← (gn_dk n hn i hi).1]
  have h := gn_picL hn hi (k := fun (x2_8 : Int64) => some x2_8) i 4000 0 (by omega) (by omega)
  rw [show gn_k n i 0 = 1 from rfl] at h
  exact h
/-- from k on both add alike -/
theorem gn_wayL {n p kk : Nat} (hn : n < 10) (hp : p < 11) {μ : gx_M} {k k2 : Int64 → Option Int64} : ∀ (d f f2 i : Nat) (A B : Int), d < f → d < f2 → i + d = n + 1 → kk ≤ i → kk < 10 → (i ≤ n → B = gn_c n i) → (0 ≤ A ∧ A ≤ 1000000000000 * i) → ∃ R : Int, (0 ≤ R ∧ R ≤ 10000000000000) ∧ L_X11_waysLeft_5 (gq_I n) μ (gq_I p) k f (gq_L A) (gq_I i) = k (gq_L R) ∧ L_X12_leftBy_8 (gq_I n) (gq_I kk) (gq_I p) μ k2 f2 (gq_L A) (gq_L B) (gq_I i) = k2 (gq_L R)
  | _, 0, _, _, _, _, hf, _, _, _, _, _, _ => absurd hf (Nat.not_lt_zero _)
  | _, _, 0, _, _, _, _, hf, _, _, _, _, _ => absurd hf (Nat.not_lt_zero _)
  | 0, f + 1, f2 + 1, i, A, B, hf, hf2, hi, hk, hk2, hB, hA => by
    refine ⟨A, by omega, ?_, ?_⟩
    · rw [L_X11_waysLeft_5.eq_2]
      simp (disch := omega) only [Int.reduceToNat, gq_lit, gq_neg, gq_add, gq_sub, gq_mul, gq_nat, Int.toNat_natCast, gq_tadd, gq_tmul, gq_lte, gq_br, gq_bd, gq_ck, Bool.false_eq_true, gq_leT, gq_leF, gq_ltT, gq_ltF, gq_eqT, gq_eqF, if_true, if_false]
    · rw [L_X12_leftBy_8.eq_2]
      simp (disch := omega) only [Int.reduceToNat, gq_lit, gq_neg, gq_add, gq_sub, gq_mul, gq_nat, Int.toNat_natCast, gq_tadd, gq_tmul, gq_lte, gq_br, gq_bd, gq_ck, Bool.false_eq_true, gq_leT, gq_leF, gq_ltT, gq_ltF, gq_eqT, gq_eqF, if_true, if_false]
  | d + 1, f + 1, f2 + 1, i, A, B, hf, hf2, hi, hk, hk2, hB, hA => by
    have hB' := hB (by omega)
    have ht := gn_dt n hn p hp i (by omega)
    have hc := (gn_dk n hn i (by omega)).2.1
    obtain ⟨R, r0, r1, r2⟩ := gn_wayL hn hp (kk := kk) (μ := μ) (k := k) (k2 := k2) d f f2 (i + 1) (A + gn_c n i * (10 - (p : Nat) : Int) ^ i * ((p : Nat) : Int) ^ (n - i)) (gn_c n (i + 1)) (by omega) (by omega) (by omega) (by omega) hk2 (fun _ => rfl) (by omega)
    have e0 : gq_I n - gq_I i = gq_I (n - i : Nat) := by rw [gq_sub, show (n : Int) - i = (n - i : Nat) by omega]
    refine ⟨R, r0, ?_, ?_⟩
    · rw [← r1, L_X11_waysLeft_5.eq_2, e0]
      have e1 := gn_pic hn (i := i) (by omega) μ
      have e2 := gn_pC (10 - (p : Int)) (n := i) (by omega) μ
      have e3 := gn_pC (p : Int) (n := n - i) (by omega) μ
      simp (disch := omega) only [Int.reduceToNat, gq_lit, gq_neg, gq_add, gq_sub, gq_mul, gq_nat, Int.toNat_natCast, gq_tadd, gq_tmul, gq_lte, gq_br, gq_bd, gq_ck, gq_sub, Bool.false_eq_true, gq_leT, gq_leF, gq_ltT, gq_ltF, gq_eqT, gq_eqF, if_true, if_false, gq_toL, gq_Llit, e1, e2, e3, gq_Lmul, gq_Ladd]
      rfl
    · have hm : (0 : Int) ≤ gn_c n i * ((n : Int) - i) ∧ gn_c n i * ((n : Int) - i) ≤ 126 * 10 := ⟨Int.mul_nonneg hc.1 (by omega), Int.mul_le_mul hc.2 (by omega) (by omega) (by omega)⟩
      have ne : ¬ (gq_L ((i : Int) + 1) = gq_L 0) := by rw [gq_Leq (by omega)]; omega
      rw [← r2, L_X12_leftBy_8.eq_2, e0, hB']
      have e2 := gn_pM (10 - (p : Int)) (n := i) (by omega) μ
      have e3 := gn_pM (p : Int) (n := n - i) (by omega) μ
      simp (disch := omega) only [Int.reduceToNat, gq_lit, gq_neg, gq_add, gq_sub, gq_mul, gq_nat, Int.toNat_natCast, gq_tadd, gq_tmul, gq_lte, gq_br, gq_bd, gq_ck, Bool.false_eq_true, gq_leT, gq_leF, gq_ltT, gq_ltF, gq_eqT, gq_eqF, if_true, if_false, gq_toL, gq_Llit, gq_Lsub, e2, e3, gq_Lmul, gq_Ladd]
      rw [gq_ckT ne, show ((n - i : Nat) : Int) = (n : Int) - i by omega, gq_Ldiv (by omega)]
      rfl
/-- before k the check adds nothing -/
theorem gn_leftL {n p kk : Nat} (hn : n < 10) (hp : p < 11) (hk : kk < 10) {μ : gx_M} {k2 : Int64 → Option Int64} {P : Option Int64 → Prop} : ∀ (d f i : Nat), d + 20 < f → i + d = kk → i ≤ n + 1 → ((∀ f2, 15 < f2 → kk ≤ n + 1 → P (L_X12_leftBy_8 (gq_I n) (gq_I kk) (gq_I p) μ k2 f2 (gq_L 0) (gq_L (gn_c n kk)) (gq_I kk))) ∧ (n + 1 < kk → P (k2 (gq_L 0)))) → P (L_X12_leftBy_8 (gq_I n) (gq_I kk) (gq_I p) μ k2 f (gq_L 0) (gq_L (gn_c n i)) (gq_I i))
  | _, 0, _, hf, _, _, _ => absurd hf (Nat.not_lt_zero _)
  | 0, f + 1, i, hf, hi, hl, h => by
    have e : i = kk := by omega
    rw [e]
    exact h.1 (f + 1) (by omega) (by omega)
  | d + 1, f + 1, i, hf, hi, hl, h => by
    by_cases g : i ≤ n
    · have ih := gn_leftL hn hp hk (μ := μ) (k2 := k2) (P := P) d f (i + 1) (by omega) (by omega) (by omega) h
      have hc := (gn_dk n hn i (by omega)).2.1
      have hm : (0 : Int) ≤ gn_c n i * ((n : Int) - i) ∧ gn_c n i * ((n : Int) - i) ≤ 126 * 10 := ⟨Int.mul_nonneg hc.1 (by omega), Int.mul_le_mul hc.2 (by omega) (by omega) (by omega)⟩
      have ne : ¬ (gq_L ((i : Int) + 1) = gq_L 0) := by rw [gq_Leq (by omega)]; omega
      rw [L_X12_leftBy_8.eq_2]
      simp (disch := omega) only [Int.reduceToNat, gq_lit, gq_neg, gq_add, gq_sub, gq_mul, gq_nat, Int.toNat_natCast, gq_tadd, gq_tmul, gq_lte, gq_br, gq_bd, gq_ck, gq_sub, Bool.false_eq_true, gq_leT, gq_leF, gq_ltT, gq_ltF, gq_eqT, gq_eqF, if_true, if_false, gq_toL, gq_Llit, gq_Lmul, gq_Ladd]
      rw [gq_ckT ne, gq_Ldiv (by omega)]
      exact ih
    · rw [L_X12_leftBy_8.eq_2]
      simp (disch := omega) only [Int.reduceToNat, gq_lit, gq_neg, gq_add, gq_sub, gq_mul, gq_nat, Int.toNat_natCast, gq_tadd, gq_tmul, gq_lte, gq_br, gq_bd, gq_ck, Bool.false_eq_true, gq_leT, gq_leF, gq_ltT, gq_ltF, gq_eqT, gq_eqF, if_true, if_false]
      exact h.2 (by omega)
theorem gn_ways {n p kk : Nat} (hn : n < 10) (hp : p < 11) (hk : kk < 10) (μ ν : gx_M) : ∃ R : Int, (0 ≤ R ∧ R ≤ 10000000000000) ∧ f_X11_waysLeft (gq_I n) (gq_I kk) (gq_I p) μ = some (gq_L R) ∧ f_X12_leftBy (gq_I n) (gq_I kk) (gq_I p) ν = some (gq_L R) ∧ (n < kk → R = 0) := by
  have swap : ∀ f a b i, L_X12_leftBy_8 (gq_I n) (gq_I kk) (gq_I p) ν (fun (x3_15 : Int64) => some x3_15) f a b i = L_X12_leftBy_8 (gq_I n) (gq_I kk) (gq_I p) μ (fun (x3_15 : Int64) => some x3_15) f a b i := by
    have pw : ∀ a b, f_X12_power a b ν = f_X12_power a b μ := fun a b => rfl
    intro f
    induction f with
    | zero => intro a b i; rfl
    | succ f ih =>
      intro a b i
      rw [L_X12_leftBy_8.eq_2, L_X12_leftBy_8.eq_2]
      simp only [pw, ih]
  unfold f_X11_waysLeft f_X12_leftBy
  rw [swap]
  by_cases g : kk ≤ n + 1
  · by_cases g2 : kk ≤ n
    · obtain ⟨R0, _⟩ : ∃ R0 : Int, True := ⟨0, trivial⟩
      have key := gn_leftL hn hp hk (μ := μ) (k2 := fun (x3_15 : Int64) => some x3_15) (P := fun x => ∃ R : Int, (0 ≤ R ∧ R ≤ 10000000000000) ∧ L_X11_waysLeft_5 (gq_I n) μ (gq_I p) (fun (x3_10 : Int64) => some x3_10) 4000 (gq_L 0) (gq_I kk) = some (gq_L R) ∧ x = some (gq_L R) ∧ (n < kk → R = 0)) kk 4000 0 (by omega) (by omega) (by omega) ⟨fun f2 hf2 _ => by
        obtain ⟨R, r0, r1, r2⟩ := gn_wayL hn hp (kk := kk) (μ := μ) (k := fun (x3_10 : Int64) => some x3_10) (k2 := fun (x3_15 : Int64) => some x3_15) (n + 1 - kk) 4000 f2 kk 0 (gn_c n kk) (by omega) (by omega) (by omega) (by omega) hk (fun _ => rfl) (by omega)
        exact ⟨R, r0, r1, r2, fun c => absurd c (by omega)⟩, fun c => absurd c (by omega)⟩
      simp only [gq_lit, gq_Llit]
      exact key
    · have key := gn_leftL hn hp hk (μ := μ) (k2 := fun (x3_15 : Int64) => some x3_15) (P := fun x => ∃ R : Int, (0 ≤ R ∧ R ≤ 10000000000000) ∧ L_X11_waysLeft_5 (gq_I n) μ (gq_I p) (fun (x3_10 : Int64) => some x3_10) 4000 (gq_L 0) (gq_I kk) = some (gq_L R) ∧ x = some (gq_L R) ∧ (n < kk → R = 0)) kk 4000 0 (by omega) (by omega) (by omega) ⟨fun f2 hf2 _ => by
        refine ⟨0, by omega, ?_, ?_, fun _ => rfl⟩
        · rw [L_X11_waysLeft_5.eq_2]
          simp (disch := omega) only [Int.reduceToNat, gq_lit, gq_neg, gq_add, gq_sub, gq_mul, gq_nat, Int.toNat_natCast, gq_tadd, gq_tmul, gq_lte, gq_br, gq_bd, gq_ck, Bool.false_eq_true, gq_leT, gq_leF, gq_ltT, gq_ltF, gq_eqT, gq_eqF, if_true, if_false]
        · obtain ⟨f3, rfl⟩ : ∃ f3, f2 = f3 + 1 := ⟨f2 - 1, by omega⟩
          rw [L_X12_leftBy_8.eq_2]
          simp (disch := omega) only [Int.reduceToNat, gq_lit, gq_neg, gq_add, gq_sub, gq_mul, gq_nat, Int.toNat_natCast, gq_tadd, gq_tmul, gq_lte, gq_br, gq_bd, gq_ck, Bool.false_eq_true, gq_leT, gq_leF, gq_ltT, gq_ltF, gq_eqT, gq_eqF, if_true, if_false], fun c => absurd c (by omega)⟩
      simp only [gq_lit, gq_Llit]
      exact key
  · have key := gn_leftL hn hp hk (μ := μ) (k2 := fun (x3_15 : Int64) => some x3_15) (P := fun x => ∃ R : Int, (0 ≤ R ∧ R ≤ 10000000000000) ∧ L_X11_waysLeft_5 (gq_I n) μ (gq_I p) (fun (x3_10 : Int64) => some x3_10) 4000 (gq_L 0) (gq_I kk) = some (gq_L R) ∧ x = some (gq_L R) ∧ (n < kk → R = 0)) kk 4000 0 (by omega) (by omega) (by omega) ⟨fun f2 hf2 c => absurd c (by omega), fun _ => by
      refine ⟨0, by omega, ?_, rfl, fun _ => rfl⟩
      rw [L_X11_waysLeft_5.eq_2]
      simp (disch := omega) only [Int.reduceToNat, gq_lit, gq_neg, gq_add, gq_sub, gq_mul, gq_nat, Int.toNat_natCast, gq_tadd, gq_tmul, gq_lte, gq_br, gq_bd, gq_ck, Bool.false_eq_true, gq_leT, gq_leF, gq_ltT, gq_ltF, gq_eqT, gq_eqF, if_true, if_false]⟩
    simp only [gq_lit, gq_Llit]
    exact key
