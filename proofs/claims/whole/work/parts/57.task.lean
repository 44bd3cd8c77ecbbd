/-! a business done, on both sides -/
theorem gy_freeOf {μ : gx_M} (p : Int) {i : Nat} (hi : i < 40) : f_X3_isFreeOf (gq_I p) (gq_I i) μ = some (decide (μ.1 66 i = gq_I p ∧ μ.1 71 i = gq_I 0)) := by
  unfold f_X3_isFreeOf
  simp (disch := omega) only [Int.reduceToNat, gq_lit, gq_neg, gq_add, gq_sub, gq_mul, gq_nat, Int.toNat_natCast, gq_tadd, gq_tmul, gq_lte, gq_br, gq_bd, gq_ck]
  by_cases a : μ.1 66 i = gq_I p
  · rw [if_pos a]
    by_cases b : μ.1 71 i = gq_I 0
    · rw [if_pos b, decide_eq_true ⟨a, b⟩]
    · rw [if_neg b, decide_eq_false fun h => b h.2]
  · rw [if_neg a, decide_eq_false fun h => a h.1]
theorem gy_freeL {μ : gx_M} {n p : Int} (hn : 0 ≤ n ∧ n ≤ 40) (h0 : μ.1 63 0 = gq_I n) {k : Int64 → Option Int64} : ∀ (d f i : Nat) (x : Int64), d < f → (i : Int) + d = n → ∃ y, L_X3_freeMinutes_5 μ (gq_I p) k f x (gq_I i) = k y ∧ ∀ j, j < 64 → (gm_b y j = true ↔ gm_b x j = true ∨ (i ≤ j ∧ (j : Int) < n ∧ μ.1 66 j = gq_I p ∧ μ.1 71 j = gq_I 0))
  | _, 0, _, _, hf, _ => absurd hf (Nat.not_lt_zero _)
  | 0, f + 1, i, x, hf, hi => by
    refine ⟨x, ?_, fun j hj => ⟨fun g => Or.inl g, fun g => g.elim (fun g => g) fun g => absurd g.1 (by omega)⟩⟩
    rw [L_X3_freeMinutes_5.eq_2, h0]
    simp (disch := omega) only [Bool.false_eq_true, gq_leT, gq_leF, gq_ltT, gq_ltF, gq_eqT, gq_eqF, if_true, if_false]
  | d + 1, f + 1, i, x, hf, hi => by
    have fr := gy_freeOf (μ := μ) p (i := i) (by omega)
    by_cases g : μ.1 66 i = gq_I p ∧ μ.1 71 i = gq_I 0
    · obtain ⟨y, h1, h2⟩ := gy_freeL hn h0 (p := p) (k := k) d f (i + 1) (x ||| (gq_L 1 <<< (gq_L i &&& gq_L 63))) (by omega) (by omega)
      rw [decide_eq_true g] at fr
      refine ⟨y, ?_, fun j hj => ?_⟩
      · rw [L_X3_freeMinutes_5.eq_2, ← h1, h0, fr]
        simp (disch := omega) only [Int.reduceToNat, gq_lit, gq_neg, gq_add, gq_sub, gq_mul, gq_nat, Int.toNat_natCast, gq_tadd, gq_tmul, gq_lte, gq_br, gq_bd, gq_ck, Bool.false_eq_true, gq_leT, gq_leF, gq_ltT, gq_ltF, gq_eqT, gq_eqF, if_true, if_false, gq_toL, gq_Llit]
        rfl
      · rw [h2 j hj, gm_or1 (by omega) hj, Bool.or_eq_true, decide_eq_true_iff]
        constructor
        · rintro ((h | h) | h)
          · exact Or.inl h
          · subst h; exact Or.inr ⟨by omega, by omega, g⟩
          · exact Or.inr ⟨by omega, h.2⟩
        · rintro (h | h)
          · exact Or.inl (Or.inl h)
          · by_cases e : j = i
            · exact Or.inl (Or.inr e)
            · exact Or.inr ⟨by omega, h.2⟩
    · obtain ⟨y, h1, h2⟩ := gy_freeL hn h0 (p := p) (k := k) d f (i + 1) x (by omega) (by omega)
      rw [decide_eq_false g] at fr
      refine ⟨y, ?_, fun j hj => ?_⟩
      · rw [L_X3_freeMinutes_5.eq_2, ← h1, h0, fr]
        simp (disch := omega) only [Int.reduceToNat, gq_lit, gq_neg, gq_add, gq_sub, gq_mul, gq_nat, Int.toNat_natCast, gq_tadd, gq_tmul, gq_lte, gq_br, gq_bd, gq_ck, Bool.false_eq_true, gq_leT, gq_leF, gq_ltT, gq_ltF, gq_eqT, gq_eqF, if_true, if_false]
        rfl
      · rw [h2 j hj]
        constructor
        · rintro (h | h)
          · exact Or.inl h
          · exact Or.inr ⟨by omega, h.2⟩
        · rintro (h | h)
          · exact Or.inl h
          · by_cases e : j = i
            · subst e; exact absurd h.2.2 g
            · exact Or.inr ⟨by omega, h.2⟩
theorem gy_free {μ : gx_M} {n : Int} (p : Int) (hn : 0 ≤ n ∧ n ≤ 40) (h0 : μ.1 63 0 = gq_I n) : ∃ y, f_X3_freeMinutes (gq_I p) μ = some y ∧ ∀ j, j < 64 → (gm_b y j = true ↔ (j : Int) < n ∧ μ.1 66 j = gq_I p ∧ μ.1 71 j = gq_I 0) := by
  obtain ⟨y, h1, h2⟩ := gy_freeL hn h0 (p := p) (k := fun x => some x) n.toNat 4000 0 (gq_L 0) (by omega) (by omega)
  refine ⟨y, ?_, fun j hj => ?_⟩
  · unfold f_X3_freeMinutes
    simp only [gq_lit, gq_Llit]
    exact h1
  · rw [h2 j hj, gm_0 j hj]
    constructor
    · rintro (h | h)
      · exact absurd h (by decide)
      · exact h.2
    · intro h
      exact Or.inr ⟨by omega, h⟩
/-- goesIn: the times of the business, and a window of the mask -/
theorem gy_goesIn {μ : gx_M} {b m l fr t n : Int} {x : Int64} (hb : 0 ≤ b ∧ b < 6) (hl : 1 ≤ l ∧ l ≤ 9) (hf : 0 ≤ fr ∧ fr ≤ t ∧ t < n) (hn : n ≤ 40) (hm : 0 ≤ m ∧ m < n) (h1 : μ.1 67 b.toNat = gq_I l) (h2 : μ.1 68 b.toNat = gq_I fr) (h3 : μ.1 69 b.toNat = gq_I t) : ∃ r : Bool, f_X5_goesIn 63 (gq_I b) (gq_I m) x μ = some r ∧ (r = true ↔ fr ≤ m ∧ m + l - 1 ≤ t ∧ ∀ j : Nat, m ≤ j → (j : Int) < m + l → gm_b x j = true) := by
  unfold f_X5_goesIn
  obtain ⟨i, rfl⟩ : ∃ i : Nat, m = i := ⟨m.toNat, by omega⟩
  obtain ⟨k, rfl⟩ : ∃ k : Nat, l = k := ⟨l.toNat, by omega⟩
  by_cases g1 : (i : Int) < fr
  · refine ⟨false, ?_, fun h => absurd h (by decide), fun h => absurd h.1 (by omega)⟩
    simp (disch := omega) only [Int.reduceToNat, gq_lit, gq_neg, gq_add, gq_sub, gq_mul, gq_nat, Int.toNat_natCast, gq_tadd, gq_tmul, gq_lte, gq_br, gq_bd, gq_ck, Bool.false_eq_true, gq_leT, gq_leF, gq_ltT, gq_ltF, gq_eqT, gq_eqF, if_true, if_false, h1, h2, h3]
  · by_cases g2 : (i : Int) + k - 1 ≤ t
    · have e := gm_in (x := x) (n := k) (i := i) (by omega) (by omega) (by omega)
      by_cases g3 : ∀ j : Nat, (i : Int) ≤ j → (j : Int) < i + k → gm_b x j = true
      · refine ⟨true, ?_, fun _ => ⟨by omega, g2, g3⟩, fun _ => rfl⟩
        have e2 := e.2 fun j a b => g3 j (by omega) (by omega)
        simp (disch := omega) only [Int.reduceToNat, gq_lit, gq_neg, gq_add, gq_sub, gq_mul, gq_nat, Int.toNat_natCast, gq_tadd, gq_tmul, gq_lte, gq_br, gq_bd, gq_ck, gq_sub, Bool.false_eq_true, gq_leT, gq_leF, gq_ltT, gq_ltF, gq_eqT, gq_eqF, if_true, if_false, h1, h2, h3, gq_toL, gq_Llit]
        exact if_pos e2
      · refine ⟨false, ?_, fun h => absurd h (by decide), fun h => absurd h.2.2 g3⟩
        have e2 := fun c => g3 fun j a b => (e.1 c) j (by omega) (by omega)
        simp (disch := omega) only [Int.reduceToNat, gq_lit, gq_neg, gq_add, gq_sub, gq_mul, gq_nat, Int.toNat_natCast, gq_tadd, gq_tmul, gq_lte, gq_br, gq_bd, gq_ck, gq_sub, Bool.false_eq_true, gq_leT, gq_leF, gq_ltT, gq_ltF, gq_eqT, gq_eqF, if_true, if_false, h1, h2, h3, gq_toL, gq_Llit]
        exact if_neg e2
    · refine ⟨false, ?_, fun h => absurd h (by decide), fun h => absurd h.2.1 g2⟩
      simp (disch := omega) only [Int.reduceToNat, gq_lit, gq_neg, gq_add, gq_sub, gq_mul, gq_nat, Int.toNat_natCast, gq_tadd, gq_tmul, gq_lte, gq_br, gq_bd, gq_ck, gq_sub, Bool.false_eq_true, gq_leT, gq_leF, gq_ltT, gq_ltF, gq_eqT, gq_eqF, if_true, if_false, h1, h2, h3]
