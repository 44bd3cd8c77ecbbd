/-! sets of minutes in a long -/
def gm_b (x : Int64) (j : Nat) : Bool := x.toBitVec.getLsbD j
theorem gm_ext {x y : Int64} (h : ∀ j, j < 64 → gm_b x j = gm_b y j) : x = y := Int64.toBitVec_inj.mp (BitVec.eq_of_getLsbD_eq fun i hi => h i hi)
theorem gm_or (x y : Int64) (j : Nat) : gm_b (x ||| y) j = (gm_b x j || gm_b y j) := by unfold gm_b; rw [Int64.toBitVec_or, BitVec.getLsbD_or]
theorem gm_and (x y : Int64) (j : Nat) : gm_b (x &&& y) j = (gm_b x j && gm_b y j) := by unfold gm_b; rw [Int64.toBitVec_and, BitVec.getLsbD_and]
theorem gm_xor (x y : Int64) (j : Nat) : gm_b (x ^^^ y) j = (gm_b x j ^^ gm_b y j) := by unfold gm_b; rw [Int64.toBitVec_xor, BitVec.getLsbD_xor]
theorem gm_m1 : ∀ j, j < 64 → gm_b (gq_L (-1)) j = true := by decide +kernel
theorem gm_0 : ∀ j, j < 64 → gm_b (gq_L 0) j = false := by decide +kernel
theorem gm_not {x : Int64} {j : Nat} (h : j < 64) : gm_b (x ^^^ gq_L (-1)) j = !gm_b x j := by
  rw [gm_xor, gm_m1 j h]
  cases gm_b x j <;> rfl
theorem gm_bit : ∀ i : Nat, i < 41 → ∀ j, j < 64 → gm_b (gq_L 1 <<< (gq_L i &&& gq_L 63)) j = decide (j = i) := by decide +kernel
theorem gm_low : ∀ i : Nat, i < 41 → ∀ j, j < 64 → gm_b ((gq_L 1 <<< (gq_L i &&& gq_L 63)) - gq_L 1) j = decide (j < i) := by decide +kernel
theorem gm_amt : ∀ i : Nat, i < 64 → ((gq_L i &&& gq_L 63).toBitVec.smod 64).toNat = i := by decide +kernel
theorem gm_shl {x : Int64} {i j : Nat} (hi : i < 64) (hj : j < 64) : gm_b (x <<< (gq_L i &&& gq_L 63)) j = (decide (i ≤ j) && gm_b x (j - i)) := by
  unfold gm_b
  rw [Int64.toBitVec_shiftLeft, BitVec.shiftLeft_eq', gm_amt i hi, BitVec.getLsbD_shiftLeft]
  by_cases h : i ≤ j
  · simp only [hj, h, decide_true, Bool.true_and, Nat.not_lt.mpr h, decide_false, Bool.not_false]
  · simp only [h, decide_false, Bool.false_and, Nat.lt_of_not_le h, decide_true, Bool.not_true, Bool.and_false]
theorem gm_win {n i j : Nat} (hn : n < 41) (hi : i < 64) (hj : j < 64) : gm_b (((gq_L 1 <<< (gq_L n &&& gq_L 63)) - gq_L 1) <<< (gq_L i &&& gq_L 63)) j = decide (i ≤ j ∧ j < i + n) := by
  rw [gm_shl hi hj, gm_low n hn _ (by omega)]
  by_cases h : i ≤ j
  · rw [decide_eq_true h, Bool.true_and]
    by_cases h2 : j < i + n
    · rw [decide_eq_true (by omega), decide_eq_true (by omega)]
    · rw [decide_eq_false (by omega), decide_eq_false (by omega)]
  · rw [decide_eq_false h, Bool.false_and, decide_eq_false (by omega)]
/-- a window lies in a set -/
theorem gm_in {x : Int64} {n i : Nat} (hn : n < 41) (hi : i + n ≤ 64) (hi2 : i < 64) : ((((gq_L 1 <<< (gq_L n &&& gq_L 63)) - gq_L 1) <<< (gq_L i &&& gq_L 63)) &&& (x ^^^ gq_L (-1)) = gq_L 0) ↔ ∀ j, i ≤ j → j < i + n → gm_b x j = true := by
  constructor
  · intro h j h1 h2
    have := congrArg (fun y => gm_b y j) h
    simp only [gm_and] at this
    rw [gm_win hn hi2 (by omega), gm_not (by omega), gm_0 j (by omega), decide_eq_true ⟨h1, h2⟩, Bool.true_and] at this
    cases hb : gm_b x j
    · rw [hb] at this; exact absurd this (by decide)
    · rfl
  · intro h
    refine gm_ext fun j hj => ?_
    rw [gm_and, gm_win hn hi2 hj, gm_not hj, gm_0 j hj]
    by_cases g : i ≤ j ∧ j < i + n
    · rw [h j g.1 g.2]
      exact Bool.and_false _
    · rw [decide_eq_false g, Bool.false_and]
/-- a window misses a set -/
theorem gm_out {x : Int64} {n i : Nat} (hn : n < 41) (hi : i + n ≤ 64) (hi2 : i < 64) : ((((gq_L 1 <<< (gq_L n &&& gq_L 63)) - gq_L 1) <<< (gq_L i &&& gq_L 63)) &&& x = gq_L 0) ↔ ∀ j, i ≤ j → j < i + n → gm_b x j = false := by
  constructor
  · intro h j h1 h2
    have := congrArg (fun y => gm_b y j) h
    simp only [gm_and] at this
    rw [gm_win hn hi2 (by omega), gm_0 j (by omega), decide_eq_true ⟨h1, h2⟩, Bool.true_and] at this
    exact this
  · intro h
    refine gm_ext fun j hj => ?_
    rw [gm_and, gm_win hn hi2 hj, gm_0 j hj]
    by_cases g : i ≤ j ∧ j < i + n
    · rw [h j g.1 g.2]
      exact Bool.and_false _
    · rw [decide_eq_false g, Bool.false_and]
theorem gm_or1 {x : Int64} {i j : Nat} (hi : i < 41) (hj : j < 64) : gm_b (x ||| (gq_L 1 <<< (gq_L i &&& gq_L 63))) j = (gm_b x j || decide (j = i)) := by
  rw [gm_or, gm_bit i hi j hj]
/-- the minutes of one person: as the class finds them -/
theorem gm_heldL {μ : gx_M} {a : Nat} {n p : Int} {O : Nat → Int} (hn : 0 ≤ n ∧ n ≤ 40) (h0 : μ.1 a 0 = gq_I n) (hO : ∀ m, m < 40 → μ.1 (a + 3) m = gq_I (O m)) (hb : ∀ m, m < 40 → -1 ≤ O m ∧ O m ≤ 4) (hp : 0 ≤ p ∧ p ≤ 4) {k : Int64 → Option Int64} : ∀ (d f i : Nat) (x : Int64), d < f → (i : Int) + d = n → ∃ y, L_X5_held_5 μ a (gq_I p) k f x (gq_I i) = k y ∧ ∀ j, j < 64 → (gm_b y j = true ↔ gm_b x j = true ∨ (i ≤ j ∧ (j : Int) < n ∧ O j = p))
  | _, 0, _, _, hf, _ => absurd hf (Nat.not_lt_zero _)
  | 0, f + 1, i, x, hf, hi => by
    refine ⟨x, ?_, fun j hj => ⟨fun g => Or.inl g, fun g => g.elim (fun g => g) fun g => absurd g.1 (by omega)⟩⟩
    rw [L_X5_held_5.eq_2, h0]
    simp (disch := omega) only [Bool.false_eq_true, gq_leT, gq_leF, gq_ltT, gq_ltF, gq_eqT, gq_eqF, if_true, if_false]
  | d + 1, f + 1, i, x, hf, hi => by
    have o := hO i (by omega)
    have b := hb i (by omega)
    by_cases g : O i = p
    · obtain ⟨y, h1, h2⟩ := gm_heldL hn h0 hO hb hp (k := k) d f (i + 1) (x ||| (gq_L 1 <<< (gq_L i &&& gq_L 63))) (by omega) (by omega)
      refine ⟨y, ?_, fun j hj => ?_⟩
      · rw [L_X5_held_5.eq_2, ← h1, h0]
        simp (disch := omega) only [Int.reduceToNat, gq_lit, gq_neg, gq_add, gq_sub, gq_mul, gq_nat, Int.toNat_natCast, gq_tadd, gq_tmul, gq_lte, gq_br, gq_bd, gq_ck, Bool.false_eq_true, gq_leT, gq_leF, gq_ltT, gq_ltF, gq_eqT, gq_eqF, if_true, if_false, o, gq_toL, gq_Llit]
        rfl
      · rw [h2 j hj, gm_or1 (by omega) hj, Bool.or_eq_true, decide_eq_true_iff]
        constructor
        · rintro ((h | h) | h)
          · exact Or.inl h
          · subst h; exact Or.inr ⟨by omega, by omega, g⟩
          · exact Or.inr ⟨by omega, h.2⟩
        · rintro (h | h)
          · exact Or.inl (Or.inl h)
          · by_cases e : j = i
            · exact Or.inl (Or.inr e)
            · exact Or.inr ⟨by omega, h.2⟩
    · obtain ⟨y, h1, h2⟩ := gm_heldL hn h0 hO hb hp (k := k) d f (i + 1) x (by omega) (by omega)
      refine ⟨y, ?_, fun j hj => ?_⟩
      · rw [L_X5_held_5.eq_2, ← h1, h0]
        simp (disch := omega) only [Int.reduceToNat, gq_lit, gq_neg, gq_add, gq_sub, gq_mul, gq_nat, Int.toNat_natCast, gq_tadd, gq_tmul, gq_lte, gq_br, gq_bd, gq_ck, Bool.false_eq_true, gq_leT, gq_leF, gq_ltT, gq_ltF, gq_eqT, gq_eqF, if_true, if_false, o]
        rfl
      · rw [h2 j hj]
        constructor
        · rintro (h | h)
          · exact Or.inl h
          · exact Or.inr ⟨by omega, h.2⟩
        · rintro (h | h)
          · exact Or.inl h
          · by_cases e : j = i
            · subst e; exact absurd h.2.2 g
            · exact Or.inr ⟨by omega, h.2⟩
theorem gm_held {μ : gx_M} {a : Nat} {n p : Int} {O : Nat → Int} (hn : 0 ≤ n ∧ n ≤ 40) (h0 : μ.1 a 0 = gq_I n) (hO : ∀ m, m < 40 → μ.1 (a + 3) m = gq_I (O m)) (hb : ∀ m, m < 40 → -1 ≤ O m ∧ O m ≤ 4) (hp : 0 ≤ p ∧ p ≤ 4) : ∃ y, f_X5_held a (gq_I p) μ = some y ∧ ∀ j, j < 64 → (gm_b y j = true ↔ (j : Int) < n ∧ O j = p) := by
  obtain ⟨y, h1, h2⟩ := gm_heldL hn h0 hO hb hp (k := fun x => some x) n.toNat 4000 0 (gq_L 0) (by omega) (by omega)
  refine ⟨y, ?_, fun j hj => ?_⟩
  · unfold f_X5_held
    simp only [gq_lit, gq_Llit]
    exact h1
  · rw [h2 j hj, gm_0 j hj]
    constructor
    · rintro (h | h)
      · exact absurd h (by decide)
      · exact h.2
    · intro h
      exact Or.inr ⟨by omega, h⟩
/-- as the check finds them -/
theorem gm_handsL {μ : gx_M} {n p : Int} {O : Nat → Int} (hn : 0 ≤ n ∧ n ≤ 40) (h0 : μ.1 206 25 = gq_I n) (hO : ∀ m, m < 40 → μ.1 220 m = gq_I (O m)) (hb : ∀ m, m < 40 → -1 ≤ O m ∧ O m ≤ 4) (hp : 0 ≤ p ∧ p ≤ 4) {k : Int64 → Option Int64} : ∀ (d f i : Nat) (x : Int64), d < f → (i : Int) + d = n → ∃ y, L_X12_handsOf_5 μ (gq_I p) k f x (gq_I i) = k y ∧ ∀ j, j < 64 → (gm_b y j = true ↔ gm_b x j = true ∨ (i ≤ j ∧ (j : Int) < n ∧ O j = p))
  | _, 0, _, _, hf, _ => absurd hf (Nat.not_lt_zero _)
  | 0, f + 1, i, x, hf, hi => by
    refine ⟨x, ?_, fun j hj => ⟨fun g => Or.inl g, fun g => g.elim (fun g => g) fun g => absurd g.1 (by omega)⟩⟩
    rw [L_X12_handsOf_5.eq_2, h0]
    simp (disch := omega) only [Bool.false_eq_true, gq_leT, gq_leF, gq_ltT, gq_ltF, gq_eqT, gq_eqF, if_true, if_false]
  | d + 1, f + 1, i, x, hf, hi => by
    have o := hO i (by omega)
    have b := hb i (by omega)
    by_cases g : O i = p
    · obtain ⟨y, h1, h2⟩ := gm_handsL hn h0 hO hb hp (k := k) d f (i + 1) (x ||| (gq_L 1 <<< (gq_L i &&& gq_L 63))) (by omega) (by omega)
      refine ⟨y, ?_, fun j hj => ?_⟩
      · rw [L_X12_handsOf_5.eq_2, ← h1, h0]
        simp (disch := omega) only [Int.reduceToNat, gq_lit, gq_neg, gq_add, gq_sub, gq_mul, gq_nat, Int.toNat_natCast, gq_tadd, gq_tmul, gq_lte, gq_br, gq_bd, gq_ck, Bool.false_eq_true, gq_leT, gq_leF, gq_ltT, gq_ltF, gq_eqT, gq_eqF, if_true, if_false, o, gq_toL, gq_Llit]
        rfl
      · rw [h2 j hj, gm_or1 (by omega) hj, Bool.or_eq_true, decide_eq_true_iff]
        constructor
        · rintro ((h | h) | h)
          · exact Or.inl h
          · subst h; exact Or.inr ⟨by omega, by omega, g⟩
          · exact Or.inr ⟨by omega, h.2⟩
        · rintro (h | h)
          · exact Or.inl (Or.inl h)
          · by_cases e : j = i
            · exact Or.inl (Or.inr e)
            · exact Or.inr ⟨by omega, h.2⟩
    · obtain ⟨y, h1, h2⟩ := gm_handsL hn h0 hO hb hp (k := k) d f (i + 1) (x ||| gq_L 0) (by omega) (by omega)
      refine ⟨y, ?_, fun j hj => ?_⟩
      · rw [L_X12_handsOf_5.eq_2, ← h1, h0]
        simp (disch := omega) only [Int.reduceToNat, gq_lit, gq_neg, gq_add, gq_sub, gq_mul, gq_nat, Int.toNat_natCast, gq_tadd, gq_tmul, gq_lte, gq_br, gq_bd, gq_ck, Bool.false_eq_true, gq_leT, gq_leF, gq_ltT, gq_ltF, gq_eqT, gq_eqF, if_true, if_false, o, gq_Llit]
        rfl
      · rw [h2 j hj, gm_or, gm_0 j hj, Bool.or_false]
        constructor
        · rintro (h | h)
          · exact Or.inl h
          · exact Or.inr ⟨by omega, h.2⟩
        · rintro (h | h)
          · exact Or.inl h
          · by_cases e : j = i
            · subst e; exact absurd h.2.2 g
            · exact Or.inr ⟨by omega, h.2⟩
theorem gm_hands {μ : gx_M} {n p : Int} {O : Nat → Int} (hn : 0 ≤ n ∧ n ≤ 40) (h0 : μ.1 206 25 = gq_I n) (hO : ∀ m, m < 40 → μ.1 220 m = gq_I (O m)) (hb : ∀ m, m < 40 → -1 ≤ O m ∧ O m ≤ 4) (hp : 0 ≤ p ∧ p ≤ 4) : ∃ y, f_X12_handsOf (gq_I p) μ = some y ∧ ∀ j, j < 64 → (gm_b y j = true ↔ (j : Int) < n ∧ O j = p) := by
  obtain ⟨y, h1, h2⟩ := gm_handsL hn h0 hO hb hp (k := fun x => some x) n.toNat 4000 0 (gq_L 0) (by omega) (by omega)
  refine ⟨y, ?_, fun j hj => ?_⟩
  · unfold f_X12_handsOf
    simp only [gq_lit, gq_Llit]
    exact h1
  · rw [h2 j hj, gm_0 j hj]
    constructor
    · rintro (h | h)
      · exact absurd h (by decide)
      · exact h.2
    · intro h
      exact Or.inr ⟨by omega, h⟩
