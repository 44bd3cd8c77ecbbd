/-! what a play is asked, on both sides -/
theorem gy_usedL {μ ν : gx_M} {s : Nat} {w : Nat → Int} (h : gy_R μ ν s w) (ok : gq_okS w) {k k2 : Int32 → Option Int32} : ∀ (d f i : Nat) (c : Int), d < f → (i : Int) + d = w 0 → ∃ c' : Int, L_X3_usedMinutes_4 μ k f (gq_I c) (gq_I i) = k (gq_I c') ∧ L_X12_ofAll_4 ν (gq_I 0) k2 f (gq_I c) (gq_I i) = k2 (gq_I c')
  | _, 0, _, _, hf, _ => absurd hf (Nat.not_lt_zero _)
  | 0, f + 1, i, c, hf, hi => by
    have o0 := ok.1
    have e1 := h.1.1.1
    have e2 := h.1.2.2.1.2.1
    refine ⟨c, ?_, ?_⟩
    · rw [L_X3_usedMinutes_4.eq_2, e1]
      simp (disch := omega) only [Bool.false_eq_true, gq_leT, gq_leF, gq_ltT, gq_ltF, gq_eqT, gq_eqF, if_true, if_false]
    · rw [L_X12_ofAll_4.eq_2, e2]
      simp (disch := omega) only [Bool.false_eq_true, gq_leT, gq_leF, gq_ltT, gq_ltF, gq_eqT, gq_eqF, if_true, if_false]
  | d + 1, f + 1, i, c, hf, hi => by
    have o0 := ok.1
    have e1 := h.1.1.1
    have e2 := h.1.2.2.1.2.1
    obtain ⟨u, hu, u1, u2⟩ := h.2.2.2.2.1 i (by omega)
    by_cases g : u = 0
    · obtain ⟨c', r1, r2⟩ := gy_usedL h ok (k := k) (k2 := k2) d f (i + 1) c (by omega) (by omega)
      refine ⟨c', ?_, ?_⟩
      · rw [← r1, L_X3_usedMinutes_4.eq_2, e1]
        simp (disch := omega) only [Int.reduceToNat, gq_lit, gq_neg, gq_add, gq_sub, gq_mul, gq_nat, Int.toNat_natCast, gq_tadd, gq_tmul, gq_lte, gq_br, gq_bd, gq_ck, Bool.false_eq_true, gq_leT, gq_leF, gq_ltT, gq_ltF, gq_eqT, gq_eqF, if_true, if_false, u1]
        rfl
      · rw [← r2, L_X12_ofAll_4.eq_2, e2]
        simp (disch := omega) only [Int.reduceToNat, gq_lit, gq_neg, gq_add, gq_sub, gq_mul, gq_nat, Int.toNat_natCast, gq_tadd, gq_tmul, gq_lte, gq_br, gq_bd, gq_ck, Bool.false_eq_true, gq_leT, gq_leF, gq_ltT, gq_ltF, gq_eqT, gq_eqF, if_true, if_false, u2, gq_biF, Int.add_zero]
        rfl
    · obtain ⟨c', r1, r2⟩ := gy_usedL h ok (k := k) (k2 := k2) d f (i + 1) (c + 1) (by omega) (by omega)
      refine ⟨c', ?_, ?_⟩
      · rw [← r1, L_X3_usedMinutes_4.eq_2, e1]
        simp (disch := omega) only [Int.reduceToNat, gq_lit, gq_neg, gq_add, gq_sub, gq_mul, gq_nat, Int.toNat_natCast, gq_tadd, gq_tmul, gq_lte, gq_br, gq_bd, gq_ck, Bool.false_eq_true, gq_leT, gq_leF, gq_ltT, gq_ltF, gq_eqT, gq_eqF, if_true, if_false, u1]
        rfl
      · rw [← r2, L_X12_ofAll_4.eq_2, e2]
        simp (disch := omega) only [Int.reduceToNat, gq_lit, gq_neg, gq_add, gq_sub, gq_mul, gq_nat, Int.toNat_natCast, gq_tadd, gq_tmul, gq_lte, gq_br, gq_bd, gq_ck, Bool.false_eq_true, gq_leT, gq_leF, gq_ltT, gq_ltF, gq_eqT, gq_eqF, if_true, if_false, u2, gq_biT]
        rfl
theorem gy_donL {μ ν : gx_M} {s : Nat} {w : Nat → Int} (h : gy_R μ ν s w) (ok : gq_okS w) {k k2 : Int32 → Option Int32} : ∀ (d f i : Nat) (c : Int), d < f → (i : Int) + d = w 2 → ∃ c' : Int, L_X3_doneBusiness_4 μ k f (gq_I c) (gq_I i) = k (gq_I c') ∧ L_X12_ofAll_41 ν (gq_I 1) k2 f (gq_I c) (gq_I i) = k2 (gq_I c')
  | _, 0, _, _, hf, _ => absurd hf (Nat.not_lt_zero _)
  | 0, f + 1, i, c, hf, hi => by
    have o0 := ok.2.2.1
    have e1 := h.1.1.2.2
    have e2 := h.1.2.2.1.2.2.2
    refine ⟨c, ?_, ?_⟩
    · rw [L_X3_doneBusiness_4.eq_2, e1]
      simp (disch := omega) only [Bool.false_eq_true, gq_leT, gq_leF, gq_ltT, gq_ltF, gq_eqT, gq_eqF, if_true, if_false]
    · rw [L_X12_ofAll_41.eq_2, e2]
      simp (disch := omega) only [Bool.false_eq_true, gq_leT, gq_leF, gq_ltT, gq_ltF, gq_eqT, gq_eqF, if_true, if_false]
  | d + 1, f + 1, i, c, hf, hi => by
    have o0 := ok.2.2.1
    have e1 := h.1.1.2.2
    have e2 := h.1.2.2.1.2.2.2
    obtain ⟨u, hu, u1, u2⟩ := h.2.2.2.2.2.1 i (by omega)
    by_cases g : u = -1
    · obtain ⟨c', r1, r2⟩ := gy_donL h ok (k := k) (k2 := k2) d f (i + 1) c (by omega) (by omega)
      refine ⟨c', ?_, ?_⟩
      · rw [← r1, L_X3_doneBusiness_4.eq_2, e1]
        simp (disch := omega) only [Int.reduceToNat, gq_lit, gq_neg, gq_add, gq_sub, gq_mul, gq_nat, Int.toNat_natCast, gq_tadd, gq_tmul, gq_lte, gq_br, gq_bd, gq_ck, Bool.false_eq_true, gq_leT, gq_leF, gq_ltT, gq_ltF, gq_eqT, gq_eqF, if_true, if_false, u1]
        rfl
      · rw [← r2, L_X12_ofAll_41.eq_2, e2]
        simp (disch := omega) only [Int.reduceToNat, gq_lit, gq_neg, gq_add, gq_sub, gq_mul, gq_nat, Int.toNat_natCast, gq_tadd, gq_tmul, gq_lte, gq_br, gq_bd, gq_ck, Bool.false_eq_true, gq_leT, gq_leF, gq_ltT, gq_ltF, gq_eqT, gq_eqF, if_true, if_false, u2, gq_biF, Int.add_zero]
        rfl
    · obtain ⟨c', r1, r2⟩ := gy_donL h ok (k := k) (k2 := k2) d f (i + 1) (c + 1) (by omega) (by omega)
      refine ⟨c', ?_, ?_⟩
      · rw [← r1, L_X3_doneBusiness_4.eq_2, e1]
        simp (disch := omega) only [Int.reduceToNat, gq_lit, gq_neg, gq_add, gq_sub, gq_mul, gq_nat, Int.toNat_natCast, gq_tadd, gq_tmul, gq_lte, gq_br, gq_bd, gq_ck, Bool.false_eq_true, gq_leT, gq_leF, gq_ltT, gq_ltF, gq_eqT, gq_eqF, if_true, if_false, u1]
        rfl
      · rw [← r2, L_X12_ofAll_41.eq_2, e2]
        simp (disch := omega) only [Int.reduceToNat, gq_lit, gq_neg, gq_add, gq_sub, gq_mul, gq_nat, Int.toNat_natCast, gq_tadd, gq_tmul, gq_lte, gq_br, gq_bd, gq_ck, Bool.false_eq_true, gq_leT, gq_leF, gq_ltT, gq_ltF, gq_eqT, gq_eqF, if_true, if_false, u2, gq_biT]
        rfl
theorem gy_coiL {μ ν : gx_M} {s : Nat} {w : Nat → Int} (h : gy_R μ ν s w) (ok : gq_okS w) {k k2 : Int32 → Option Int32} : ∀ (d f i : Nat) (c : Int32), d < f → (i : Int) + d = w 1 → ∃ c' : Int32, L_X3_allCoins_4 μ k f c (gq_I i) = k c' ∧ L_X12_ofAll_80 ν (gq_I 2) k2 f c (gq_I i) = k2 c'
  | _, 0, _, _, hf, _ => absurd hf (Nat.not_lt_zero _)
  | 0, f + 1, i, c, hf, hi => by
    have o0 := ok.2.1
    have e1 := h.1.1.2.1
    have e2 := h.1.2.2.1.2.2.1
    refine ⟨c, ?_, ?_⟩
    · rw [L_X3_allCoins_4.eq_2, e1]
      simp (disch := omega) only [Bool.false_eq_true, gq_leT, gq_leF, gq_ltT, gq_ltF, gq_eqT, gq_eqF, if_true, if_false]
    · rw [L_X12_ofAll_80.eq_2, e2]
      simp (disch := omega) only [Bool.false_eq_true, gq_leT, gq_leF, gq_ltT, gq_ltF, gq_eqT, gq_eqF, if_true, if_false]
  | d + 1, f + 1, i, c, hf, hi => by
    have o0 := ok.2.1
    have e1 := h.1.1.2.1
    have e2 := h.1.2.2.1.2.2.1
    have e3 := h.2.1 i (by omega)
    obtain ⟨c', r1, r2⟩ := gy_coiL h ok (k := k) (k2 := k2) d f (i + 1) (c + μ.1 64 i) (by omega) (by omega)
    refine ⟨c', ?_, ?_⟩
    · rw [← r1, L_X3_allCoins_4.eq_2, e1]
      simp (disch := omega) only [Int.reduceToNat, gq_lit, gq_neg, gq_add, gq_sub, gq_mul, gq_nat, Int.toNat_natCast, gq_tadd, gq_tmul, gq_lte, gq_br, gq_bd, gq_ck, Bool.false_eq_true, gq_leT, gq_leF, gq_ltT, gq_ltF, gq_eqT, gq_eqF, if_true, if_false]
      rfl
    · rw [← r2, L_X12_ofAll_80.eq_2, e2]
      simp (disch := omega) only [Int.reduceToNat, gq_lit, gq_neg, gq_add, gq_sub, gq_mul, gq_nat, Int.toNat_natCast, gq_tadd, gq_tmul, gq_lte, gq_br, gq_bd, gq_ck, Bool.false_eq_true, gq_leT, gq_leF, gq_ltT, gq_ltF, gq_eqT, gq_eqF, if_true, if_false, e3]
      rfl
theorem gy_sk4 {ν : gx_M} {n p : Int} (hn : 1 ≤ n ∧ n ≤ 40) (h : ν.1 206 25 = gq_I n) (hp : 1 ≤ p ∧ p ≤ 2) {k : Int32 → Option Int32} {f : Nat} {v : Int32} : L_X12_ofAll_4 ν (gq_I p) k (f + 1) v (gq_I 0) = k v := by
  rw [L_X12_ofAll_4.eq_2, h]
  simp (disch := omega) only [Int.reduceToNat, gq_lit, gq_neg, gq_add, gq_sub, gq_mul, gq_nat, Int.toNat_natCast, gq_tadd, gq_tmul, gq_lte, gq_br, gq_bd, gq_ck, Bool.false_eq_true, gq_leT, gq_leF, gq_ltT, gq_ltF, gq_eqT, gq_eqF, if_true, if_false]
theorem gy_sk41 {ν : gx_M} {n p : Int} (hn : 0 ≤ n ∧ n ≤ 6) (h : ν.1 206 27 = gq_I n) (hp : 0 ≤ p ∧ p ≤ 2 ∧ p ≠ 1) {k : Int32 → Option Int32} {f : Nat} {v : Int32} : L_X12_ofAll_41 ν (gq_I p) k (f + 1) v (gq_I 0) = k v := by
  rw [L_X12_ofAll_41.eq_2, h]
  by_cases g : n = 0
  · simp (disch := omega) only [Int.reduceToNat, gq_lit, gq_neg, gq_add, gq_sub, gq_mul, gq_nat, Int.toNat_natCast, gq_tadd, gq_tmul, gq_lte, gq_br, gq_bd, gq_ck, Bool.false_eq_true, gq_leT, gq_leF, gq_ltT, gq_ltF, gq_eqT, gq_eqF, if_true, if_false]
  · simp (disch := omega) only [Int.reduceToNat, gq_lit, gq_neg, gq_add, gq_sub, gq_mul, gq_nat, Int.toNat_natCast, gq_tadd, gq_tmul, gq_lte, gq_br, gq_bd, gq_ck, Bool.false_eq_true, gq_leT, gq_leF, gq_ltT, gq_ltF, gq_eqT, gq_eqF, if_true, if_false]
theorem gy_sk80 {ν : gx_M} {n p : Int} (hn : 0 ≤ n ∧ n ≤ 6) (h : ν.1 206 26 = gq_I n) (hp : 0 ≤ p ∧ p ≤ 1) {k : Int32 → Option Int32} {f : Nat} {v : Int32} : L_X12_ofAll_80 ν (gq_I p) k (f + 1) v (gq_I 0) = k v := by
  rw [L_X12_ofAll_80.eq_2, h]
  by_cases g : n = 0
  · simp (disch := omega) only [Int.reduceToNat, gq_lit, gq_neg, gq_add, gq_sub, gq_mul, gq_nat, Int.toNat_natCast, gq_tadd, gq_tmul, gq_lte, gq_br, gq_bd, gq_ck, Bool.false_eq_true, gq_leT, gq_leF, gq_ltT, gq_ltF, gq_eqT, gq_eqF, if_true, if_false]
  · simp (disch := omega) only [Int.reduceToNat, gq_lit, gq_neg, gq_add, gq_sub, gq_mul, gq_nat, Int.toNat_natCast, gq_tadd, gq_tmul, gq_lte, gq_br, gq_bd, gq_ck, Bool.false_eq_true, gq_leT, gq_leF, gq_ltT, gq_ltF, gq_eqT, gq_eqF, if_true, if_false]
theorem gy_minL {ν : gx_M} {n p : Int} {O : Nat → Int} (hn : 0 ≤ n ∧ n ≤ 40) (h0 : ν.1 206 25 = gq_I n) (hO : ∀ m, m < 40 → ν.1 220 m = gq_I (O m)) (hb : ∀ m, m < 40 → -1 ≤ O m ∧ O m ≤ 4) (hp : 0 ≤ p ∧ p ≤ 4) {k : Int32 → Option Int32} : ∀ (d f i : Nat), d < f → (i : Int) + d = n → L_X12_minutesOf_4 ν (gq_I p) k f (gq_I (gm_cnt (fun j => decide (O j = p)) i : Nat)) (gq_I i) = k (gq_I (gm_cnt (fun j => decide (O j = p)) n.toNat : Nat))
  | _, 0, _, hf, _ => absurd hf (Nat.not_lt_zero _)
  | 0, f + 1, i, hf, hi => by
    rw [L_X12_minutesOf_4.eq_2, h0, show n.toNat = i by omega]
    simp (disch := omega) only [Int.reduceToNat, gq_lit, gq_neg, gq_add, gq_sub, gq_mul, gq_nat, Int.toNat_natCast, gq_tadd, gq_tmul, gq_lte, gq_br, gq_bd, gq_ck, Bool.false_eq_true, gq_leT, gq_leF, gq_ltT, gq_ltF, gq_eqT, gq_eqF, if_true, if_false]
  | d + 1, f + 1, i, hf, hi => by
    have c := hO i (by omega)
    have b := hb i (by omega)
    have ih := gy_minL hn h0 hO hb hp (k := k) d f (i + 1) (by omega) (by omega)
    rw [← ih, L_X12_minutesOf_4.eq_2, h0]
    have e : gm_cnt (fun j => decide (O j = p)) (i + 1) = gm_cnt (fun j => decide (O j = p)) i + (decide (O i = p)).toNat := rfl
    by_cases g : O i = p
    · rw [decide_eq_true g] at e
      rw [e]
      simp (disch := omega) only [Int.reduceToNat, gq_lit, gq_neg, gq_add, gq_sub, gq_mul, gq_nat, Int.toNat_natCast, gq_tadd, gq_tmul, gq_lte, gq_br, gq_bd, gq_ck, Bool.false_eq_true, gq_leT, gq_leF, gq_ltT, gq_ltF, gq_eqT, gq_eqF, if_true, if_false, c, gq_biT]
      rfl
    · rw [decide_eq_false g] at e
      rw [e]
      simp (disch := omega) only [Int.reduceToNat, gq_lit, gq_neg, gq_add, gq_sub, gq_mul, gq_nat, Int.toNat_natCast, gq_tadd, gq_tmul, gq_lte, gq_br, gq_bd, gq_ck, Bool.false_eq_true, gq_leT, gq_leF, gq_ltT, gq_ltF, gq_eqT, gq_eqF, if_true, if_false, c, gq_biF, Int.add_zero]
      rfl
/-- owners told as a function -/
theorem gy_own {μ ν : gx_M} (h : gy_ow μ ν) : ∃ O : Nat → Int, (∀ m, m < 40 → -1 ≤ O m ∧ O m ≤ 3) ∧ (∀ m, m < 40 → μ.1 66 m = gq_I (O m)) ∧ ∀ m, m < 40 → ν.1 220 m = gq_I (O m) := by
  refine ⟨fun m => (μ.1 66 m).toInt, fun m hm => ?_, fun m hm => (gq_of _).symm, fun m hm => ?_⟩
  · obtain ⟨o, a, b, c⟩ := h m hm
    show -1 ≤ (μ.1 66 m).toInt ∧ (μ.1 66 m).toInt ≤ 3
    rw [b, gq_toInt (by omega)]
    exact a
  · obtain ⟨o, a, b, c⟩ := h m hm
    show _ = gq_I (μ.1 66 m).toInt
    rw [gq_of, b, c]
theorem gy_held {μ ν : gx_M} {s : Nat} {w : Nat → Int} (h : gy_R μ ν s w) (ok : gq_okS w) {p : Int} (hp : 0 ≤ p ∧ p ≤ 4) : ∃ y r, f_X5_held 63 (gq_I p) μ = some y ∧ f_J13_bitCount_95d88 y = r ∧ f_X12_minutesOf (gq_I p) ν = some r := by
  have o0 := ok.1
  obtain ⟨O, b1, b2, b3⟩ := gy_own h.2.2.2.1
  obtain ⟨y, y1, y2⟩ := gm_held (μ := μ) (a := 63) (n := w 0) (p := p) (O := O) (by omega) h.1.1.1 b2 (fun m hm => by have := b1 m hm; omega) hp
  have m := gy_minL (ν := ν) (n := w 0) (p := p) (O := O) (by omega) h.1.2.2.1.2.1 b3 (fun m hm => by have := b1 m hm; omega) hp (k := fun x => some x) (w 0).toNat 4000 0 (by omega) (by omega)
  refine ⟨y, _, y1, gm_bitCount y, ?_⟩
  have e : gm_cnt (gm_b y) 64 = gm_cnt (fun j => decide (O j = p)) (w 0).toNat := by
    obtain ⟨n, hn⟩ : ∃ n : Nat, w 0 = n := ⟨(w 0).toNat, by omega⟩
    rw [hn] at y2 o0 ⊢
    rw [Int.toNat_natCast, show 64 = n + (64 - n) by omega, gm_cnt_tail fun j h1 h2 => ?_]
    · refine gm_cnt_ext fun j hj => ?_
      have := y2 j (by omega)
      by_cases g : O j = p
      · rw [this.mpr ⟨by omega, g⟩, decide_eq_true g]
      · rw [decide_eq_false g]
        cases hb : gm_b y j
        · rfl
        · exact absurd (this.mp hb).2 g
    · cases hb : gm_b y j
      · rfl
      · exact absurd ((y2 j (by omega)).mp hb).1 (by omega)
  unfold f_X12_minutesOf
  simp only [gq_lit]
  rw [e]
  exact m
theorem gy_brs {α : Type} (x : Option α) : gx_br x (fun (r : α) => some r) = x := by cases x <;> rfl
theorem gy_answer {μ ν : gx_M} {s : Nat} {w : Nat → Int} (h : gy_R μ ν s w) (ok : gq_okS w) {x : Int} (hx : -2147483648 ≤ x ∧ x < 2147483648) : ∃ r, f_X3_answer (gq_I x) μ = some r ∧ f_X12_ofState (gq_I x) ν = some r := by
  have o0 := ok.1
  have o1 := ok.2.1
  have o2 := ok.2.2.1
  have c0 := h.1.1.1
  have c1 := h.1.1.2.1
  have c2 := h.1.1.2.2
  have m1 := h.1.2.2.1.2.1
  have m2 := h.1.2.2.1.2.2.1
  have m3 := h.1.2.2.1.2.2.2
  unfold f_X3_answer f_X3_partOfState f_X12_ofState
  by_cases k1 : x < 0
  · refine ⟨gq_I (-2), ?_, ?_⟩
    · simp (disch := omega) only [Int.reduceToNat, gq_lit, gq_neg, gq_add, gq_sub, gq_mul, gq_nat, Int.toNat_natCast, gq_tadd, gq_tmul, gq_lte, gq_br, gq_bd, gq_ck, Bool.false_eq_true, gq_leT, gq_leF, gq_ltT, gq_ltF, gq_eqT, gq_eqF, if_true, if_false, c0, c1, c2, gq_amF]
    · by_cases k2 : x ≤ -10
      · simp (disch := omega) only [Int.reduceToNat, gq_lit, gq_neg, gq_add, gq_sub, gq_mul, gq_nat, Int.toNat_natCast, gq_tadd, gq_tmul, gq_lte, gq_br, gq_bd, gq_ck, Bool.false_eq_true, gq_leT, gq_leF, gq_ltT, gq_ltF, gq_eqT, gq_eqF, if_true, if_false, gq_div_neg]
      · simp (disch := omega) only [Int.reduceToNat, gq_lit, gq_neg, gq_add, gq_sub, gq_mul, gq_nat, Int.toNat_natCast, gq_tadd, gq_tmul, gq_lte, gq_br, gq_bd, gq_ck, Bool.false_eq_true, gq_leT, gq_leF, gq_ltT, gq_ltF, gq_eqT, gq_eqF, if_true, if_false, gq_div_neg, gq_inF]
  by_cases k2 : x = 0
  · subst k2
    obtain ⟨c, r1, r2⟩ := gy_usedL h ok (k := fun x => some x) (k2 := fun (x2_12 : Int32) => L_X12_ofAll_41 ν (gq_I 0) (fun (x2_24 : Int32) => L_X12_ofAll_80 ν (gq_I 0) (fun (x2_33 : Int32) => some x2_33) 4000 x2_24 (gq_I 0)) 4000 x2_12 (gq_I 0)) (w 0).toNat 4000 0 0 (by omega) (by omega)
    rw [gy_sk41 (n := w 2) (by omega) m3 (by omega), gy_sk80 (n := w 1) (by omega) m2 (by omega)] at r2
    refine ⟨gq_I c, ?_, ?_⟩
    · unfold f_X3_usedMinutes
      simp (disch := omega) only [Int.reduceToNat, gq_lit, gq_neg, gq_add, gq_sub, gq_mul, gq_nat, Int.toNat_natCast, gq_tadd, gq_tmul, gq_lte, gq_br, gq_bd, gq_ck, Bool.false_eq_true, gq_leT, gq_leF, gq_ltT, gq_ltF, gq_eqT, gq_eqF, if_true, if_false, gy_brs]
      exact r1
    · unfold f_X12_ofAll
      simp (disch := omega) only [Int.reduceToNat, gq_lit, gq_neg, gq_add, gq_sub, gq_mul, gq_nat, Int.toNat_natCast, gq_tadd, gq_tmul, gq_lte, gq_br, gq_bd, gq_ck, Bool.false_eq_true, gq_leT, gq_leF, gq_ltT, gq_ltF, gq_eqT, gq_eqF, if_true, if_false, gq_div, gq_inT, gy_brs]
      exact r2
  by_cases k3 : x = 1
  · subst k3
    obtain ⟨c, r1, r2⟩ := gy_donL h ok (k := fun x => some x) (k2 := fun (x2_24 : Int32) => L_X12_ofAll_80 ν (gq_I 1) (fun (x2_33 : Int32) => some x2_33) 4000 x2_24 (gq_I 0)) (w 2).toNat 4000 0 0 (by omega) (by omega)
    rw [gy_sk80 (n := w 1) (by omega) m2 (by omega)] at r2
    refine ⟨gq_I c, ?_, ?_⟩
    · unfold f_X3_doneBusiness
      simp (disch := omega) only [Int.reduceToNat, gq_lit, gq_neg, gq_add, gq_sub, gq_mul, gq_nat, Int.toNat_natCast, gq_tadd, gq_tmul, gq_lte, gq_br, gq_bd, gq_ck, Bool.false_eq_true, gq_leT, gq_leF, gq_ltT, gq_ltF, gq_eqT, gq_eqF, if_true, if_false, gy_brs]
      exact r1
    · unfold f_X12_ofAll
      simp (disch := omega) only [Int.reduceToNat, gq_lit, gq_neg, gq_add, gq_sub, gq_mul, gq_nat, Int.toNat_natCast, gq_tadd, gq_tmul, gq_lte, gq_br, gq_bd, gq_ck, Bool.false_eq_true, gq_leT, gq_leF, gq_ltT, gq_ltF, gq_eqT, gq_eqF, if_true, if_false, gq_div, gq_inT, gy_brs]
      rw [gy_sk4 (n := w 0) (by omega) m1 (by omega)]
      exact r2
  by_cases k4 : x = 2
  · subst k4
    obtain ⟨c, r1, r2⟩ := gy_coiL h ok (k := fun x => some x) (k2 := fun (x2_33 : Int32) => some x2_33) (w 1).toNat 4000 0 (gq_I 0) (by omega) (by omega)
    refine ⟨c, ?_, ?_⟩
    · unfold f_X3_allCoins
      simp (disch := omega) only [Int.reduceToNat, gq_lit, gq_neg, gq_add, gq_sub, gq_mul, gq_nat, Int.toNat_natCast, gq_tadd, gq_tmul, gq_lte, gq_br, gq_bd, gq_ck, Bool.false_eq_true, gq_leT, gq_leF, gq_ltT, gq_ltF, gq_eqT, gq_eqF, if_true, if_false, gy_brs]
      exact r1
    · unfold f_X12_ofAll
      simp (disch := omega) only [Int.reduceToNat, gq_lit, gq_neg, gq_add, gq_sub, gq_mul, gq_nat, Int.toNat_natCast, gq_tadd, gq_tmul, gq_lte, gq_br, gq_bd, gq_ck, Bool.false_eq_true, gq_leT, gq_leF, gq_ltT, gq_ltF, gq_eqT, gq_eqF, if_true, if_false, gq_div, gq_inT, gy_brs]
      rw [gy_sk4 (n := w 0) (by omega) m1 (by omega), gy_sk41 (n := w 2) (by omega) m3 (by omega)]
      exact r2
  by_cases k5 : x < 10
  · refine ⟨gq_I (-2), ?_, ?_⟩
    · simp (disch := omega) only [Int.reduceToNat, gq_lit, gq_neg, gq_add, gq_sub, gq_mul, gq_nat, Int.toNat_natCast, gq_tadd, gq_tmul, gq_lte, gq_br, gq_bd, gq_ck, Bool.false_eq_true, gq_leT, gq_leF, gq_ltT, gq_ltF, gq_eqT, gq_eqF, if_true, if_false, c0, c1, c2, gq_amF, gy_brs]
    · simp (disch := omega) only [Int.reduceToNat, gq_lit, gq_neg, gq_add, gq_sub, gq_mul, gq_nat, Int.toNat_natCast, gq_tadd, gq_tmul, gq_lte, gq_br, gq_bd, gq_ck, Bool.false_eq_true, gq_leT, gq_leF, gq_ltT, gq_ltF, gq_eqT, gq_eqF, if_true, if_false, gq_div, gq_inF]
  by_cases k6 : x < 20
  · have e1 : x - x / 10 * 10 = x - 10 := by omega
    by_cases g : x - 10 < w 1
    · have e3 := h.2.1 (x - 10).toNat (by omega)
      refine ⟨μ.1 64 (x - 10).toNat, ?_, ?_⟩
      · simp (disch := omega) only [Int.reduceToNat, gq_lit, gq_neg, gq_add, gq_sub, gq_mul, gq_nat, Int.toNat_natCast, gq_tadd, gq_tmul, gq_lte, gq_br, gq_bd, gq_ck, Bool.false_eq_true, gq_leT, gq_leF, gq_ltT, gq_ltF, gq_eqT, gq_eqF, if_true, if_false, c0, c1, c2, gq_amF, gq_amT, gy_brs]
      · simp (disch := omega) only [Int.reduceToNat, gq_lit, gq_neg, gq_add, gq_sub, gq_mul, gq_nat, Int.toNat_natCast, gq_tadd, gq_tmul, gq_lte, gq_br, gq_bd, gq_ck, Bool.false_eq_true, gq_leT, gq_leF, gq_ltT, gq_ltF, gq_eqT, gq_eqF, if_true, if_false, gq_div, e1, m2, e3]
    · refine ⟨gq_I (-2), ?_, ?_⟩
      · simp (disch := omega) only [Int.reduceToNat, gq_lit, gq_neg, gq_add, gq_sub, gq_mul, gq_nat, Int.toNat_natCast, gq_tadd, gq_tmul, gq_lte, gq_br, gq_bd, gq_ck, Bool.false_eq_true, gq_leT, gq_leF, gq_ltT, gq_ltF, gq_eqT, gq_eqF, if_true, if_false, c0, c1, c2, gq_amF, gy_brs]
      · simp (disch := omega) only [Int.reduceToNat, gq_lit, gq_neg, gq_add, gq_sub, gq_mul, gq_nat, Int.toNat_natCast, gq_tadd, gq_tmul, gq_lte, gq_br, gq_bd, gq_ck, Bool.false_eq_true, gq_leT, gq_leF, gq_ltT, gq_ltF, gq_eqT, gq_eqF, if_true, if_false, gq_div, e1, m2]
  by_cases k6 : x < 30
  · have e1 : x - x / 10 * 10 = x - 20 := by omega
    by_cases g : x - 20 < w 1
    · obtain ⟨y, r, y1, y2, y3⟩ := gy_held h ok (p := x - 20) (by omega)
      refine ⟨r, ?_, ?_⟩
      · simp (disch := omega) only [Int.reduceToNat, gq_lit, gq_neg, gq_add, gq_sub, gq_mul, gq_nat, Int.toNat_natCast, gq_tadd, gq_tmul, gq_lte, gq_br, gq_bd, gq_ck, Bool.false_eq_true, gq_leT, gq_leF, gq_ltT, gq_ltF, gq_eqT, gq_eqF, if_true, if_false, c0, c1, c2, gq_amF, gq_amT, gy_brs, y1, y2]
      · simp (disch := omega) only [Int.reduceToNat, gq_lit, gq_neg, gq_add, gq_sub, gq_mul, gq_nat, Int.toNat_natCast, gq_tadd, gq_tmul, gq_lte, gq_br, gq_bd, gq_ck, Bool.false_eq_true, gq_leT, gq_leF, gq_ltT, gq_ltF, gq_eqT, gq_eqF, if_true, if_false, gq_div, e1, m2, gy_brs, y3]
    · refine ⟨gq_I (-2), ?_, ?_⟩
      · simp (disch := omega) only [Int.reduceToNat, gq_lit, gq_neg, gq_add, gq_sub, gq_mul, gq_nat, Int.toNat_natCast, gq_tadd, gq_tmul, gq_lte, gq_br, gq_bd, gq_ck, Bool.false_eq_true, gq_leT, gq_leF, gq_ltT, gq_ltF, gq_eqT, gq_eqF, if_true, if_false, c0, c1, c2, gq_amF, gy_brs]
      · simp (disch := omega) only [Int.reduceToNat, gq_lit, gq_neg, gq_add, gq_sub, gq_mul, gq_nat, Int.toNat_natCast, gq_tadd, gq_tmul, gq_lte, gq_br, gq_bd, gq_ck, Bool.false_eq_true, gq_leT, gq_leF, gq_ltT, gq_ltF, gq_eqT, gq_eqF, if_true, if_false, gq_div, e1, m2]
  by_cases k6 : x < 40
  · have e1 : x - x / 10 * 10 = x - 30 := by omega
    by_cases g : x - 30 < w 2
    · obtain ⟨u, hu, u1, u2⟩ := h.2.2.2.2.2.1 (x - 30).toNat (by omega)
      refine ⟨gq_I u, ?_, ?_⟩
      · simp (disch := omega) only [Int.reduceToNat, gq_lit, gq_neg, gq_add, gq_sub, gq_mul, gq_nat, Int.toNat_natCast, gq_tadd, gq_tmul, gq_lte, gq_br, gq_bd, gq_ck, Bool.false_eq_true, gq_leT, gq_leF, gq_ltT, gq_ltF, gq_eqT, gq_eqF, if_true, if_false, c0, c1, c2, gq_amF, gq_amT, gy_brs, u1]
      · simp (disch := omega) only [Int.reduceToNat, gq_lit, gq_neg, gq_add, gq_sub, gq_mul, gq_nat, Int.toNat_natCast, gq_tadd, gq_tmul, gq_lte, gq_br, gq_bd, gq_ck, Bool.false_eq_true, gq_leT, gq_leF, gq_ltT, gq_ltF, gq_eqT, gq_eqF, if_true, if_false, gq_div, e1, m3, u2]
    · refine ⟨gq_I (-2), ?_, ?_⟩
      · simp (disch := omega) only [Int.reduceToNat, gq_lit, gq_neg, gq_add, gq_sub, gq_mul, gq_nat, Int.toNat_natCast, gq_tadd, gq_tmul, gq_lte, gq_br, gq_bd, gq_ck, Bool.false_eq_true, gq_leT, gq_leF, gq_ltT, gq_ltF, gq_eqT, gq_eqF, if_true, if_false, c0, c1, c2, gq_amF, gy_brs]
      · simp (disch := omega) only [Int.reduceToNat, gq_lit, gq_neg, gq_add, gq_sub, gq_mul, gq_nat, Int.toNat_natCast, gq_tadd, gq_tmul, gq_lte, gq_br, gq_bd, gq_ck, Bool.false_eq_true, gq_leT, gq_leF, gq_ltT, gq_ltF, gq_eqT, gq_eqF, if_true, if_false, gq_div, e1, m3]
  by_cases k6 : x < 100
  · refine ⟨gq_I (-2), ?_, ?_⟩
    · simp (disch := omega) only [Int.reduceToNat, gq_lit, gq_neg, gq_add, gq_sub, gq_mul, gq_nat, Int.toNat_natCast, gq_tadd, gq_tmul, gq_lte, gq_br, gq_bd, gq_ck, Bool.false_eq_true, gq_leT, gq_leF, gq_ltT, gq_ltF, gq_eqT, gq_eqF, if_true, if_false, c0, c1, c2, gq_amF, gy_brs]
    · simp (disch := omega) only [Int.reduceToNat, gq_lit, gq_neg, gq_add, gq_sub, gq_mul, gq_nat, Int.toNat_natCast, gq_tadd, gq_tmul, gq_lte, gq_br, gq_bd, gq_ck, Bool.false_eq_true, gq_leT, gq_leF, gq_ltT, gq_ltF, gq_eqT, gq_eqF, if_true, if_false, gq_div]
  by_cases k7 : x < 200
  · have e1 : x - x / 100 * 100 = x - 100 := by omega
    by_cases g : x - 100 < w 0
    · obtain ⟨u, hu, u1, u2⟩ := h.2.2.1 (x - 100).toNat (by omega)
      refine ⟨gq_I u, ?_, ?_⟩
      · simp (disch := omega) only [Int.reduceToNat, gq_lit, gq_neg, gq_add, gq_sub, gq_mul, gq_nat, Int.toNat_natCast, gq_tadd, gq_tmul, gq_lte, gq_br, gq_bd, gq_ck, Bool.false_eq_true, gq_leT, gq_leF, gq_ltT, gq_ltF, gq_eqT, gq_eqF, if_true, if_false, c0, c1, c2, gq_amF, gq_amT, gy_brs, u1]
      · simp (disch := omega) only [Int.reduceToNat, gq_lit, gq_neg, gq_add, gq_sub, gq_mul, gq_nat, Int.toNat_natCast, gq_tadd, gq_tmul, gq_lte, gq_br, gq_bd, gq_ck, Bool.false_eq_true, gq_leT, gq_leF, gq_ltT, gq_ltF, gq_eqT, gq_eqF, if_true, if_false, gq_div, e1, m1, u2]
    · refine ⟨gq_I (-2), ?_, ?_⟩
      · simp (disch := omega) only [Int.reduceToNat, gq_lit, gq_neg, gq_add, gq_sub, gq_mul, gq_nat, Int.toNat_natCast, gq_tadd, gq_tmul, gq_lte, gq_br, gq_bd, gq_ck, Bool.false_eq_true, gq_leT, gq_leF, gq_ltT, gq_ltF, gq_eqT, gq_eqF, if_true, if_false, c0, c1, c2, gq_amF, gy_brs]
      · simp (disch := omega) only [Int.reduceToNat, gq_lit, gq_neg, gq_add, gq_sub, gq_mul, gq_nat, Int.toNat_natCast, gq_tadd, gq_tmul, gq_lte, gq_br, gq_bd, gq_ck, Bool.false_eq_true, gq_leT, gq_leF, gq_ltT, gq_ltF, gq_eqT, gq_eqF, if_true, if_false, gq_div, e1, m1]
  by_cases k8 : x < 300
  · have e1 : x - x / 100 * 100 = x - 200 := by omega
    by_cases g : x - 200 < w 0
    · obtain ⟨u, hu, u1, u2⟩ := h.2.2.2.1 (x - 200).toNat (by omega)
      refine ⟨gq_I u, ?_, ?_⟩
      · simp (disch := omega) only [Int.reduceToNat, gq_lit, gq_neg, gq_add, gq_sub, gq_mul, gq_nat, Int.toNat_natCast, gq_tadd, gq_tmul, gq_lte, gq_br, gq_bd, gq_ck, Bool.false_eq_true, gq_leT, gq_leF, gq_ltT, gq_ltF, gq_eqT, gq_eqF, if_true, if_false, c0, c1, c2, gq_amF, gq_amT, gy_brs, u1]
      · simp (disch := omega) only [Int.reduceToNat, gq_lit, gq_neg, gq_add, gq_sub, gq_mul, gq_nat, Int.toNat_natCast, gq_tadd, gq_tmul, gq_lte, gq_br, gq_bd, gq_ck, Bool.false_eq_true, gq_leT, gq_leF, gq_ltT, gq_ltF, gq_eqT, gq_eqF, if_true, if_false, gq_div, e1, m1, u2]
    · refine ⟨gq_I (-2), ?_, ?_⟩
      · simp (disch := omega) only [Int.reduceToNat, gq_lit, gq_neg, gq_add, gq_sub, gq_mul, gq_nat, Int.toNat_natCast, gq_tadd, gq_tmul, gq_lte, gq_br, gq_bd, gq_ck, Bool.false_eq_true, gq_leT, gq_leF, gq_ltT, gq_ltF, gq_eqT, gq_eqF, if_true, if_false, c0, c1, c2, gq_amF, gy_brs]
      · simp (disch := omega) only [Int.reduceToNat, gq_lit, gq_neg, gq_add, gq_sub, gq_mul, gq_nat, Int.toNat_natCast, gq_tadd, gq_tmul, gq_lte, gq_br, gq_bd, gq_ck, Bool.false_eq_true, gq_leT, gq_leF, gq_ltT, gq_ltF, gq_eqT, gq_eqF, if_true, if_false, gq_div, e1, m1]
  by_cases k9 : x < 400
  · have e1 : x - x / 100 * 100 = x - 300 := by omega
    by_cases g : x - 300 < w 0
    · obtain ⟨u, hu, u1, u2⟩ := h.2.2.2.2.1 (x - 300).toNat (by omega)
      by_cases u0 : u = 0
      · refine ⟨gq_I 0, ?_, ?_⟩
        · simp (disch := omega) only [Int.reduceToNat, gq_lit, gq_neg, gq_add, gq_sub, gq_mul, gq_nat, Int.toNat_natCast, gq_tadd, gq_tmul, gq_lte, gq_br, gq_bd, gq_ck, Bool.false_eq_true, gq_leT, gq_leF, gq_ltT, gq_ltF, gq_eqT, gq_eqF, if_true, if_false, c0, c1, c2, gq_amF, gq_amT, gy_brs, u1]
        · simp (disch := omega) only [Int.reduceToNat, gq_lit, gq_neg, gq_add, gq_sub, gq_mul, gq_nat, Int.toNat_natCast, gq_tadd, gq_tmul, gq_lte, gq_br, gq_bd, gq_ck, Bool.false_eq_true, gq_leT, gq_leF, gq_ltT, gq_ltF, gq_eqT, gq_eqF, if_true, if_false, gq_div, e1, m1, u2]
      · refine ⟨gq_I 1, ?_, ?_⟩
        · simp (disch := omega) only [Int.reduceToNat, gq_lit, gq_neg, gq_add, gq_sub, gq_mul, gq_nat, Int.toNat_natCast, gq_tadd, gq_tmul, gq_lte, gq_br, gq_bd, gq_ck, Bool.false_eq_true, gq_leT, gq_leF, gq_ltT, gq_ltF, gq_eqT, gq_eqF, if_true, if_false, c0, c1, c2, gq_amF, gq_amT, gy_brs, u1]
        · simp (disch := omega) only [Int.reduceToNat, gq_lit, gq_neg, gq_add, gq_sub, gq_mul, gq_nat, Int.toNat_natCast, gq_tadd, gq_tmul, gq_lte, gq_br, gq_bd, gq_ck, Bool.false_eq_true, gq_leT, gq_leF, gq_ltT, gq_ltF, gq_eqT, gq_eqF, if_true, if_false, gq_div, e1, m1, u2]
    · refine ⟨gq_I (-2), ?_, ?_⟩
      · simp (disch := omega) only [Int.reduceToNat, gq_lit, gq_neg, gq_add, gq_sub, gq_mul, gq_nat, Int.toNat_natCast, gq_tadd, gq_tmul, gq_lte, gq_br, gq_bd, gq_ck, Bool.false_eq_true, gq_leT, gq_leF, gq_ltT, gq_ltF, gq_eqT, gq_eqF, if_true, if_false, c0, c1, c2, gq_amF, gy_brs]
      · simp (disch := omega) only [Int.reduceToNat, gq_lit, gq_neg, gq_add, gq_sub, gq_mul, gq_nat, Int.toNat_natCast, gq_tadd, gq_tmul, gq_lte, gq_br, gq_bd, gq_ck, Bool.false_eq_true, gq_leT, gq_leF, gq_ltT, gq_ltF, gq_eqT, gq_eqF, if_true, if_false, gq_div, e1, m1]
  · refine ⟨gq_I (-2), ?_, ?_⟩
    · simp (disch := omega) only [Int.reduceToNat, gq_lit, gq_neg, gq_add, gq_sub, gq_mul, gq_nat, Int.toNat_natCast, gq_tadd, gq_tmul, gq_lte, gq_br, gq_bd, gq_ck, Bool.false_eq_true, gq_leT, gq_leF, gq_ltT, gq_ltF, gq_eqT, gq_eqF, if_true, if_false, c0, c1, c2, gq_amF, gy_brs]
    · by_cases g : x - x / 100 * 100 < w 0
      · simp (disch := omega) only [Int.reduceToNat, gq_lit, gq_neg, gq_add, gq_sub, gq_mul, gq_nat, Int.toNat_natCast, gq_tadd, gq_tmul, gq_lte, gq_br, gq_bd, gq_ck, Bool.false_eq_true, gq_leT, gq_leF, gq_ltT, gq_ltF, gq_eqT, gq_eqF, if_true, if_false, gq_div, m1]
      · simp (disch := omega) only [Int.reduceToNat, gq_lit, gq_neg, gq_add, gq_sub, gq_mul, gq_nat, Int.toNat_natCast, gq_tadd, gq_tmul, gq_lte, gq_br, gq_bd, gq_ck, Bool.false_eq_true, gq_leT, gq_leF, gq_ltT, gq_ltF, gq_eqT, gq_eqF, if_true, if_false, gq_div, m1]
