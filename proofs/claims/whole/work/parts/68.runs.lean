/-! sets of business; runs of minutes within a set -/
def gi_b (x : Int32) (j : Nat) : Bool := x.toBitVec.getLsbD j
theorem gi_ext {x y : Int32} (h : ∀ j, j < 32 → gi_b x j = gi_b y j) : x = y := Int32.toBitVec_inj.mp (BitVec.eq_of_getLsbD_eq fun i hi => h i hi)
theorem gi_or (x y : Int32) (j : Nat) : gi_b (x ||| y) j = (gi_b x j || gi_b y j) := by unfold gi_b; rw [Int32.toBitVec_or, BitVec.getLsbD_or]
theorem gi_and (x y : Int32) (j : Nat) : gi_b (x &&& y) j = (gi_b x j && gi_b y j) := by unfold gi_b; rw [Int32.toBitVec_and, BitVec.getLsbD_and]
theorem gi_xor (x y : Int32) (j : Nat) : gi_b (x ^^^ y) j = (gi_b x j ^^ gi_b y j) := by unfold gi_b; rw [Int32.toBitVec_xor, BitVec.getLsbD_xor]
theorem gi_m1 : ∀ j, j < 32 → gi_b (gq_I (-1)) j = true := by decide +kernel
theorem gi_0 : ∀ j, j < 32 → gi_b (gq_I 0) j = false := by decide +kernel
theorem gi_not {x : Int32} {j : Nat} (h : j < 32) : gi_b (x ^^^ gq_I (-1)) j = !gi_b x j := by
  rw [gi_xor, gi_m1 j h]
  cases gi_b x j <;> rfl
theorem gi_bit : ∀ i : Nat, i < 7 → ∀ j, j < 32 → gi_b (gq_I 1 <<< (gq_I i &&& gq_I 31)) j = decide (j = i) := by decide +kernel
/-- business b from minute m on goes in by its times -/
abbrev gk_run (w : Nat → Int) (b m : Nat) : Prop := w (13 + b) ≤ m ∧ (m : Int) + w (7 + b) - 1 ≤ w (19 + b)
/-- and all its minutes lie in the set x -/
def gk_in (w : Nat → Int) (x : Int64) (b m : Nat) : Prop := gk_run w b m ∧ ∀ j : Nat, m ≤ j → (j : Int) < m + w (7 + b) → gm_b x j = true
theorem gk_lt {w : Nat → Int} (ok : gq_okS w) {b m : Nat} (hb : (b : Int) < w 2) (h : gk_run w b m) : (m : Int) + w (7 + b) ≤ w 0 := by
  have o := ok.2.2.2.2.1 b hb
  unfold gk_run at h
  omega
theorem gq_goesIn {μ : gx_M} {a b m : Nat} {w : Nat → Int} {x : Int64} (ok : gq_okS w) (hc : gq_cS μ a w) (hb : (b : Int) < w 2) (hm : m < 41) : ∃ r : Bool, f_X5_goesIn a (gq_I b) (gq_I m) x μ = some r ∧ (r = true ↔ gk_in w x b m) := by
  have o0 := ok.1
  have o2 := ok.2.2.1
  obtain ⟨l1, ⟨f1, f2, f3⟩, _⟩ := ok.2.2.2.2.1 b hb
  obtain ⟨h1, h2, h3, _⟩ := hc.2.2.2.2 b hb
  obtain ⟨k, ek⟩ : ∃ k : Nat, w (7 + b) = k := ⟨(w (7 + b)).toNat, by omega⟩
  unfold gk_in gk_run
  rw [ek] at l1 h1 ⊢
  unfold f_X5_goesIn
  by_cases g1 : (m : Int) < w (13 + b)
  · refine ⟨false, ?_, fun h => absurd h (by decide), fun h => absurd h.1.1 (by omega)⟩
    simp (disch := omega) only [Int.reduceToNat, gq_lit, gq_neg, gq_add, gq_sub, gq_mul, gq_nat, Int.toNat_natCast, gq_tadd, gq_tmul, gq_lte, gq_br, gq_bd, gq_ck, Bool.false_eq_true, gq_leT, gq_leF, gq_ltT, gq_ltF, gq_eqT, gq_eqF, if_true, if_false, h1, h2, h3]
  · by_cases g2 : (m : Int) + k - 1 ≤ w (19 + b)
    · have e := gm_in (x := x) (n := k) (i := m) (by omega) (by omega) (by omega)
      by_cases g3 : ∀ j : Nat, m ≤ j → (j : Int) < m + k → gm_b x j = true
      · refine ⟨true, ?_, fun _ => ⟨⟨by omega, g2⟩, g3⟩, fun _ => rfl⟩
        have e2 := e.2 fun j a b => g3 j (by omega) (by omega)
        simp (disch := omega) only [Int.reduceToNat, gq_lit, gq_neg, gq_add, gq_sub, gq_mul, gq_nat, Int.toNat_natCast, gq_tadd, gq_tmul, gq_lte, gq_br, gq_bd, gq_ck, gq_sub, Bool.false_eq_true, gq_leT, gq_leF, gq_ltT, gq_ltF, gq_eqT, gq_eqF, if_true, if_false, h1, h2, h3, gq_toL, gq_Llit]
        exact if_pos e2
      · refine ⟨false, ?_, fun h => absurd h (by decide), fun h => absurd h.2 g3⟩
        have e2 := fun c => g3 fun j a b => (e.1 c) j (by omega) (by omega)
        simp (disch := omega) only [Int.reduceToNat, gq_lit, gq_neg, gq_add, gq_sub, gq_mul, gq_nat, Int.toNat_natCast, gq_tadd, gq_tmul, gq_lte, gq_br, gq_bd, gq_ck, gq_sub, Bool.false_eq_true, gq_leT, gq_leF, gq_ltT, gq_ltF, gq_eqT, gq_eqF, if_true, if_false, h1, h2, h3, gq_toL, gq_Llit]
        exact if_neg e2
    · refine ⟨false, ?_, fun h => absurd h (by decide), fun h => absurd h.1.2 g2⟩
      simp (disch := omega) only [Int.reduceToNat, gq_lit, gq_neg, gq_add, gq_sub, gq_mul, gq_nat, Int.toNat_natCast, gq_tadd, gq_tmul, gq_lte, gq_br, gq_bd, gq_ck, gq_sub, Bool.false_eq_true, gq_leT, gq_leF, gq_ltT, gq_ltF, gq_eqT, gq_eqF, if_true, if_false, h1, h2, h3]
/-- the class: which business goes in -/
theorem gq_possL {μ : gx_M} {a b : Nat} {w : Nat → Int} {x : Int64} (ok : gq_okS w) (hc : gq_cS μ a w) (hb : (b : Int) < w 2) {k : Int32 → Option Int32} : ∀ (d f i : Nat) (z : Int32), d < f → (i : Int) + d = w (19 + b) + 1 → ∃ z', L_X5_possible_23 (gq_I b) μ a x k f z (gq_I i) = k z' ∧ ∀ j, j < 32 → (gi_b z' j = true ↔ gi_b z j = true ∨ (j = b ∧ ∃ m : Nat, i ≤ m ∧ gk_in w x b m))
  | _, 0, _, _, hf, _ => absurd hf (Nat.not_lt_zero _)
  | 0, f + 1, i, z, hf, hi => by
    have o0 := ok.1
    have o2 := ok.2.2.1
    obtain ⟨l1, ⟨f1, f2, f3⟩, _⟩ := ok.2.2.2.2.1 b hb
    obtain ⟨h1, h2, h3, _⟩ := hc.2.2.2.2 b hb
    refine ⟨z, ?_, fun j hj => ⟨fun h => Or.inl h, fun h => h.elim (fun h => h) ?_⟩⟩
    · rw [L_X5_possible_23.eq_2]
      simp (disch := omega) only [Int.reduceToNat, gq_lit, gq_neg, gq_add, gq_sub, gq_mul, gq_nat, Int.toNat_natCast, gq_tadd, gq_tmul, gq_lte, gq_br, gq_bd, gq_ck, Bool.false_eq_true, gq_leT, gq_leF, gq_ltT, gq_ltF, gq_eqT, gq_eqF, if_true, if_false, h3]
    · rintro ⟨_, m, m1, ⟨m2, m3⟩, _⟩
      omega
  | d + 1, f + 1, i, z, hf, hi => by
    have o0 := ok.1
    have o2 := ok.2.2.1
    obtain ⟨l1, ⟨f1, f2, f3⟩, _⟩ := ok.2.2.2.2.1 b hb
    obtain ⟨h1, h2, h3, _⟩ := hc.2.2.2.2 b hb
    obtain ⟨r, r1, r2⟩ := gq_goesIn (x := x) ok hc hb (m := i) (by omega)
    cases r with
    | true =>
      have g := r2.mp rfl
      obtain ⟨z', e1, e2⟩ := gq_possL ok hc hb (k := k) d f (i + 1) (z ||| (gq_I 1 <<< (gq_I b &&& gq_I 31))) (by omega) (by omega)
      refine ⟨z', ?_, fun j hj => ?_⟩
      · rw [← e1, L_X5_possible_23.eq_2]
        simp (disch := omega) only [Int.reduceToNat, gq_lit, gq_neg, gq_add, gq_sub, gq_mul, gq_nat, Int.toNat_natCast, gq_tadd, gq_tmul, gq_lte, gq_br, gq_bd, gq_ck, Bool.false_eq_true, gq_leT, gq_leF, gq_ltT, gq_ltF, gq_eqT, gq_eqF, if_true, if_false, h3, r1]
        rfl
      · rw [e2 j hj, gi_or, gi_bit b (by omega) j hj, Bool.or_eq_true, decide_eq_true_iff]
        constructor
        · rintro ((h | h) | ⟨h, m, m1, m2⟩)
          · exact Or.inl h
          · exact Or.inr ⟨h, i, Nat.le_refl i, g⟩
          · exact Or.inr ⟨h, m, by omega, m2⟩
        · rintro (h | ⟨h, m, m1, m2⟩)
          · exact Or.inl (Or.inl h)
          · exact Or.inl (Or.inr h)
    | false =>
      have g : ¬ gk_in w x b i := fun h => absurd (r2.mpr h) (by decide)
      obtain ⟨z', e1, e2⟩ := gq_possL ok hc hb (k := k) d f (i + 1) z (by omega) (by omega)
      refine ⟨z', ?_, fun j hj => ?_⟩
      · rw [← e1, L_X5_possible_23.eq_2]
        simp (disch := omega) only [Int.reduceToNat, gq_lit, gq_neg, gq_add, gq_sub, gq_mul, gq_nat, Int.toNat_natCast, gq_tadd, gq_tmul, gq_lte, gq_br, gq_bd, gq_ck, Bool.false_eq_true, gq_leT, gq_leF, gq_ltT, gq_ltF, gq_eqT, gq_eqF, if_true, if_false, h3, r1]
        rfl
      · rw [e2 j hj]
        constructor
        · rintro (h | ⟨h, m, m1, m2⟩)
          · exact Or.inl h
          · exact Or.inr ⟨h, m, by omega, m2⟩
        · rintro (h | ⟨h, m, m1, m2⟩)
          · exact Or.inl h
          · by_cases z : m = i
            · subst z; exact absurd m2 g
            · exact Or.inr ⟨h, m, by omega, m2⟩
theorem gq_possL2 {μ : gx_M} {a : Nat} {w : Nat → Int} {x : Int64} (ok : gq_okS w) (hc : gq_cS μ a w) {k : Int32 → Option Int32} : ∀ (d f i : Nat) (z : Int32), d < f → (i : Int) + d = w 2 → ∃ z', L_X5_possible_5 μ a x k f z (gq_I i) = k z' ∧ ∀ j, j < 32 → (gi_b z' j = true ↔ gi_b z j = true ∨ (i ≤ j ∧ (j : Int) < w 2 ∧ ∃ m : Nat, gk_in w x j m))
  | _, 0, _, _, hf, _ => absurd hf (Nat.not_lt_zero _)
  | 0, f + 1, i, z, hf, hi => by
    have o2 := ok.2.2.1
    refine ⟨z, ?_, fun j hj => ⟨fun h => Or.inl h, fun h => h.elim (fun h => h) fun h => absurd h.1 (by omega)⟩⟩
    rw [L_X5_possible_5.eq_2, hc.1.2.2]
    simp (disch := omega) only [Int.reduceToNat, gq_lit, gq_neg, gq_add, gq_sub, gq_mul, gq_nat, Int.toNat_natCast, gq_tadd, gq_tmul, gq_lte, gq_br, gq_bd, gq_ck, Bool.false_eq_true, gq_leT, gq_leF, gq_ltT, gq_ltF, gq_eqT, gq_eqF, if_true, if_false]
  | d + 1, f + 1, i, z, hf, hi => by
    have o0 := ok.1
    have o2 := ok.2.2.1
    have hb : (i : Int) < w 2 := by omega
    obtain ⟨l1, ⟨f1, f2, f3⟩, _⟩ := ok.2.2.2.2.1 i hb
    obtain ⟨h1, h2, h3, _⟩ := hc.2.2.2.2 i hb
    obtain ⟨n, hn⟩ : ∃ n : Nat, w (13 + i) = n := ⟨(w (13 + i)).toNat, by omega⟩
    obtain ⟨z1, a1, a2⟩ := gq_possL ok hc hb (x := x) (k := fun (x3_18 : Int32) => L_X5_possible_5 μ a x k f x3_18 (gq_I (i + 1 : Nat))) (w (19 + i) + 1 - w (13 + i)).toNat 4000 n z (by omega) (by omega)
    obtain ⟨z', e1, e2⟩ := gq_possL2 ok hc (x := x) (k := k) d f (i + 1) z1 (by omega) (by omega)
    refine ⟨z', ?_, fun j hj => ?_⟩
    · rw [← e1, ← a1, L_X5_possible_5.eq_2, hc.1.2.2]
      simp (disch := omega) only [Int.reduceToNat, gq_lit, gq_neg, gq_add, gq_sub, gq_mul, gq_nat, Int.toNat_natCast, gq_tadd, gq_tmul, gq_lte, gq_br, gq_bd, gq_ck, Bool.false_eq_true, gq_leT, gq_leF, gq_ltT, gq_ltF, gq_eqT, gq_eqF, if_true, if_false, h2, hn]
      rfl
    · rw [e2 j hj, a2 j hj]
      constructor
      · rintro ((h | ⟨h, m, m1, m2⟩) | ⟨h, h4, h5⟩)
        · exact Or.inl h
        · subst h; exact Or.inr ⟨Nat.le_refl _, hb, m, m2⟩
        · exact Or.inr ⟨by omega, h4, h5⟩
      · rintro (h | ⟨h, h4, m, m2⟩)
        · exact Or.inl (Or.inl h)
        · by_cases e : j = i
          · subst e
            have m3 := m2.1.1
            exact Or.inl (Or.inr ⟨rfl, m, by omega, m2⟩)
          · exact Or.inr ⟨by omega, h4, m, m2⟩
theorem gq_poss {μ : gx_M} {a : Nat} {w : Nat → Int} (x : Int64) (ok : gq_okS w) (hc : gq_cS μ a w) : ∃ z, f_X5_possible a x μ = some z ∧ ∀ j, j < 32 → (gi_b z j = true ↔ (j : Int) < w 2 ∧ ∃ m : Nat, gk_in w x j m) := by
  have o2 := ok.2.2.1
  obtain ⟨z, e1, e2⟩ := gq_possL2 ok hc (x := x) (k := fun x => some x) (w 2).toNat 4000 0 (gq_I 0) (by omega) (by omega)
  refine ⟨z, ?_, fun j hj => ?_⟩
  · unfold f_X5_possible
    simp only [gq_lit]
    exact e1
  · rw [e2 j hj, gi_0 j hj]
    constructor
    · rintro (h | h)
      · exact absurd h (by decide)
      · exact h.2
    · intro h
      exact Or.inr ⟨by omega, h⟩
/-- what of a street the check's questions read -/
def gq_lay (ν : gx_M) (s : Nat) (w : Nat → Int) : Prop := (ν.1 206 24 = gq_I s ∧ ν.1 206 25 = gq_I (w 0) ∧ ν.1 206 26 = gq_I (w 1) ∧ ν.1 206 27 = gq_I (w 2)) ∧ gq_mS ν s w
theorem gq_hd_lay {ν : gx_M} {s : Nat} {w : Nat → Int} (h : gq_hd ν s w) : gq_lay ν s w := ⟨⟨h.1.1, h.1.2.1, h.1.2.2.1, h.1.2.2.2.1⟩, h.2.2.2.2.2.2⟩
theorem gq_mayR {ν : gx_M} {s b m : Nat} {w : Nat → Int} (ok : gq_okS w) (hs : s < 8) (hl : gq_lay ν s w) (hb : (b : Int) < w 2) (hm : m < 40) : f_X12_mayBegin (gq_I b) (gq_I m) ν = some (decide (gk_run w b m)) := by
  have o0 := ok.1
  have o2 := ok.2.2.1
  obtain ⟨l1, ⟨f1, f2, f3⟩, _⟩ := ok.2.2.2.2.1 b hb
  have h := gy_may (b := b) (m := m) hl.1.1 hs hl.2 (by omega) (by omega) (by rw [Int.toNat_natCast]; omega) (by rw [Int.toNat_natCast]; omega) (by rw [Int.toNat_natCast]; omega)
  rw [Int.toNat_natCast] at h
  rw [h]
theorem gq_runB {ν : gx_M} {s b m : Nat} {w : Nat → Int} (ok : gq_okS w) (hs : s < 8) (hl : gq_lay ν s w) (hb : (b : Int) < w 2) (hm : m < 40) : f_X12_runBits (gq_I b) (gq_I m) ν = some (((gq_L 1 <<< (gq_L (w (7 + b)) &&& gq_L 63)) - gq_L 1) <<< (gq_L m &&& gq_L 63)) := by
  have o2 := ok.2.2.1
  obtain ⟨l1, ⟨f1, f2, f3⟩, _⟩ := ok.2.2.2.2.1 b hb
  have h := gy_len (b := b) hl.1.1 hs hl.2 (by omega)
  rw [Int.toNat_natCast] at h
  unfold f_X12_runBits
  rw [h, gq_br]
  simp (disch := omega) only [gq_toL, gq_Llit, gq_lit]
theorem gq_anyL {ν : gx_M} {s b : Nat} {w : Nat → Int} {x : Int64} (ok : gq_okS w) (hs : s < 8) (hl : gq_lay ν s w) (hb : (b : Int) < w 2) : ∀ (d f i : Nat), d < f → (i : Int) + d = w 0 → ∃ r : Bool, L_X12_anyRun_3 ν (gq_I b) x (some false) f (gq_I i) = some r ∧ (r = true ↔ ∃ m : Nat, i ≤ m ∧ gk_in w x b m)
  | _, 0, _, hf, _ => absurd hf (Nat.not_lt_zero _)
  | 0, f + 1, i, hf, hi => by
    have o0 := ok.1
    refine ⟨false, ?_, fun h => absurd h (by decide), ?_⟩
    · rw [L_X12_anyRun_3.eq_2, hl.1.2.1]
      simp (disch := omega) only [Int.reduceToNat, gq_lit, gq_neg, gq_add, gq_sub, gq_mul, gq_nat, Int.toNat_natCast, gq_tadd, gq_tmul, gq_lte, gq_br, gq_bd, gq_ck, Bool.false_eq_true, gq_leT, gq_leF, gq_ltT, gq_ltF, gq_eqT, gq_eqF, if_true, if_false]
    · rintro ⟨m, m1, m2⟩
      have := gk_lt ok hb m2.1
      have l1 := (ok.2.2.2.2.1 b hb).1
      omega
  | d + 1, f + 1, i, hf, hi => by
    have o0 := ok.1
    have o2 := ok.2.2.1
    obtain ⟨l1, ⟨f1, f2, f3⟩, _⟩ := ok.2.2.2.2.1 b hb
    obtain ⟨r, r1, r2⟩ := gq_anyL (x := x) ok hs hl hb d f (i + 1) (by omega) (by omega)
    have em := gq_mayR ok hs hl hb (m := i) (by omega)
    have er := gq_runB ok hs hl hb (m := i) (by omega)
    obtain ⟨n, hn⟩ : ∃ n : Nat, w (7 + b) = n := ⟨(w (7 + b)).toNat, by omega⟩
    have skip : ¬ gk_in w x b i → (r = true ↔ ∃ m : Nat, i ≤ m ∧ gk_in w x b m) := fun g => by
      rw [r2]
      constructor
      · rintro ⟨m, m1, m2⟩; exact ⟨m, by omega, m2⟩
      · rintro ⟨m, m1, m2⟩
        by_cases e : m = i
        · subst e; exact absurd m2 g
        · exact ⟨m, by omega, m2⟩
    by_cases g : gk_run w b i
    · rw [decide_eq_true g] at em
      have e := gm_in (x := x) (n := n) (i := i) (by omega) (by omega) (by omega)
      by_cases g2 : ∀ j : Nat, i ≤ j → (j : Int) < i + w (7 + b) → gm_b x j = true
      · refine ⟨true, ?_, fun _ => ⟨i, Nat.le_refl i, g, g2⟩, fun _ => rfl⟩
        have e2 := e.2 fun j a b => g2 j (by omega) (by omega)
        rw [L_X12_anyRun_3.eq_2, hl.1.2.1]
        simp (disch := omega) only [Int.reduceToNat, gq_lit, gq_neg, gq_add, gq_sub, gq_mul, gq_nat, Int.toNat_natCast, gq_tadd, gq_tmul, gq_lte, gq_br, gq_bd, gq_ck, Bool.false_eq_true, gq_leT, gq_leF, gq_ltT, gq_ltF, gq_eqT, gq_eqF, if_true, if_false, em, er, hn, gq_Llit, gq_Lneg]
        exact if_pos e2
      · refine ⟨r, ?_, skip fun c => g2 c.2⟩
        have e2 := fun c => g2 fun j a b => (e.1 c) j (by omega) (by omega)
        rw [L_X12_anyRun_3.eq_2, hl.1.2.1]
        simp (disch := omega) only [Int.reduceToNat, gq_lit, gq_neg, gq_add, gq_sub, gq_mul, gq_nat, Int.toNat_natCast, gq_tadd, gq_tmul, gq_lte, gq_br, gq_bd, gq_ck, Bool.false_eq_true, gq_leT, gq_leF, gq_ltT, gq_ltF, gq_eqT, gq_eqF, if_true, if_false, em, er, hn, gq_Llit, gq_Lneg]
        rw [if_neg e2]
        exact r1
    · rw [decide_eq_false g] at em
      refine ⟨r, ?_, skip fun c => g c.1⟩
      rw [L_X12_anyRun_3.eq_2, hl.1.2.1]
      simp (disch := omega) only [Int.reduceToNat, gq_lit, gq_neg, gq_add, gq_sub, gq_mul, gq_nat, Int.toNat_natCast, gq_tadd, gq_tmul, gq_lte, gq_br, gq_bd, gq_ck, Bool.false_eq_true, gq_leT, gq_leF, gq_ltT, gq_ltF, gq_eqT, gq_eqF, if_true, if_false, em]
      exact r1
theorem gq_any {ν : gx_M} {s b : Nat} {w : Nat → Int} (x : Int64) (ok : gq_okS w) (hs : s < 8) (hl : gq_lay ν s w) (hb : (b : Int) < w 2) : ∃ r : Bool, f_X12_anyRun (gq_I b) x ν = some r ∧ (r = true ↔ ∃ m : Nat, gk_in w x b m) := by
  have o0 := ok.1
  obtain ⟨r, r1, r2⟩ := gq_anyL (x := x) ok hs hl hb (w 0).toNat 4000 0 (by omega) (by omega)
  refine ⟨r, ?_, ?_⟩
  · unfold f_X12_anyRun
    simp only [gq_lit]
    exact r1
  · rw [r2]
    constructor
    · rintro ⟨m, m1, m2⟩; exact ⟨m, m2⟩
    · rintro ⟨m, m2⟩; exact ⟨m, by omega, m2⟩
/-- his minutes, on both sides -/
theorem gq_his {μ ν : gx_M} {s a : Nat} {w : Nat → Int} (ok : gq_okS w) (hc : gq_cS μ a w) (hh : gq_hd ν s w) {p : Int} (hp : 0 ≤ p ∧ p ≤ 3) : ∃ y, f_X5_held a (gq_I p) μ = some y ∧ f_X12_handsOf (gq_I p) ν = some y ∧ ∀ j, j < 64 → (gm_b y j = true ↔ (j : Int) < w 0 ∧ w (71 + j) = p) := by
  have o0 := ok.1
  have o1 := ok.2.1
  have hb : ∀ m, m < 40 → -1 ≤ w (71 + m) ∧ w (71 + m) ≤ 4 := fun m hm => by have := ok.2.2.2.2.2.2 m hm; omega
  obtain ⟨y, y1, y2⟩ := gm_held (μ := μ) (a := a) (n := w 0) (p := p) (O := fun m => w (71 + m)) (by omega) hc.1.1 (fun m hm => hc.2.2.2.1 m hm) hb (by omega)
  obtain ⟨z, z1, z2⟩ := gm_hands (μ := ν) (n := w 0) (p := p) (O := fun m => w (71 + m)) (by omega) hh.1.2.1 (fun m hm => hh.2.2.2.1 m hm) hb (by omega)
  have e : z = y := gm_ext fun j hj => by
    have a1 := y2 j hj
    have a2 := z2 j hj
    cases h1 : gm_b y j
    · cases h2 : gm_b z j
      · rfl
      · exact absurd (a1.mpr (a2.mp h2)) (by rw [h1]; decide)
    · exact a2.mpr (a1.mp h1)
  exact ⟨y, y1, by rw [z1, e], y2⟩
