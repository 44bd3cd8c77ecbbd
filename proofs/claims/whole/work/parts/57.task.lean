/-! a business done, on both sides -/
theorem gy_freeOf {μ : gx_M} (p : Int) {i : Nat} (hi : i < 40) : f_X3_isFreeOf (gq_I p) (gq_I i) μ = some (decide (μ.1 66 i = gq_I p ∧ μ.1 71 i = gq_I 0)) := by
  unfold f_X3_isFreeOf
  simp (disch := omega) only [Int.reduceToNat, gq_lit, gq_neg, gq_add, gq_sub, gq_mul, gq_nat, Int.toNat_natCast, gq_tadd, gq_tmul, gq_lte, gq_br, gq_bd, gq_ck]
  by_cases a : μ.1 66 i = gq_I p
  · rw [if_pos a]
    by_cases b : μ.1 71 i = gq_I 0
    · rw [if_pos b, decide_eq_true ⟨a, b⟩]
    · rw [if_neg b, decide_eq_false fun h => b h.2]
  · rw [if_neg a, decide_eq_false fun h => a h.1]
theorem gy_freeL {μ : gx_M} {n p : Int} (hn : 0 ≤ n ∧ n ≤ 40) (h0 : μ.1 63 0 = gq_I n) {k : Int64 → Option Int64} : ∀ (d f i : Nat) (x : Int64), d < f → (i : Int) + d = n → ∃ y, L_X3_freeMinutes_5 μ (gq_I p) k f x (gq_I i) = k y ∧ ∀ j, j < 64 → (gm_b y j = true ↔ gm_b x j = true ∨ (i ≤ j ∧ (j : Int) < n ∧ μ.1 66 j = gq_I p ∧ μ.1 71 j = gq_I 0))
  | _, 0, _, _, hf, _ => absurd hf (Nat.not_lt_zero _)
  | 0, f + 1, i, x, hf, hi => by
    refine ⟨x, ?_, fun j hj => ⟨fun g => Or.inl g, fun g => g.elim (fun g => g) fun g => absurd g.1 (by omega)⟩⟩
    rw [L_X3_freeMinutes_5.eq_2, h0]
    simp (disch := omega) only [Bool.false_eq_true, gq_leT, gq_leF, gq_ltT, gq_ltF, gq_eqT, gq_eqF, if_true, if_false]
  | d + 1, f + 1, i, x, hf, hi => by
    have fr := gy_freeOf (μ := μ) p (i := i) (by omega)
    by_cases g : μ.1 66 i = gq_I p ∧ μ.1 71 i = gq_I 0
    · obtain ⟨y, h1, h2⟩ := gy_freeL hn h0 (p := p) (k := k) d f (i + 1) (x ||| (gq_L 1 <<< (gq_L i &&& gq_L 63))) (by omega) (by omega)
      rw [decide_eq_true g] at fr
      refine ⟨y, ?_, fun j hj => ?_⟩
      · rw [L_X3_freeMinutes_5.eq_2, ← h1, h0, fr]
        simp (disch := omega) only [Int.reduceToNat, gq_lit, gq_neg, gq_add, gq_sub, gq_mul, gq_nat, Int.toNat_natCast, gq_tadd, gq_tmul, gq_lte, gq_br, gq_bd, gq_ck, Bool.false_eq_true, gq_leT, gq_leF, gq_ltT, gq_ltF, gq_eqT, gq_eqF, if_true, if_false, gq_toL, gq_Llit]
        rfl
      · rw [h2 j hj, gm_or1 (by omega) hj, Bool.or_eq_true, decide_eq_true_iff]
        constructor
        · rintro ((h | h) | h)
          · exact Or.inl h
          · subst h; exact Or.inr ⟨by omega, by omega, g⟩
          · exact Or.inr ⟨by omega, h.2⟩
        · rintro (h | h)
          · exact Or.inl (Or.inl h)
          · by_cases e : j = i
            · exact Or.inl (Or.inr e)
            · exact Or.inr ⟨by omega, h.2⟩
    · obtain ⟨y, h1, h2⟩ := gy_freeL hn h0 (p := p) (k := k) d f (i + 1) x (by omega) (by omega)
      rw [decide_eq_false g] at fr
      refine ⟨y, ?_, fun j hj => ?_⟩
      · rw [L_X3_freeMinutes_5.eq_2, ← h1, h0, fr]
        simp (disch := omega) only [Int.reduceToNat, gq_lit, gq_neg, gq_add, gq_sub, gq_mul, gq_nat, Int.toNat_natCast, gq_tadd, gq_tmul, gq_lte, gq_br, gq_bd, gq_ck, Bool.false_eq_true, gq_leT, gq_leF, gq_ltT, gq_ltF, gq_eqT, gq_eqF, if_true, if_false]
        rfl
      · rw [h2 j hj]
        constructor
        · rintro (h | h)
          · exact Or.inl h
          · exact Or.inr ⟨by omega, h.2⟩
        · rintro (h | h)
          · exact Or.inl h
          · by_cases e : j = i
            · subst e; exact absurd h.2.2 g
            · exact Or.inr ⟨by omega, h.2⟩
theorem gy_free {μ : gx_M} {n : Int} (p : Int) (hn : 0 ≤ n ∧ n ≤ 40) (h0 : μ.1 63 0 = gq_I n) : ∃ y, f_X3_freeMinutes (gq_I p) μ = some y ∧ ∀ j, j < 64 → (gm_b y j = true ↔ (j : Int) < n ∧ μ.1 66 j = gq_I p ∧ μ.1 71 j = gq_I 0) := by
  obtain ⟨y, h1, h2⟩ := gy_freeL hn h0 (p := p) (k := fun x => some x) n.toNat 4000 0 (gq_L 0) (by omega) (by omega)
  refine ⟨y, ?_, fun j hj => ?_⟩
  · unfold f_X3_freeMinutes
    simp only [gq_lit, gq_Llit]
    exact h1
  · rw [h2 j hj, gm_0 j hj]
    constructor
    · rintro (h | h)
      · exact absurd h (by decide)
      · exact h.2
    · intro h
      exact Or.inr ⟨by omega, h⟩
/-- goesIn: the times of the business, and a window of the mask -/
theorem gy_goesIn {μ : gx_M} {b m l fr t n : Int} {x : Int64} (hb : 0 ≤ b ∧ b < 6) (hl : 1 ≤ l ∧ l ≤ 9) (hf : 0 ≤ fr ∧ fr ≤ t ∧ t < n) (hn : n ≤ 40) (hm : 0 ≤ m ∧ m < n) (h1 : μ.1 67 b.toNat = gq_I l) (h2 : μ.1 68 b.toNat = gq_I fr) (h3 : μ.1 69 b.toNat = gq_I t) : ∃ r : Bool, f_X5_goesIn 63 (gq_I b) (gq_I m) x μ = some r ∧ (r = true ↔ fr ≤ m ∧ m + l - 1 ≤ t ∧ ∀ j : Nat, m ≤ j → (j : Int) < m + l → gm_b x j = true) := by
  unfold f_X5_goesIn
  obtain ⟨i, rfl⟩ : ∃ i : Nat, m = i := ⟨m.toNat, by omega⟩
  obtain ⟨k, rfl⟩ : ∃ k : Nat, l = k := ⟨l.toNat, by omega⟩
  by_cases g1 : (i : Int) < fr
  · refine ⟨false, ?_, fun h => absurd h (by decide), fun h => absurd h.1 (by omega)⟩
    simp (disch := omega) only [Int.reduceToNat, gq_lit, gq_neg, gq_add, gq_sub, gq_mul, gq_nat, Int.toNat_natCast, gq_tadd, gq_tmul, gq_lte, gq_br, gq_bd, gq_ck, Bool.false_eq_true, gq_leT, gq_leF, gq_ltT, gq_ltF, gq_eqT, gq_eqF, if_true, if_false, h1, h2, h3]
  · by_cases g2 : (i : Int) + k - 1 ≤ t
    · have e := gm_in (x := x) (n := k) (i := i) (by omega) (by omega) (by omega)
      by_cases g3 : ∀ j : Nat, (i : Int) ≤ j → (j : Int) < i + k → gm_b x j = true
      · refine ⟨true, ?_, fun _ => ⟨by omega, g2, g3⟩, fun _ => rfl⟩
        have e2 := e.2 fun j a b => g3 j (by omega) (by omega)
        simp (disch := omega) only [Int.reduceToNat, gq_lit, gq_neg, gq_add, gq_sub, gq_mul, gq_nat, Int.toNat_natCast, gq_tadd, gq_tmul, gq_lte, gq_br, gq_bd, gq_ck, gq_sub, Bool.false_eq_true, gq_leT, gq_leF, gq_ltT, gq_ltF, gq_eqT, gq_eqF, if_true, if_false, h1, h2, h3, gq_toL, gq_Llit]
        exact if_pos e2
      · refine ⟨false, ?_, fun h => absurd h (by decide), fun h => absurd h.2.2 g3⟩
        have e2 := fun c => g3 fun j a b => (e.1 c) j (by omega) (by omega)
        simp (disch := omega) only [Int.reduceToNat, gq_lit, gq_neg, gq_add, gq_sub, gq_mul, gq_nat, Int.toNat_natCast, gq_tadd, gq_tmul, gq_lte, gq_br, gq_bd, gq_ck, gq_sub, Bool.false_eq_true, gq_leT, gq_leF, gq_ltT, gq_ltF, gq_eqT, gq_eqF, if_true, if_false, h1, h2, h3, gq_toL, gq_Llit]
        exact if_neg e2
    · refine ⟨false, ?_, fun h => absurd h (by decide), fun h => absurd h.2.1 g2⟩
      simp (disch := omega) only [Int.reduceToNat, gq_lit, gq_neg, gq_add, gq_sub, gq_mul, gq_nat, Int.toNat_natCast, gq_tadd, gq_tmul, gq_lte, gq_br, gq_bd, gq_ck, gq_sub, Bool.false_eq_true, gq_leT, gq_leF, gq_ltT, gq_ltF, gq_eqT, gq_eqF, if_true, if_false, h1, h2, h3]
theorem gy_len {ν : gx_M} {s : Nat} {w : Nat → Int} {b : Int} (h : ν.1 206 24 = gq_I s) (hs : s < 8) (hw : gq_mS ν s w) (hb : 0 ≤ b ∧ b < 6) : f_X12_lengthOf (gq_I b) ν = some (gq_I (w (7 + b.toNat))) := by
  unfold f_X12_lengthOf
  rw [show (7 : Int32) = gq_I 7 from rfl, gq_add, gq_xof h hs hw (by omega), show ((7 : Int) + b).toNat = 7 + b.toNat by omega]
  rfl
theorem gy_may {ν : gx_M} {s : Nat} {w : Nat → Int} {b m : Int} (h : ν.1 206 24 = gq_I s) (hs : s < 8) (hw : gq_mS ν s w) (hb : 0 ≤ b ∧ b < 6) (hm : 0 ≤ m ∧ m < 40) (h1 : 1 ≤ w (7 + b.toNat) ∧ w (7 + b.toNat) ≤ 9) (h2 : 0 ≤ w (13 + b.toNat) ∧ w (13 + b.toNat) ≤ 39) (h3 : 0 ≤ w (19 + b.toNat) ∧ w (19 + b.toNat) ≤ 39) : f_X12_mayBegin (gq_I b) (gq_I m) ν = some (decide (w (13 + b.toNat) ≤ m ∧ m + w (7 + b.toNat) - 1 ≤ w (19 + b.toNat))) := by
  unfold f_X12_mayBegin
  rw [gy_len h hs hw hb, show (13 : Int32) = gq_I 13 from rfl, show (19 : Int32) = gq_I 19 from rfl, gq_add, gq_add, gq_xof h hs hw (z := 13 + b) (by omega), gq_xof h hs hw (z := 19 + b) (by omega), show ((13 : Int) + b).toNat = 13 + b.toNat by omega, show ((19 : Int) + b).toNat = 19 + b.toNat by omega]
  by_cases g1 : m < w (13 + b.toNat)
  · rw [decide_eq_false fun h => absurd h.1 (by omega)]
    simp (disch := omega) only [Int.reduceToNat, gq_lit, gq_neg, gq_add, gq_sub, gq_mul, gq_nat, Int.toNat_natCast, gq_tadd, gq_tmul, gq_lte, gq_br, gq_bd, gq_ck, Bool.false_eq_true, gq_leT, gq_leF, gq_ltT, gq_ltF, gq_eqT, gq_eqF, if_true, if_false]
  · by_cases g2 : m + w (7 + b.toNat) - 1 ≤ w (19 + b.toNat)
    · rw [decide_eq_true ⟨by omega, g2⟩]
      simp (disch := omega) only [Int.reduceToNat, gq_lit, gq_neg, gq_add, gq_sub, gq_mul, gq_nat, Int.toNat_natCast, gq_tadd, gq_tmul, gq_lte, gq_br, gq_bd, gq_ck, gq_sub, Bool.false_eq_true, gq_leT, gq_leF, gq_ltT, gq_ltF, gq_eqT, gq_eqF, if_true, if_false]
    · rw [decide_eq_false fun h => g2 h.2]
      simp (disch := omega) only [Int.reduceToNat, gq_lit, gq_neg, gq_add, gq_sub, gq_mul, gq_nat, Int.toNat_natCast, gq_tadd, gq_tmul, gq_lte, gq_br, gq_bd, gq_ck, gq_sub, Bool.false_eq_true, gq_leT, gq_leF, gq_ltT, gq_ltF, gq_eqT, gq_eqF, if_true, if_false]
/-- the check looks through the window -/
theorem gy_look {ν : gx_M} {s : Nat} {w : Nat → Int} {b m p l : Int} (h : ν.1 206 24 = gq_I s) (hs : s < 8) (hw : gq_mS ν s w) (hb : 0 ≤ b ∧ b < 6) (el : w (7 + b.toNat) = l) (hl : 1 ≤ l ∧ l ≤ 9) (hm : 0 ≤ m ∧ m + l ≤ 40) (k : gx_M → Option (Bool × gx_M)) : ∀ (d f i : Nat), d < f → (i : Int) + d = l → ((∀ j : Nat, m + i ≤ j → (j : Int) < m + l → ν.1 220 j = gq_I p ∧ ν.1 221 j = gq_I 0) → L_X12_doesTask_48 (gq_I b) (gq_I m) (gq_I p) k f (gq_I i) ν = k ν) ∧ (¬ (∀ j : Nat, m + i ≤ j → (j : Int) < m + l → ν.1 220 j = gq_I p ∧ ν.1 221 j = gq_I 0) → L_X12_doesTask_48 (gq_I b) (gq_I m) (gq_I p) k f (gq_I i) ν = some (false, ν))
  | _, 0, _, hf, _ => absurd hf (Nat.not_lt_zero _)
  | 0, f + 1, i, hf, hi => by
    refine ⟨fun _ => ?_, fun g => absurd (fun j a b => absurd a (by omega)) g⟩
    rw [L_X12_doesTask_48.eq_2, gy_len h hs hw hb, el]
    simp (disch := omega) only [Int.reduceToNat, gq_lit, gq_neg, gq_add, gq_sub, gq_mul, gq_nat, Int.toNat_natCast, gq_tadd, gq_tmul, gq_lte, gq_br, gq_bd, gq_ck, Bool.false_eq_true, gq_leT, gq_leF, gq_ltT, gq_ltF, gq_eqT, gq_eqF, if_true, if_false]
  | d + 1, f + 1, i, hf, hi => by
    obtain ⟨r1, r2⟩ := gy_look h hs hw hb el hl hm k d f (i + 1) (by omega) (by omega)
    obtain ⟨q, hq⟩ : ∃ q : Nat, m + i = q := ⟨(m + i).toNat, by omega⟩
    by_cases g : ν.1 220 q = gq_I p ∧ ν.1 221 q = gq_I 0
    · have e : L_X12_doesTask_48 (gq_I b) (gq_I m) (gq_I p) k (f + 1) (gq_I i) ν = L_X12_doesTask_48 (gq_I b) (gq_I m) (gq_I p) k f (gq_I (i + 1 : Nat)) ν := by
        rw [L_X12_doesTask_48.eq_2, gy_len h hs hw hb, el]
        simp (disch := omega) only [Int.reduceToNat, gq_lit, gq_neg, gq_add, gq_sub, gq_mul, gq_nat, Int.toNat_natCast, gq_tadd, gq_tmul, gq_lte, gq_br, gq_bd, gq_ck, Bool.false_eq_true, gq_leT, gq_leF, gq_ltT, gq_ltF, gq_eqT, gq_eqF, if_true, if_false, hq]
        rw [if_pos g.1, if_pos g.2]
        rfl
      rw [e]
      refine ⟨fun a => r1 fun j c d => a j (by omega) d, fun a => r2 fun c => a fun j u v => ?_⟩
      by_cases z : j = q
      · rw [z]; exact g
      · exact c j (by omega) v
    · refine ⟨fun a => absurd (a q (by omega) (by omega)) g, fun _ => ?_⟩
      rw [L_X12_doesTask_48.eq_2, gy_len h hs hw hb, el]
      simp (disch := omega) only [Int.reduceToNat, gq_lit, gq_neg, gq_add, gq_sub, gq_mul, gq_nat, Int.toNat_natCast, gq_tadd, gq_tmul, gq_lte, gq_br, gq_bd, gq_ck, Bool.false_eq_true, gq_leT, gq_leF, gq_ltT, gq_ltF, gq_eqT, gq_eqF, if_true, if_false, hq]
      by_cases g1 : ν.1 220 q = gq_I p
      · rw [if_pos g1, if_neg fun g2 => g ⟨g1, g2⟩]
      · rw [if_neg g1]
/-- both use the minutes -/
theorem gy_fill {s : Nat} {w : Nat → Int} {b : Nat} {m l : Int} (hs : s < 8) (hb : (b : Int) < w 2) (hb6 : b < 6) (el : w (7 + b) = l) (hl : 1 ≤ l ∧ l ≤ 9) (hm : 0 ≤ m ∧ m + l ≤ 40) (kc km : gx_M → Option (Bool × gx_M)) : ∀ (d f i : Nat) (μ ν : gx_M), d < f → (i : Int) + d = l → gy_R μ ν s w → ∃ μ' ν', L_X3_does_54 (gq_I b) (gq_I m) kc f (gq_I (m + i)) μ = kc μ' ∧ L_X12_doesTask_94 (gq_I b) (gq_I m) km f (gq_I i) ν = km ν' ∧ gy_R μ' ν' s w ∧ gy_kc μ μ' ∧ gy_km ν ν'
  | _, 0, _, _, _, hf, _, _ => absurd hf (Nat.not_lt_zero _)
  | 0, f + 1, i, μ, ν, hf, hi, h => by
    have e1 := (h.1.2.1 b hb).1
    have e2 := gy_len (b := b) h.1.2.2.1.1 hs h.1.2.2.2 (by omega)
    rw [Int.toNat_natCast, el] at e2
    rw [el] at e1
    refine ⟨μ, ν, ?_, ?_, h, gy_kc_r μ, gy_km_r ν⟩
    · rw [L_X3_does_54.eq_2]
      simp (disch := omega) only [Int.reduceToNat, gq_lit, gq_neg, gq_add, gq_sub, gq_mul, gq_nat, Int.toNat_natCast, gq_tadd, gq_tmul, gq_lte, gq_br, gq_bd, gq_ck, Bool.false_eq_true, gq_leT, gq_leF, gq_ltT, gq_ltF, gq_eqT, gq_eqF, if_true, if_false, e1]
    · rw [L_X12_doesTask_94.eq_2, e2]
      simp (disch := omega) only [Int.reduceToNat, gq_lit, gq_neg, gq_add, gq_sub, gq_mul, gq_nat, Int.toNat_natCast, gq_tadd, gq_tmul, gq_lte, gq_br, gq_bd, gq_ck, Bool.false_eq_true, gq_leT, gq_leF, gq_ltT, gq_ltF, gq_eqT, gq_eqF, if_true, if_false]
  | d + 1, f + 1, i, μ, ν, hf, hi, h => by
    have e1 := (h.1.2.1 b hb).1
    have e2 := gy_len (b := b) h.1.2.2.1.1 hs h.1.2.2.2 (by omega)
    rw [Int.toNat_natCast, el] at e2
    rw [el] at e1
    obtain ⟨q, hq⟩ : ∃ q : Nat, m + i = q := ⟨(m + i).toNat, by omega⟩
    obtain ⟨μ', ν', a1, a2, a3, a4, a5⟩ := gy_fill hs hb hb6 el hl hm kc km d f (i + 1) (gx_uI μ 71 q (gq_I 1)) (gx_uI ν 221 q (gq_I 1)) (by omega) (by omega) (gy_use h q)
    refine ⟨μ', ν', ?_, ?_, a3, gy_kc_tr (gy_kc_u (by omega)) a4, gy_km_tr (gy_km_u (by omega)) a5⟩
    · rw [← a1, L_X3_does_54.eq_2]
      simp (disch := omega) only [Int.reduceToNat, gq_lit, gq_neg, gq_add, gq_sub, gq_mul, gq_nat, Int.toNat_natCast, gq_tadd, gq_tmul, gq_lte, gq_br, gq_bd, gq_ck, Bool.false_eq_true, gq_leT, gq_leF, gq_ltT, gq_ltF, gq_eqT, gq_eqF, if_true, if_false, e1, hq, gq_biT]
      rw [show m + ((i + 1 : Nat) : Int) = (q : Int) + 1 by omega]
    · rw [← a2, L_X12_doesTask_94.eq_2, e2]
      simp (disch := omega) only [Int.reduceToNat, gq_lit, gq_neg, gq_add, gq_sub, gq_mul, gq_nat, Int.toNat_natCast, gq_tadd, gq_tmul, gq_lte, gq_br, gq_bd, gq_ck, Bool.false_eq_true, gq_leT, gq_leF, gq_ltT, gq_ltF, gq_eqT, gq_eqF, if_true, if_false, hq, gq_biT]
      rfl
