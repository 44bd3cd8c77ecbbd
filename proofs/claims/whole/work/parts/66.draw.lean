/-! what a seed draws, on both sides -/
theorem gy_natI {u : Nat} (h : u < 2147483648) : (gq_I u).toBitVec.toNat = u := by
  show (BitVec.ofInt 32 u).toNat = u
  rw [BitVec.toNat_ofInt]
  omega
theorem gy_sh (x : Int32) : ∃ u : Nat, u < 65536 ∧ (((x).toUInt32 >>> ((16 : Int32).toUInt32 &&& Int32.toUInt32 31)).toInt32) = gq_I u := by
  have hx : x.toUInt32.toNat < 4294967296 := x.toUInt32.toBitVec.isLt
  refine ⟨x.toUInt32.toNat / 65536, by omega, ?_⟩
  rw [← Int32.toBitVec_inj]
  refine BitVec.eq_of_toNat_eq ?_
  rw [gy_natI (by omega)]
  show (x.toUInt32 >>> ((16 : Int32).toUInt32 &&& Int32.toUInt32 31)).toNat = _
  rw [UInt32.toNat_shiftRight, show ((16 : Int32).toUInt32 &&& Int32.toUInt32 31).toNat % 32 = 16 by decide, Nat.shiftRight_eq_div_pow]
theorem gy_seed {μ ν : gx_M} {s : Nat} {w : Nat → Int} (h : gy_R μ ν s w) (x : Int32) : gy_R (gx_uI μ 62 6 x) (gx_uI ν 206 55 x) s w := by
  obtain ⟨h1, h2, h3, h4, h5, h6, h7, h8, h9⟩ := h
  obtain ⟨t, t1, t2, t3⟩ := h9
  refine ⟨gy_fx_w h1 (fun a j g => by rw [gq_uI1, if_neg (by omega)]) fun a j g => by rw [gq_uI1, if_neg (by omega)], ?_, ?_, ?_, ?_, ?_, ?_, ?_, ⟨t, t1, by rw [gq_uI1, if_neg (by omega)]; exact t2, by rw [gq_uI1, if_neg (by omega)]; exact t3⟩⟩
  all_goals first | unfold gy_pr | unfold gy_ow | unfold gy_us | unfold gy_dn | skip
  all_goals rw [gq_urow (by omega), gq_urow (by omega)]
  all_goals first | exact h2 | exact h3 | exact h4 | exact h5 | exact h6 | exact h7 | exact h8
/-- both plays with one seed -/
def gy_R2 (μ ν : gx_M) (s : Nat) (w : Nat → Int) : Prop := gy_R μ ν s w ∧ ν.1 206 55 = μ.1 62 6
def gy_kk (μ μ' ν ν' : gx_M) : Prop := gq_sm gq_Pc μ μ' ∧ gq_sm gq_Pm ν ν'
theorem gy_kk_r (μ ν : gx_M) : gy_kk μ μ ν ν := ⟨gq_sm_rf, gq_sm_rf⟩
theorem gy_kk_tr {μ μ1 μ2 ν ν1 ν2 : gx_M} (h : gy_kk μ μ1 ν ν1) (h2 : gy_kk μ1 μ2 ν1 ν2) : gy_kk μ μ2 ν ν2 := ⟨gq_sm_tr h.1 h2.1, gq_sm_tr h.2 h2.2⟩
theorem gy_draw {μ ν : gx_M} {s : Nat} {w : Nat → Int} (h : gy_R2 μ ν s w) {n : Int} (hn : 1 ≤ n ∧ n ≤ 40) : ∃ (r : Int) (μ' ν' : gx_M), (0 ≤ r ∧ r < n) ∧ f_X3_draw (gq_I n) μ = some (gq_I r, μ') ∧ f_X12_draw (gq_I n) ν = some (gq_I r, ν') ∧ gy_R2 μ' ν' s w ∧ gy_kk μ μ' ν ν' := by
  obtain ⟨X, hX⟩ : ∃ X, X = μ.1 62 6 * 1103515245 + 12345 := ⟨_, rfl⟩
  obtain ⟨u, u1, u2⟩ := gy_sh X
  have hm : (u : Int) - u / n * n = u % n := by
    rw [Int.emod_def, Int.mul_comm]
  have hb : 0 ≤ (u : Int) % n ∧ (u : Int) % n < n := ⟨Int.emod_nonneg _ (by omega), Int.emod_lt_of_pos _ (by omega)⟩
  have e : gq_I u - gq_I u / gq_I n * gq_I n = gq_I (u % n) := by
    rw [gq_div (by omega), gq_mul, gq_sub, hm]
  have y1 : (gx_uI μ 62 6 X).1 62 6 = X := by rw [gq_uI1, if_pos ⟨rfl, rfl⟩]
  have y2 : (gx_uI ν 206 55 X).1 206 55 = X := by rw [gq_uI1, if_pos ⟨rfl, rfl⟩]
  refine ⟨(u : Int) % n, gx_uI μ 62 6 X, gx_uI ν 206 55 X, hb, ?_, ?_, ⟨gy_seed h.1 X, y2.trans y1.symm⟩, gq_sm_uI (by unfold gq_Pc; omega) gq_sm_rf, gq_sm_uI gq_Pm206 gq_sm_rf⟩
  · unfold f_X3_draw
    rw [gq_lte, ← hX, y1, u2]
    rw [show (0 : Int32) = gq_I 0 from rfl, if_neg (by rw [gq_le (by omega)]; omega), gq_ckT (by rw [gq_eq (by omega)]; omega), e]
  · unfold f_X12_draw
    rw [gq_lte, h.2, ← hX, y2, u2]
    rw [show (0 : Int32) = gq_I 0 from rfl, gq_ckT (by rw [gq_eq (by omega)]; omega), e]
theorem gy_R2_st {μ ν : gx_M} {s : Nat} {w : Nat → Int} (h : gy_R2 μ ν s w) {F G : gx_M → Option (Bool × gx_M)} (g : gy_st F G μ ν s w) : ∃ r μ' ν', F μ = some (r, μ') ∧ G ν = some (r, ν') ∧ gy_R2 μ' ν' s w ∧ gy_kk μ μ' ν ν' := by
  obtain ⟨r, μ', ν', a1, a2, a3, a4, a5⟩ := g
  exact ⟨r, μ', ν', a1, a2, ⟨a3, by rw [a4.2.2, a5.1 _ _ (by omega) (by omega)]; exact h.2⟩, gy_kc_sm a4, gy_km_sm a5⟩
theorem gy_drawDeed {μ ν : gx_M} {s : Nat} {w : Nat → Int} (h : gy_R2 μ ν s w) (ok : gq_okS w) (hs : s < 8) : ∃ μ' ν', f_X3_drawDeed μ = some ((), μ') ∧ f_X12_drawDeed ν = some ((), ν') ∧ gy_R2 μ' ν' s w ∧ gy_kk μ μ' ν ν' := by
  have o0 := ok.1
  have o1 := ok.2.1
  have o2 := ok.2.2.1
  have c0 : ∀ {μ ν : gx_M}, gy_R2 μ ν s w → μ.1 63 0 = gq_I (w 0) := fun h => h.1.1.1.1
  have c1 : ∀ {μ ν : gx_M}, gy_R2 μ ν s w → μ.1 63 1 = gq_I (w 1) := fun h => h.1.1.1.2.1
  have c2 : ∀ {μ ν : gx_M}, gy_R2 μ ν s w → μ.1 63 2 = gq_I (w 2) := fun h => h.1.1.1.2.2
  have m0 : ∀ {μ ν : gx_M}, gy_R2 μ ν s w → ν.1 206 25 = gq_I (w 0) := fun h => h.1.1.2.2.1.2.1
  have m1 : ∀ {μ ν : gx_M}, gy_R2 μ ν s w → ν.1 206 26 = gq_I (w 1) := fun h => h.1.1.2.2.1.2.2.1
  have m2 : ∀ {μ ν : gx_M}, gy_R2 μ ν s w → ν.1 206 27 = gq_I (w 2) := fun h => h.1.1.2.2.1.2.2.2
  obtain ⟨k, μ1, ν1, a1, a2, a3, a4, a5⟩ := gy_draw h (n := 8) (by omega)
  unfold f_X3_drawDeed f_X12_drawDeed
  rw [show (8 : Int32) = gq_I 8 from rfl, a2, a3, gq_bd, gq_bd]
  unfold f_X3_kindDrawn
  by_cases k7 : k = 7
  · obtain ⟨z, μ2, ν2, b1, b2, b3, b4, b5⟩ := gy_draw a4 (n := 2) (by omega)
    obtain ⟨m, μ3, ν3, d1, d2, d3, d4, d5⟩ := gy_draw b4 (n := w 0) (by omega)
    by_cases z0 : z = 0
    · have g := gy_prices d4.1 ok (m := m) (d := 1) (by omega) (by omega)
      obtain ⟨r, μ4, ν4, g1, g2, g3, g4⟩ := gy_R2_st d4 g
      have g2' := (gy_up m (-1) (-1) ν3).trans g2
      refine ⟨μ4, ν4, ?_, ?_, g3, gy_kk_tr (gy_kk_tr a5 b5) (gy_kk_tr d5 g4)⟩
      · simp (disch := omega) only [Int.reduceToNat, gq_lit, gq_neg, gq_add, gq_sub, gq_mul, gq_nat, Int.toNat_natCast, gq_tadd, gq_tmul, gq_lte, gq_br, gq_bd, gq_ck, Bool.false_eq_true, gq_leT, gq_leF, gq_ltT, gq_ltF, gq_eqT, gq_eqF, if_true, if_false, b2, c0 b4, d2, g1]
      · simp (disch := omega) only [Int.reduceToNat, gq_lit, gq_neg, gq_add, gq_sub, gq_mul, gq_nat, Int.toNat_natCast, gq_tadd, gq_tmul, gq_lte, gq_br, gq_bd, gq_ck, Bool.false_eq_true, gq_leT, gq_leF, gq_ltT, gq_ltF, gq_eqT, gq_eqF, if_true, if_false, b3, m0 b4, d3, g2']
    · have g := gy_prices d4.1 ok (m := m) (d := -1) (by omega) (by omega)
      obtain ⟨r, μ4, ν4, g1, g2, g3, g4⟩ := gy_R2_st d4 g
      have g2' := (gy_down m (-1) (-1) ν3).trans g2
      refine ⟨μ4, ν4, ?_, ?_, g3, gy_kk_tr (gy_kk_tr a5 b5) (gy_kk_tr d5 g4)⟩
      · simp (disch := omega) only [Int.reduceToNat, gq_lit, gq_neg, gq_add, gq_sub, gq_mul, gq_nat, Int.toNat_natCast, gq_tadd, gq_tmul, gq_lte, gq_br, gq_bd, gq_ck, Bool.false_eq_true, gq_leT, gq_leF, gq_ltT, gq_ltF, gq_eqT, gq_eqF, if_true, if_false, b2, c0 b4, d2, g1]
      · simp (disch := omega) only [Int.reduceToNat, gq_lit, gq_neg, gq_add, gq_sub, gq_mul, gq_nat, Int.toNat_natCast, gq_tadd, gq_tmul, gq_lte, gq_br, gq_bd, gq_ck, Bool.false_eq_true, gq_leT, gq_leF, gq_ltT, gq_ltF, gq_eqT, gq_eqF, if_true, if_false, b3, m0 b4, d3, g2']
  by_cases k6 : k = 6
  · by_cases w2 : w 2 = 0
    · refine ⟨μ1, ν1, ?_, ?_, a4, a5⟩
      · unfold f_X3_drawDo
        simp (disch := omega) only [Int.reduceToNat, gq_lit, gq_neg, gq_add, gq_sub, gq_mul, gq_nat, Int.toNat_natCast, gq_tadd, gq_tmul, gq_lte, gq_br, gq_bd, gq_ck, Bool.false_eq_true, gq_leT, gq_leF, gq_ltT, gq_ltF, gq_eqT, gq_eqF, if_true, if_false, c2 a4]
      · simp (disch := omega) only [Int.reduceToNat, gq_lit, gq_neg, gq_add, gq_sub, gq_mul, gq_nat, Int.toNat_natCast, gq_tadd, gq_tmul, gq_lte, gq_br, gq_bd, gq_ck, Bool.false_eq_true, gq_leT, gq_leF, gq_ltT, gq_ltF, gq_eqT, gq_eqF, if_true, if_false, m2 a4]
    · obtain ⟨p, μ2, ν2, b1, b2, b3, b4, b5⟩ := gy_draw a4 (n := w 1) (by omega)
      obtain ⟨b, μ3, ν3, d1, d2, d3, d4, d5⟩ := gy_draw b4 (n := w 2) (by omega)
      obtain ⟨m, μ4, ν4, e1, e2, e3, e4, e5⟩ := gy_draw d4 (n := w 0) (by omega)
      have g := gy_doestask e4.1 ok hs (p := p) (b := b) (m := m) (by omega) (by omega) (by omega)
      obtain ⟨r, μ5, ν5, g1, g2, g3, g4⟩ := gy_R2_st e4 g
      have g2' := (gy_task p b m ν4).trans g2
      refine ⟨μ5, ν5, ?_, ?_, g3, gy_kk_tr (gy_kk_tr a5 b5) (gy_kk_tr (gy_kk_tr d5 e5) g4)⟩
      · unfold f_X3_drawDo
        simp (disch := omega) only [Int.reduceToNat, gq_lit, gq_neg, gq_add, gq_sub, gq_mul, gq_nat, Int.toNat_natCast, gq_tadd, gq_tmul, gq_lte, gq_br, gq_bd, gq_ck, Bool.false_eq_true, gq_leT, gq_leF, gq_ltT, gq_ltF, gq_eqT, gq_eqF, if_true, if_false, c2 a4, c1 a4, b2, c2 b4, d2, c0 d4, e2, g1]
      · simp (disch := omega) only [Int.reduceToNat, gq_lit, gq_neg, gq_add, gq_sub, gq_mul, gq_nat, Int.toNat_natCast, gq_tadd, gq_tmul, gq_lte, gq_br, gq_bd, gq_ck, Bool.false_eq_true, gq_leT, gq_leF, gq_ltT, gq_ltF, gq_eqT, gq_eqF, if_true, if_false, m2 a4, m1 a4, b3, m2 b4, d3, m0 d4, e3, g2']
  · obtain ⟨p, μ2, ν2, b1, b2, b3, b4, b5⟩ := gy_draw a4 (n := w 1) (by omega)
    obtain ⟨m, μ3, ν3, d1, d2, d3, d4, d5⟩ := gy_draw b4 (n := w 0) (by omega)
    have fin : ∀ q : Int, 0 ≤ q ∧ q ≤ 3 → ∃ r μ' ν', f_X3_goes (gq_I (6 + q)) (gq_I p) (gq_I m) (gq_I (-1)) μ3 = some (r, μ') ∧ f_X12_does (gq_I q) (gq_I p) (gq_I m) (gq_I (-1)) ν3 = some (r, ν') ∧ gy_R2 μ' ν' s w ∧ gy_kk μ3 μ' ν3 ν' := fun q hq => gy_R2_st d4 (gy_goes d4.1 ok hs (k := q) (by omega) (by omega) (by omega) (by omega))
    by_cases k3 : k = 3
    · obtain ⟨r, μ4, ν4, g1, g2, g3, g4⟩ := fin 3 (by omega)
      rw [show (6 : Int) + 3 = 9 from rfl] at g1
      refine ⟨μ4, ν4, ?_, ?_, g3, gy_kk_tr (gy_kk_tr a5 b5) (gy_kk_tr d5 g4)⟩
      · simp (disch := omega) only [Int.reduceToNat, gq_lit, gq_neg, gq_add, gq_sub, gq_mul, gq_nat, Int.toNat_natCast, gq_tadd, gq_tmul, gq_lte, gq_br, gq_bd, gq_ck, Bool.false_eq_true, gq_leT, gq_leF, gq_ltT, gq_ltF, gq_eqT, gq_eqF, if_true, if_false, c1 a4, b2, c0 b4, d2, g1]
      · simp (disch := omega) only [Int.reduceToNat, gq_lit, gq_neg, gq_add, gq_sub, gq_mul, gq_nat, Int.toNat_natCast, gq_tadd, gq_tmul, gq_lte, gq_br, gq_bd, gq_ck, Bool.false_eq_true, gq_leT, gq_leF, gq_ltT, gq_ltF, gq_eqT, gq_eqF, if_true, if_false, m1 a4, b3, m0 b4, d3, g2]
    by_cases k4 : k = 4
    · obtain ⟨r, μ4, ν4, g1, g2, g3, g4⟩ := fin 2 (by omega)
      rw [show (6 : Int) + 2 = 8 from rfl] at g1
      refine ⟨μ4, ν4, ?_, ?_, g3, gy_kk_tr (gy_kk_tr a5 b5) (gy_kk_tr d5 g4)⟩
      · simp (disch := omega) only [Int.reduceToNat, gq_lit, gq_neg, gq_add, gq_sub, gq_mul, gq_nat, Int.toNat_natCast, gq_tadd, gq_tmul, gq_lte, gq_br, gq_bd, gq_ck, Bool.false_eq_true, gq_leT, gq_leF, gq_ltT, gq_ltF, gq_eqT, gq_eqF, if_true, if_false, c1 a4, b2, c0 b4, d2, g1]
      · simp (disch := omega) only [Int.reduceToNat, gq_lit, gq_neg, gq_add, gq_sub, gq_mul, gq_nat, Int.toNat_natCast, gq_tadd, gq_tmul, gq_lte, gq_br, gq_bd, gq_ck, Bool.false_eq_true, gq_leT, gq_leF, gq_ltT, gq_ltF, gq_eqT, gq_eqF, if_true, if_false, m1 a4, b3, m0 b4, d3, g2]
    by_cases k5 : k = 5
    · obtain ⟨r, μ4, ν4, g1, g2, g3, g4⟩ := fin 1 (by omega)
      rw [show (6 : Int) + 1 = 7 from rfl] at g1
      refine ⟨μ4, ν4, ?_, ?_, g3, gy_kk_tr (gy_kk_tr a5 b5) (gy_kk_tr d5 g4)⟩
      · simp (disch := omega) only [Int.reduceToNat, gq_lit, gq_neg, gq_add, gq_sub, gq_mul, gq_nat, Int.toNat_natCast, gq_tadd, gq_tmul, gq_lte, gq_br, gq_bd, gq_ck, Bool.false_eq_true, gq_leT, gq_leF, gq_ltT, gq_ltF, gq_eqT, gq_eqF, if_true, if_false, c1 a4, b2, c0 b4, d2, g1]
      · simp (disch := omega) only [Int.reduceToNat, gq_lit, gq_neg, gq_add, gq_sub, gq_mul, gq_nat, Int.toNat_natCast, gq_tadd, gq_tmul, gq_lte, gq_br, gq_bd, gq_ck, Bool.false_eq_true, gq_leT, gq_leF, gq_ltT, gq_ltF, gq_eqT, gq_eqF, if_true, if_false, m1 a4, b3, m0 b4, d3, g2]
    · obtain ⟨r, μ4, ν4, g1, g2, g3, g4⟩ := fin 0 (by omega)
      rw [show (6 : Int) + 0 = 6 from rfl] at g1
      refine ⟨μ4, ν4, ?_, ?_, g3, gy_kk_tr (gy_kk_tr a5 b5) (gy_kk_tr d5 g4)⟩
      · simp (disch := omega) only [Int.reduceToNat, gq_lit, gq_neg, gq_add, gq_sub, gq_mul, gq_nat, Int.toNat_natCast, gq_tadd, gq_tmul, gq_lte, gq_br, gq_bd, gq_ck, Bool.false_eq_true, gq_leT, gq_leF, gq_ltT, gq_ltF, gq_eqT, gq_eqF, if_true, if_false, c1 a4, b2, c0 b4, d2, g1]
      · simp (disch := omega) only [Int.reduceToNat, gq_lit, gq_neg, gq_add, gq_sub, gq_mul, gq_nat, Int.toNat_natCast, gq_tadd, gq_tmul, gq_lte, gq_br, gq_bd, gq_ck, Bool.false_eq_true, gq_leT, gq_leF, gq_ltT, gq_ltF, gq_eqT, gq_eqF, if_true, if_false, m1 a4, b3, m0 b4, d3, g2]
theorem gy_drawL {s : Nat} {w : Nat → Int} (ok : gq_okS w) (hs : s < 8) {P : Int} (hP : 0 ≤ P ∧ P ≤ 60) {k : gx_M → Option (Unit × gx_M)} {k2 : gx_M → Option (Int32 × gx_M)} : ∀ (d f i : Nat) (μ ν : gx_M), d < f → (i : Int) + d = P → gy_R2 μ ν s w → ∃ μ' ν', L_X3_drawDeeds_13 (gq_I P) k f (gq_I i) μ = k μ' ∧ L_X12_drawn_38 (gq_I P) k2 f (gq_I i) ν = k2 ν' ∧ gy_R2 μ' ν' s w ∧ gy_kk μ μ' ν ν'
  | _, 0, _, _, _, hf, _, _ => absurd hf (Nat.not_lt_zero _)
  | 0, f + 1, i, μ, ν, hf, hi, h => by
    refine ⟨μ, ν, ?_, ?_, h, gy_kk_r μ ν⟩
    · rw [L_X3_drawDeeds_13.eq_2]
      simp (disch := omega) only [Int.reduceToNat, gq_lit, gq_neg, gq_add, gq_sub, gq_mul, gq_nat, Int.toNat_natCast, gq_tadd, gq_tmul, gq_lte, gq_br, gq_bd, gq_ck, Bool.false_eq_true, gq_leT, gq_leF, gq_ltT, gq_ltF, gq_eqT, gq_eqF, if_true, if_false]
    · rw [L_X12_drawn_38.eq_2]
      simp (disch := omega) only [Int.reduceToNat, gq_lit, gq_neg, gq_add, gq_sub, gq_mul, gq_nat, Int.toNat_natCast, gq_tadd, gq_tmul, gq_lte, gq_br, gq_bd, gq_ck, Bool.false_eq_true, gq_leT, gq_leF, gq_ltT, gq_ltF, gq_eqT, gq_eqF, if_true, if_false]
  | d + 1, f + 1, i, μ, ν, hf, hi, h => by
    obtain ⟨μ1, ν1, a1, a2, a3, a4⟩ := gy_drawDeed h ok hs
    obtain ⟨μ2, ν2, b1, b2, b3, b4⟩ := gy_drawL ok hs hP (k := k) (k2 := k2) d f (i + 1) μ1 ν1 (by omega) (by omega) a3
    refine ⟨μ2, ν2, ?_, ?_, b3, gy_kk_tr a4 b4⟩
    · rw [L_X3_drawDeeds_13.eq_2]
      simp (disch := omega) only [Int.reduceToNat, gq_lit, gq_neg, gq_add, gq_sub, gq_mul, gq_nat, Int.toNat_natCast, gq_tadd, gq_tmul, gq_lte, gq_br, gq_bd, gq_ck, Bool.false_eq_true, gq_leT, gq_leF, gq_ltT, gq_ltF, gq_eqT, gq_eqF, if_true, if_false, a1]
      exact b1
    · rw [L_X12_drawn_38.eq_2]
      simp (disch := omega) only [Int.reduceToNat, gq_lit, gq_neg, gq_add, gq_sub, gq_mul, gq_nat, Int.toNat_natCast, gq_tadd, gq_tmul, gq_lte, gq_br, gq_bd, gq_ck, Bool.false_eq_true, gq_leT, gq_leF, gq_ltT, gq_ltF, gq_eqT, gq_eqF, if_true, if_false, a2]
      exact b2
