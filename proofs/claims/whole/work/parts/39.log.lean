/-! lines of logs; rows kept -/
theorem gp_cf0 {of r : Nat} {μ : gx_M} (h : f_X4_mostFurther (gq_I of) (gq_I r) = gq_I 0) : f_X4_countFurther (gq_I of) (gq_I r) μ = some ((), μ) := by
  unfold f_X4_countFurther
  rw [h]
  rfl
theorem gp_cf {of r M fu p k q e len : Nat} {t : Nat → Int} {v f pl : Int} {μ ν : gx_M} (hM : 0 < M ∧ M ≤ 40) (hfu : fu ≤ 600) (h : f_X4_mostFurther (gq_I of) (gq_I r) = gq_I M) (hA : gp_A μ ν t len p k q e v f pl) (h8 : μ.1 42 8 = gq_I fu) : f_X4_countFurther (gq_I of) (gq_I r) μ = some ((), gp_n3 (M < fu + 1) f q (gx_uI μ 42 8 (gq_I (fu + 1 : Nat)))) := by
  obtain ⟨b1, ⟨b2, b3, b4, b5, b6, b7⟩, -, b15⟩ := hA
  have x6 : (gx_uI μ 42 8 (gq_I (fu + 1 : Nat))).1 42 6 = gq_I f := by simp only [gq_uI1, gq_uI2, gq_uL1, gq_uL2, Nat.reduceEqDiff, false_and, and_false, and_true, true_and, if_false]; exact b6
  have nt := gp_note (nf := 3) (q := q) x6 b15
  have e8 : gq_I (fu : Int) + gq_I 1 = gq_I (fu + 1 : Nat) := gq_add _ _
  unfold f_X4_countFurther
  rw [h, h8]
  simp (disch := omega) only [gq_lte, gq_lit, Bool.false_eq_true, gq_leT, gq_leF, gq_ltT, gq_ltF, gq_eqT, gq_eqF, if_true, if_false, e8, gq_uI1, gq_uI2, gq_uL1, gq_uL2, Nat.reduceEqDiff, false_and, and_false, and_true, true_and, b5]
  unfold gp_n3
  by_cases g : M < fu + 1
  · simp (disch := omega) only [Bool.false_eq_true, gq_leT, gq_leF, gq_ltT, gq_ltF, gq_eqT, gq_eqF, if_true, if_false, nt, gq_bd]
    by_cases g2 : f = 0
    · rw [if_pos g2, if_pos ⟨g, g2⟩]
    · rw [if_neg g2, if_neg (fun g3 => g2 g3.2)]
  · rw [if_neg (c := M < fu + 1 ∧ f = 0) (fun g3 => g g3.1)]
    simp (disch := omega) only [Bool.false_eq_true, gq_leT, gq_leF, gq_ltT, gq_ltF, gq_eqT, gq_eqF, if_true, if_false]
theorem gp_full {c M fu p k q e len : Nat} {t : Nat → Int} {v f pl : Int} {μ ν : gx_M} (hM : M ≤ 40) (hc : c < 161) (hl : len ≤ 600) (hfu : fu ≤ 600) (hA : gp_A μ ν t len p k q e v f pl) (h0 : ν.1 216 c = gq_I (if fu ≤ M then (fu : Int) else M)) : f_X12_full (gq_I c) (gq_I M) (gq_I q) ν = some ((), gp_l3 (M < fu + 1) f q ν) := by
  obtain ⟨b1, -, ⟨b8, b9, b10, b11, b12, b13, b14⟩, b15⟩ := hA
  have tb := gt_tk_b b1
  have lt := gp_later (nf := 3) (q := q) (ν := ν) (by omega) (by omega) b13 b14 b15
  unfold f_X12_full
  simp (disch := omega) only [Int.reduceToNat, gq_lit, gq_neg, gq_add, gq_sub, gq_mul, gq_nat, Int.toNat_natCast, gq_tadd, gq_tmul, gq_lte, gq_br, gq_bd, gq_ck, h0]
  unfold gp_l3
  by_cases g : M < fu + 1
  · have e : (if fu ≤ M then (fu : Int) else M) = M := by split <;> omega
    rw [e]
    simp (disch := omega) only [Bool.false_eq_true, gq_leT, gq_leF, gq_ltT, gq_ltF, gq_eqT, gq_eqF, if_true, if_false, lt, gq_bd]
    by_cases g2 : f = 0
    · rw [if_pos g2, if_pos ⟨g, g2⟩]
    · rw [if_neg g2, if_neg (fun g3 => g2 g3.2)]
  · rw [if_neg (c := M < fu + 1 ∧ f = 0) (fun g3 => g g3.1)]
    have e : (if fu ≤ M then (fu : Int) else M) = fu := if_pos (by omega)
    rw [e]
    simp (disch := omega) only [Bool.false_eq_true, gq_leT, gq_leF, gq_ltT, gq_ltF, gq_eqT, gq_eqF, if_true, if_false]
theorem gp_exit {r : Nat} (hr : r < 17) {K : gx_M → Option (Bool × gx_M)} {fu i : Nat} {μ : gx_M} (hi : i = gt_wl (gt_sh r)) : L_X4_readLine_48 (gq_I r) K (fu + 1) (gq_I i) μ = K μ := by
  have sb := gt_sh_b r hr
  rw [L_X4_readLine_48.eq_2, gt_shapeOf r hr, gt_len _ sb.1]
  simp (disch := omega) only [Bool.false_eq_true, gq_leT, gq_leF, gq_ltT, gq_ltF, gq_eqT, gq_eqF, if_true, if_false]
theorem gp_keepL {w R x : Nat} {x1 : Int32} (hx : gq_I w * x1 = gq_I R) (hw : w ≤ 5) (hR : R + w + 1 ≤ 161) {k : gx_M → Option (Unit × gx_M)} : ∀ (d f i : Nat) (ν : gx_M), d < f → i + d = w → ∃ ν', L_X12_keepRow_16 (gq_I w) x1 k f (gq_I i) ν = k ν' ∧ (∀ j, i ≤ j → j < w → ν'.1 216 (1 + R + j) = ν.1 217 j) ∧ (∀ a j, ¬ (a = 216 ∧ 1 + R + i ≤ j ∧ j < 1 + R + w) → ν'.1 a j = ν.1 a j) ∧ ν'.2 = ν.2
  | _, 0, _, _, hf, _ => absurd hf (Nat.not_lt_zero _)
  | 0, f + 1, i, ν, hf, hi => by
    refine ⟨ν, ?_, fun j h2 h3 => absurd h3 (by omega), fun _ _ _ => rfl, rfl⟩
    rw [L_X12_keepRow_16.eq_2]
    simp (disch := omega) only [Bool.false_eq_true, gq_leT, gq_leF, gq_ltT, gq_ltF, gq_eqT, gq_eqF, if_true, if_false]
  | d + 1, f + 1, i, ν, hf, hi => by
    obtain ⟨ν', e1, e2, e3, e4⟩ := gp_keepL (x := x) hx hw hR (k := k) d f (i + 1) (gx_uI ν 216 (1 + R + i) (ν.1 217 i)) (by omega) (by omega)
    refine ⟨ν', ?_, fun j h2 h3 => ?_, fun a j ha => ?_, e4⟩
    · rw [L_X12_keepRow_16.eq_2, ← e1, hx]
      simp (disch := omega) only [Int.reduceToNat, gq_lit, gq_neg, gq_add, gq_sub, gq_mul, gq_nat, Int.toNat_natCast, gq_tadd, gq_tmul, gq_lte, gq_br, gq_bd, gq_ck, Bool.false_eq_true, gq_leT, gq_leF, gq_ltT, gq_ltF, gq_eqT, gq_eqF, if_true, if_false]
      rfl
    · by_cases hj : j = i
      · subst hj
        rw [e3 _ _ (by omega), gq_uI1, if_pos ⟨rfl, rfl⟩]
      · rw [e2 j (by omega) h3, gq_uI1, if_neg (by omega)]
    · rw [e3 _ _ (by omega), gq_uI1, if_neg (by omega)]
theorem gp_keep {w M c : Nat} {ν : gx_M} (hw : w ≤ 5) (hM : w * M + 1 ≤ 161) (hM2 : M ≤ 40) (hc : c ≤ M) (h0 : ν.1 216 0 = gq_I c) : ∃ ν', f_X12_keepRow (gq_I w) (gq_I M) ν = some ((), ν') ∧ (c < M → (∀ j, j < w → ν'.1 216 (1 + w * c + j) = ν.1 217 j) ∧ ν'.1 216 0 = gq_I (c + 1 : Nat)) ∧ (c = M → ν' = ν) ∧ (∀ a j, ¬ (a = 216 ∧ (j = 0 ∨ 1 + w * c ≤ j ∧ j < 1 + w * c + w)) → ν'.1 a j = ν.1 a j) ∧ ν'.2 = ν.2 := by
  unfold f_X12_keepRow
  by_cases h : c = M
  · refine ⟨ν, ?_, fun h2 => absurd h2 (by omega), fun _ => rfl, fun _ _ _ => rfl, rfl⟩
    simp (disch := omega) only [gq_lte, h0, Bool.false_eq_true, gq_leT, gq_leF, gq_ltT, gq_ltF, gq_eqT, gq_eqF, if_true, if_false]
  · have hR : w * c + w ≤ w * M := by
      have := Nat.mul_le_mul_left w (show c + 1 ≤ M by omega)
      rw [Nat.mul_succ] at this
      exact this
    obtain ⟨ν1, e1, e2, e3, e4⟩ := gp_keepL (w := w) (R := w * c) (x := 0) (x1 := gq_I c) (by rw [gq_mul, Int.natCast_mul]) hw (by omega) (k := fun (μ11 : gx_M) => gx_lt (gx_uI μ11 216 0 ((μ11.1 216 0) + 1)) (fun (μ12 : gx_M) => some ((), μ12))) w 4000 0 ν (by omega) (by omega)
    have z0 : ν1.1 216 0 = gq_I c := by rw [e3 _ _ (by omega)]; exact h0
    refine ⟨gx_uI ν1 216 0 (gq_I (c + 1 : Nat)), ?_, fun _ => ⟨fun j hj => ?_, ?_⟩, fun h2 => absurd h2 h, fun a j ha => ?_, ?_⟩
    · simp (disch := omega) only [gq_lte, h0, Bool.false_eq_true, gq_leT, gq_leF, gq_ltT, gq_ltF, gq_eqT, gq_eqF, if_true, if_false]
      rw [show (0 : Int32) = gq_I ((0 : Nat) : Int) from gq_lit 0]
      refine Eq.trans e1 ?_
      rw [gq_lte, z0]
      simp only [gq_lit, gq_add]
      rfl
    · rw [gq_uI1, if_neg (by omega)]; exact e2 j (by omega) hj
    · rw [gq_uI1, if_pos ⟨rfl, rfl⟩]
    · rw [gq_uI1, if_neg (by omega)]; exact e3 _ _ (by omega)
    · rw [gq_uI2, e4]
theorem gp_app {a n c : Nat} {μ : gx_M} {x1 x2 x3 x4 : Int32} (hn : n ≤ 40) (h0 : μ.1 a 0 = gq_I n) (h3 : μ.1 a 3 = gq_I c) (hc : c < n) : ∃ μ', f_X2_append a n x1 x2 x3 x4 μ = some ((), μ') ∧ (μ'.1 (a + 1) c = x1 ∧ μ'.1 (a + 2) (3 * c) = x2 ∧ μ'.1 (a + 2) (3 * c + 1) = x3 ∧ μ'.1 (a + 2) (3 * c + 2) = x4 ∧ μ'.1 a 3 = gq_I (c + 1 : Nat)) ∧ (∀ b j, ¬ (b = a ∧ j = 3) → ¬ (b = a + 1 ∧ j = c) → ¬ (b = a + 2 ∧ 3 * c ≤ j ∧ j < 3 * c + 3) → μ'.1 b j = μ.1 b j) ∧ μ'.2 = μ.2 := by
  refine ⟨gx_uI (gx_uI (gx_uI (gx_uI (gx_uI μ (a + 1) c x1) (a + 2) (3 * c) x2) (a + 2) (3 * c + 1) x3) (a + 2) (3 * c + 2) x4) a 3 (gq_I (c + 1 : Nat)), ?_, ⟨?_, ?_, ?_, ?_, ?_⟩, fun b j g1 g2 g3 => ?_, rfl⟩
  · have e1 : ((c : Int) * 3).toNat = 3 * c := by omega
    have e2 : ((c : Int) * 3 + 1).toNat = 3 * c + 1 := by omega
    have e3 : ((c : Int) * 3 + 2).toNat = 3 * c + 2 := by omega
    unfold f_X2_append
    rw [h0, h3]
    simp (disch := omega) only [gq_lte, gq_lit, Bool.false_eq_true, gq_leT, gq_leF, gq_ltT, gq_ltF, gq_eqT, gq_eqF, if_true, if_false, gq_ck, gq_nat, Int.toNat_natCast, gq_uI1, gq_ifF, h3, gq_mul, gq_add, e1, e2, e3]
    rfl
  · simp (disch := omega) only [gq_uI1, gq_ifF, Nat.reduceEqDiff, false_and, and_false, and_true, true_and, if_true]
  · simp (disch := omega) only [gq_uI1, gq_ifF, Nat.reduceEqDiff, false_and, and_false, and_true, true_and, if_true]
  · simp (disch := omega) only [gq_uI1, gq_ifF, Nat.reduceEqDiff, false_and, and_false, and_true, true_and, if_true]
  · simp (disch := omega) only [gq_uI1, gq_ifF, Nat.reduceEqDiff, false_and, and_false, and_true, true_and, if_true]
  · simp (disch := omega) only [gq_uI1, gq_ifF, Nat.reduceEqDiff, false_and, and_false, and_true, true_and, if_true]
  · simp (disch := omega) only [gq_uI1, gq_ifF]
theorem gp_rd2 {ν : gx_M} {a b : Int} (h0 : ν.1 217 0 = gq_I a) (h1 : ν.1 217 1 = gq_I b) (ha : 0 ≤ a ∧ a ≤ 99) (hb : 0 ≤ b ∧ b ≤ 99) : gq_rd ν := fun i hi => by
  rcases (show i = 0 ∨ i = 1 by omega) with rfl | rfl
  · exact ⟨a.toNat, by omega, by rw [Int.toNat_of_nonneg ha.1]; exact h0⟩
  · exact ⟨b.toNat, by omega, by rw [Int.toNat_of_nonneg hb.1]; exact h1⟩
theorem gp_rd_ex {ν : gx_M} (h : gq_rd ν) : ∃ a b : Int, ν.1 217 0 = gq_I a ∧ ν.1 217 1 = gq_I b ∧ (0 ≤ a ∧ a ≤ 99) ∧ 0 ≤ b ∧ b ≤ 99 := by
  obtain ⟨z, h1, h2⟩ := h 0 (by omega)
  obtain ⟨y, h3, h4⟩ := h 1 (by omega)
  exact ⟨z, y, h2, h4, by omega, by omega⟩
set_option maxHeartbeats 4000000 in
theorem gp_LL_log {r : Nat} (hr : r = 13 ∨ r = 14) : gp_LL 2 r := by
  intro t len p q e v f pl fu μ ν ok hl hA hw hX hfu hg
  obtain ⟨x8, ⟨xl1, xl2⟩, ⟨⟨m0, hm0, hm0b⟩, o0, ho0, ho0b⟩, xr, xn, xc⟩ := hX
  obtain ⟨ra, rb, hra, hrb, hrab, hrbb⟩ := gp_rd_ex xr
  have tb := gt_tk_b hA.1
  have r17 : r < 17 := by omega
  have hsh : gt_sh r = 27 := by rcases hr with rfl | rfl <;> rfl
  have hwl : gt_wl (gt_sh r) = 1 := by rw [hsh]; rfl
  have mf : f_X4_mostFurther (gq_I (2 : Nat)) (gq_I r) = gq_I (8 : Nat) := by rcases hr with rfl | rfl <;> decide +kernel
  have cf := gp_cf (M := 8) (by omega) hfu mf hA x8
  have hA' : gp_A (gx_uI μ 42 8 (gq_I (fu + 1 : Nat))) ν t len p 1 q e v f pl := gp_A_c hA fun a j g => by simp (disch := omega) only [gq_uI1, gq_uI2, gq_uL1, gq_uL2, gq_ifF]
  have fl := gp_full (c := 0) (M := 8) (fu := fu) (by omega) (by omega) hl hfu hA (xn.2.2 rfl)
  obtain ⟨k0, q0, e0, v0, f0, pl0, ν0, n1, n2, n3, n4, n5, n6⟩ := gp_next ok hl hA' (by decide) (8 < fu + 1)
  obtain ⟨μ0, eμ⟩ : ∃ μ0, μ0 = gp_n3 (8 < fu + 1) f q (gx_uI μ 42 8 (gq_I (fu + 1 : Nat))) := ⟨_, rfl⟩
  rw [← eμ] at n2 cf
  have fμ : ∀ a j, ¬ (a = 42 ∧ 6 ≤ j ∧ j ≤ 8) → μ0.1 a j = μ.1 a j := fun a j g => by
    rw [eμ, (gp_n3_f _ _ _ _).1 _ _ (by omega), gq_uI1, if_neg (by omega)]
  have fμ2 : μ0.2 = μ.2 := by rw [eμ, (gp_n3_f _ _ _ _).2]; rfl
  have y8 : μ0.1 42 8 = gq_I (fu + 1 : Nat) := by rw [eμ, (gp_n3_f _ _ _ _).1 _ _ (by omega), gq_uI1, if_pos ⟨rfl, rfl⟩]
  have g0 : ν0.1 206 23 = gq_I 1 := by rw [n5 _ _ (by omega)]; exact hg
  have gm : ν0.1 206 21 = gq_I m0 := by rw [n5 _ _ (by omega)]; exact hm0
  have go : ν0.1 206 22 = gq_I o0 := by rw [n5 _ _ (by omega)]; exact ho0
  have tb0 := gt_tk_b n2.1
  have kw : gt_kw 13 = 1735356005 ∧ gt_kw 14 = 499967685221 := by decide +kernel
  -- the check's line, as far as the numbers
  have ml : f_X12_lineOf (gq_I (2 : Nat)) (gq_L (gt_kw r)) (gq_I q) ν = gx_bd (gx_bd (f_X12_takeMinute (gq_I (1 : Nat)) (gq_I 0) ν0) (fun (r11 : Bool) (μ12 : gx_M) => if r11 = true then gx_bd (f_X12_keepRow (gq_I (2 : Nat)) (gq_I (8 : Nat)) (gx_uI μ12 217 0 (gq_I (14 - (r : Int))))) (fun (_ : Unit) (μ20 : gx_M) => some (true, μ20)) else some (false, μ12))) (fun (r8 : Bool) (μ9 : gx_M) => some (r8, μ9)) := by
    have fl' : f_X12_full (gq_I 0) (gq_I 8) (gq_I q) ν = some ((), gp_l3 (8 < fu + 1) f q ν) := fl
    unfold f_X12_lineOf f_X12_logLine
    rcases hr with rfl | rfl
    · rw [kw.1]
      simp (disch := omega) only [gq_lit, gq_Llit, Bool.false_eq_true, gq_leT, gq_leF, gq_ltT, gq_ltF, gq_eqT, gq_eqF, if_true, if_false, gq_Leq, gq_lte, fl', gq_bd, n1, gq_biT]
      rfl
    · rw [kw.2]
      simp (disch := omega) only [gq_lit, gq_Llit, Bool.false_eq_true, gq_leT, gq_leF, gq_ltT, gq_ltF, gq_eqT, gq_eqF, if_true, if_false, gq_Leq, gq_lte, fl', gq_bd, n1, gq_biF]
      rfl
  have cl : ∀ K, gp_cl 2 r K μ = L_X4_readLine_48 (gq_I r) K 4000 (gq_I 0) μ0 := fun K => by
    unfold gp_cl
    rw [cf, gq_bd]
  by_cases hk0 : k0 = 2
  · obtain ⟨k1, q1, e1, v1, f1, pl1, μ1, ν1, a1, a2, a3, ⟨a4, a4', a4b⟩, a5, ⟨a6, a6', a6''⟩, ⟨a7, a7'⟩, a8, a8'⟩ := gp_sM (i := 0) (i' := 1) (r := r) (s := 109) (lo0 := 0) (lo := 0) ok hl n2 hk0 r17 (by omega) (by rw [hsh]; decide +kernel) (by omega) (by omega) (by decide +kernel) (by decide +kernel) (Or.inl ⟨by omega, rfl⟩) g0 gm hm0b go
    have tb1 := gt_tk_b a3.1
    have c0 : ∃ c : Nat, c ≤ 8 ∧ ν.1 216 0 = gq_I c ∧ (fu ≤ 8 → c = fu) ∧ (8 < fu → c = 8) := by
      have := xn.2.2 rfl
      by_cases g : fu ≤ 8
      · rw [if_pos g] at this
        exact ⟨fu, g, this, fun _ => rfl, fun g2 => absurd g2 (by omega)⟩
      · rw [if_neg g] at this
        exact ⟨8, by omega, this, fun g2 => absurd g2 g, fun _ => rfl⟩
    obtain ⟨c, cb, c0, c1, c2⟩ := c0
    obtain ⟨ν2, eν⟩ : ∃ ν2, ν2 = gx_uI ν1 217 0 (gq_I (14 - (r : Int))) := ⟨_, rfl⟩
    have f2 : ∀ a j, ¬ (a = 206 ∧ 10 ≤ j ∧ j ≤ 23 ∧ j ≠ 11) → ¬ a = 217 → ν2.1 a j = ν.1 a j := fun a j h1 h2 => by
      rw [eν, gq_uI1, if_neg (by omega), a8 _ _ h1 (by omega), n5 _ _ (by omega)]
    obtain ⟨ν3, b1, b2, b3, b4, b5⟩ := gp_keep (w := 2) (M := 8) (c := c) (ν := ν2) (by omega) (by omega) (by omega) cb (by rw [f2 _ _ (by omega) (by omega)]; exact c0)
    have l1 : ν3.1 217 1 = gq_I v0 := by rw [b4 _ _ (by omega), eν, gq_uI1, if_neg (by omega)]; exact a4'
    have l0 : ν3.1 217 0 = gq_I (14 - (r : Int)) := by rw [b4 _ _ (by omega), eν, gq_uI1, if_pos ⟨rfl, rfl⟩]
    have n16 : ν3.1 216 0 = gq_I (if fu + 1 ≤ 8 then ((fu + 1 : Nat) : Int) else 8) := by
      by_cases g : c < 8
      · rw [(b2 g).2, c1 (by omega), if_pos (by omega)]
      · have g2 : c = 8 := by omega
        rw [b3 g2, f2 _ _ (by omega) (by omega), c0, if_neg (by omega), g2]; rfl
    right
    refine ⟨k1, q1, e1, e0, v1, f1, pl1, fu + 1, μ1, ν3, fun K => ?_, ?_, gp_R_m a3 (fun a j g => ?_) ?_, by omega, ?_, ⟨gq_ln_w xl1 fun j => ?_, gq_ln_w xl2 fun j => ?_⟩, ⟨⟨_, by rw [b4 _ _ (by omega), eν, gq_uI1, if_neg (by omega)]; exact a6', ?_⟩, o0, by rw [b4 _ _ (by omega), eν, gq_uI1, if_neg (by omega)]; exact a6'', ho0b⟩, gp_rd2 l0 l1 (by omega) a4b, ⟨fun g => absurd g (by decide), fun g => absurd g (by decide), fun _ => n16⟩, ⟨fun a j g => ?_, ?_⟩, ⟨fun a j g => ?_, fun a j g => ?_⟩, fun hf μ4 h4 => ?_⟩
    · exact (cl K).trans ((a1 K 3999).trans (gp_exit r17 (by omega)))
    · rw [ml, show gq_I ((1 : Nat) : Int) = gq_I (1 : Nat) from rfl, a2]
      simp only [gq_bd, if_true]
      rw [← eν, b1]
      rfl
    · rw [b4 _ _ (by omega), eν, gq_uI1, if_neg (by omega)]
    · rw [b5, eν]; rfl
    · rw [a7 _ _ (by omega) (by omega) (by omega)]; exact y8
    · rw [a7 _ _ (by omega) (by omega) (by omega), fμ _ _ (by omega)]
    · rw [a7 _ _ (by omega) (by omega) (by omega), fμ _ _ (by omega)]
    · split <;> omega
    · rw [a7 _ _ (by omega) (by omega) (by omega), fμ _ _ (by omega)]
    · rw [a7', fμ2]
    · rw [b4 _ _ (by omega), f2 _ _ (by omega) (by omega)]
    · rw [b5, eν, gq_uI2, a8' _ _ (by omega), n6 _ _ (by omega)]
    · obtain ⟨hf0, hv⟩ := a5.mp hf
      obtain ⟨hff, ho⟩ := n3.mp hf0
      obtain ⟨y, u1, u2, u3, u4⟩ := (xc hff).2.2.1 rfl
      obtain ⟨u5, u6⟩ := u1
      have fu8 : fu < 8 := by omega
      have cfu : c = fu := c1 (by omega)
      have z1 : μ4.1 61 0 = gq_I v0 := by rw [h4 _ _ (by omega)]; exact a4
      have z56 : ∀ a j, 45 ≤ a → a ≤ 60 → μ4.1 a j = μ.1 a j := fun a j h1 h2 => by
        rw [h4 _ _ (by omega), a7 _ _ (by omega) (by omega) (by omega), fμ _ _ (by omega)]
      obtain ⟨μ5, d1, ⟨d2, d3, d4, d5, d6⟩, d7, d8⟩ := gp_app (a := 56) (n := 8) (c := fu) (μ := μ4) (x1 := gq_I r) (x2 := gq_I v0) (x3 := gq_I (-1)) (x4 := gq_I (-1)) (by omega) (by rw [z56 _ _ (by omega) (by omega)]; exact xl2.1) (by rw [z56 _ _ (by omega) (by omega), u5, u3]) fu8
      refine ⟨μ5, ?_, ⟨fun g => absurd g (by decide), fun g => absurd g (by decide), fun _ => ⟨fun j => if j = 0 then ((fu + 1 : Nat) : Int) else if j = 1 + 2 * fu then 14 - (r : Int) else if j = 2 + 2 * fu then v0 else y j, ⟨?_, fun k hk => ?_⟩, fun j hj => ?_, rfl, ⟨?_, fun k hk => ?_⟩⟩, fun g => absurd g (by decide)⟩, ⟨gq_ln_w xl1 fun j => ?_, ?_, fu + 1, by omega, d6⟩, fun a j g1 g2 => d7 _ _ (by omega) (by omega) (by omega), d8⟩
      · unfold f_X4_tellLine
        simp (disch := omega) only [gq_lit, gq_neg, Bool.false_eq_true, gq_leT, gq_leF, gq_ltT, gq_ltF, gq_eqT, gq_eqF, if_true, if_false, z1, d1, gq_bd]
      · exact d6
      · have hk2 : (k : Int) < ((fu + 1 : Nat) : Int) := hk
        by_cases g : k = fu
        · subst g
          have i1 : (if 1 + 2 * k = 0 then ((k + 1 : Nat) : Int) else if 1 + 2 * k = 1 + 2 * k then 14 - (r : Int) else if 1 + 2 * k = 2 + 2 * k then v0 else y (1 + 2 * k)) = 14 - r := by
            rw [if_neg (by omega), if_pos rfl]
          have i2 : (if 2 + 2 * k = 0 then ((k + 1 : Nat) : Int) else if 2 + 2 * k = 1 + 2 * k then 14 - (r : Int) else if 2 + 2 * k = 2 + 2 * k then v0 else y (2 + 2 * k)) = v0 := by
            rw [if_neg (by omega), if_neg (by omega), if_pos rfl]
          show μ5.1 57 k = gq_I (14 - (if 1 + 2 * k = 0 then ((k + 1 : Nat) : Int) else if 1 + 2 * k = 1 + 2 * k then 14 - (r : Int) else if 1 + 2 * k = 2 + 2 * k then v0 else y (1 + 2 * k))) ∧ μ5.1 58 (3 * k) = gq_I (if 2 + 2 * k = 0 then ((k + 1 : Nat) : Int) else if 2 + 2 * k = 1 + 2 * k then 14 - (r : Int) else if 2 + 2 * k = 2 + 2 * k then v0 else y (2 + 2 * k))
          rw [i1, i2]
          refine ⟨?_, d3⟩
          rw [d2]
          congr 1
          omega
        · have w := u6 k (by omega)
          have i1 : (if 1 + 2 * k = 0 then ((fu + 1 : Nat) : Int) else if 1 + 2 * k = 1 + 2 * fu then 14 - (r : Int) else if 1 + 2 * k = 2 + 2 * fu then v0 else y (1 + 2 * k)) = y (1 + 2 * k) := by
            rw [if_neg (by omega), if_neg (by omega), if_neg (by omega)]
          have i2 : (if 2 + 2 * k = 0 then ((fu + 1 : Nat) : Int) else if 2 + 2 * k = 1 + 2 * fu then 14 - (r : Int) else if 2 + 2 * k = 2 + 2 * fu then v0 else y (2 + 2 * k)) = y (2 + 2 * k) := by
            rw [if_neg (by omega), if_neg (by omega), if_neg (by omega)]
          show μ5.1 57 k = gq_I (14 - (if 1 + 2 * k = 0 then ((fu + 1 : Nat) : Int) else if 1 + 2 * k = 1 + 2 * fu then 14 - (r : Int) else if 1 + 2 * k = 2 + 2 * fu then v0 else y (1 + 2 * k))) ∧ μ5.1 58 (3 * k) = gq_I (if 2 + 2 * k = 0 then ((fu + 1 : Nat) : Int) else if 2 + 2 * k = 1 + 2 * fu then 14 - (r : Int) else if 2 + 2 * k = 2 + 2 * fu then v0 else y (2 + 2 * k))
          rw [i1, i2, d7 57 k (by omega) (by omega) (by omega), d7 58 (3 * k) (by omega) (by omega) (by omega), z56 _ _ (by omega) (by omega), z56 _ _ (by omega) (by omega)]
          exact w
      · have bb := b2 (by omega)
        have b20 := bb.1 0 (by omega)
        have b21 := bb.1 1 (by omega)
        rw [cfu] at b20 b21 bb
        show ν3.1 216 j = gq_I (if j = 0 then ((fu + 1 : Nat) : Int) else if j = 1 + 2 * fu then 14 - (r : Int) else if j = 2 + 2 * fu then v0 else y j)
        by_cases j0 : j = 0
        · rw [if_pos j0, j0]; exact bb.2
        · rw [if_neg j0]
          by_cases j1 : j = 1 + 2 * fu
          · rw [if_pos j1, j1, show 1 + 2 * fu = 1 + 2 * fu + 0 from rfl, b20, eν, gq_uI1, if_pos ⟨rfl, rfl⟩]
          · rw [if_neg j1]
            by_cases j2 : j = 2 + 2 * fu
            · rw [if_pos j2, j2, show 2 + 2 * fu = 1 + 2 * fu + 1 by omega, b21, eν, gq_uI1, if_neg (by omega)]; exact a4'
            · rw [if_neg j2, b4 _ _ (by omega), f2 _ _ (by omega) (by omega)]; exact u2 j hj
      · show 0 ≤ ((fu + 1 : Nat) : Int) ∧ ((fu + 1 : Nat) : Int) ≤ 8
        omega
      · have hk2 : (k : Int) < ((fu + 1 : Nat) : Int) := hk
        show (0 ≤ (if 1 + 2 * k = 0 then ((fu + 1 : Nat) : Int) else if 1 + 2 * k = 1 + 2 * fu then 14 - (r : Int) else if 1 + 2 * k = 2 + 2 * fu then v0 else y (1 + 2 * k)) ∧ (if 1 + 2 * k = 0 then ((fu + 1 : Nat) : Int) else if 1 + 2 * k = 1 + 2 * fu then 14 - (r : Int) else if 1 + 2 * k = 2 + 2 * fu then v0 else y (1 + 2 * k)) ≤ 1) ∧ 0 ≤ (if 2 + 2 * k = 0 then ((fu + 1 : Nat) : Int) else if 2 + 2 * k = 1 + 2 * fu then 14 - (r : Int) else if 2 + 2 * k = 2 + 2 * fu then v0 else y (2 + 2 * k)) ∧ (if 2 + 2 * k = 0 then ((fu + 1 : Nat) : Int) else if 2 + 2 * k = 1 + 2 * fu then 14 - (r : Int) else if 2 + 2 * k = 2 + 2 * fu then v0 else y (2 + 2 * k)) ≤ 39
        by_cases g : k = fu
        · subst g
          rw [if_neg (by omega), if_pos rfl, if_neg (by omega), if_neg (by omega), if_pos rfl]
          omega
        · have := u4.2 k (by omega)
          rw [if_neg (by omega), if_neg (by omega), if_neg (by omega), if_neg (by omega), if_neg (by omega), if_neg (by omega)]
          exact this
      · rw [d7 _ _ (by omega) (by omega) (by omega), z56 _ _ (by omega) (by omega)]
      · rw [d7 _ _ (by omega) (by omega) (by omega), z56 _ _ (by omega) (by omega)]; exact xl2.1
  · left
    intro K
    obtain ⟨μs, s1, s2, s3, s4, s5⟩ := gp_noC (i := 0) ok hl n2 hk0 r17 (by omega)
    refine ⟨μs, gx_uI ν0 206 16 (gq_I q0), q0, ?_, ?_, ⟨by omega, s2, s3, ?_⟩, ⟨gq_ln_w xl1 fun j => ?_, gq_ln_w xl2 fun j => ?_⟩, gq_rd_w xr fun j => ?_, ⟨fun a j g => ?_, ?_⟩, ⟨fun a j g => ?_, fun a j g => ?_⟩⟩
    · rw [cl]; exact s1 K 3999
    · rw [ml, gp_noMM n2 hk0]
      rfl
    · rw [gq_uI1, if_pos ⟨rfl, rfl⟩]
    · rw [s4 _ _ (by omega) (by omega), fμ _ _ (by omega)]
    · rw [s4 _ _ (by omega) (by omega), fμ _ _ (by omega)]
    · rw [gq_uI1, if_neg (by omega), n5 _ _ (by omega)]
    · rw [s4 _ _ (by omega) (by omega), fμ _ _ (by omega)]
    · rw [s5, fμ2]
    · rw [gq_uI1, if_neg (by omega), n5 _ _ (by omega)]
    · rw [gq_uI2, n6 _ _ (by omega)]
