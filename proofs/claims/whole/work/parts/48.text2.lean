theorem gp_b2 {k : gx_M → Option (Unit × gx_M)} : ∀ (d f i : Nat) (ν : gx_M), d < f → i + d = 161 → ∃ ν', L_X12_blank_2 k f (gq_I i) ν = k ν' ∧ (∀ j, i ≤ j → j < 161 → ν'.1 216 j = gq_I 0) ∧ (∀ a j, ¬ (a = 216) → ν'.1 a j = ν.1 a j) ∧ ν'.2 = ν.2 ∧ (∀ j, j < i → ν'.1 216 j = ν.1 216 j)
  | _, 0, _, _, hf, _ => absurd hf (Nat.not_lt_zero _)
  | 0, f + 1, i, ν, hf, hi => by
    refine ⟨ν, ?_, fun j h2 h3 => absurd h3 (by omega), fun _ _ _ => rfl, rfl, fun _ _ => rfl⟩
    rw [L_X12_blank_2.eq_2]
    simp (disch := omega) only [gq_lit, Bool.false_eq_true, gq_leT, gq_leF, gq_ltT, gq_ltF, gq_eqT, gq_eqF, if_true, if_false]
  | d + 1, f + 1, i, ν, hf, hi => by
    obtain ⟨ν', e1, e2, e3, e4, e5⟩ := gp_b2 (k := k) d f (i + 1) (gx_uI ν 216 i (gq_I 0)) (by omega) (by omega)
    refine ⟨ν', ?_, fun j h2 h3 => ?_, fun a j ha => ?_, e4, fun j hj => ?_⟩
    · rw [L_X12_blank_2.eq_2, ← e1]
      simp (disch := omega) only [Int.reduceToNat, gq_lit, gq_neg, gq_add, gq_sub, gq_mul, gq_nat, Int.toNat_natCast, gq_tadd, gq_tmul, gq_lte, gq_br, gq_bd, gq_ck, Bool.false_eq_true, gq_leT, gq_leF, gq_ltT, gq_ltF, gq_eqT, gq_eqF, if_true, if_false]
      rfl
    · by_cases hj : j = i
      · subst hj
        rw [e5 _ (by omega), gq_uI1, if_pos ⟨rfl, rfl⟩]
      · exact e2 j (by omega) h3
    · rw [e3 _ _ ha, gq_uI1, if_neg (by omega)]
    · rw [e5 j (by omega), gq_uI1, if_neg (by omega)]
theorem gp_b60 {k : gx_M → Option (Unit × gx_M)} : ∀ (d f i : Nat) (ν : gx_M), d < f → i + d = 4 → ∃ ν', L_X12_blank_60 k f (gq_I i) ν = k ν' ∧ (∀ j, i ≤ j → j < 4 → ν'.1 216 (3 + j) = gq_I 20) ∧ (∀ a j, ¬ (a = 216 ∧ 3 + i ≤ j ∧ j < 7) → ν'.1 a j = ν.1 a j) ∧ ν'.2 = ν.2
  | _, 0, _, _, hf, _ => absurd hf (Nat.not_lt_zero _)
  | 0, f + 1, i, ν, hf, hi => by
    refine ⟨ν, ?_, fun j h2 h3 => absurd h3 (by omega), fun _ _ _ => rfl, rfl⟩
    rw [L_X12_blank_60.eq_2]
    simp (disch := omega) only [gq_lit, Bool.false_eq_true, gq_leT, gq_leF, gq_ltT, gq_ltF, gq_eqT, gq_eqF, if_true, if_false]
  | d + 1, f + 1, i, ν, hf, hi => by
    obtain ⟨ν', e1, e2, e3, e4⟩ := gp_b60 (k := k) d f (i + 1) (gx_uI ν 216 (3 + i) (gq_I 20)) (by omega) (by omega)
    refine ⟨ν', ?_, fun j h2 h3 => ?_, fun a j ha => ?_, e4⟩
    · rw [L_X12_blank_60.eq_2, ← e1]
      simp (disch := omega) only [Int.reduceToNat, gq_lit, gq_neg, gq_add, gq_sub, gq_mul, gq_nat, Int.toNat_natCast, gq_tadd, gq_tmul, gq_lte, gq_br, gq_bd, gq_ck, Bool.false_eq_true, gq_leT, gq_leF, gq_ltT, gq_ltF, gq_eqT, gq_eqF, if_true, if_false]
      rfl
    · by_cases hj : j = i
      · subst hj
        rw [e3 _ _ (by omega), gq_uI1, if_pos ⟨rfl, rfl⟩]
      · exact e2 j (by omega) h3
    · rw [e3 _ _ (by omega), gq_uI1, if_neg (by omega)]
theorem gp_b83 {k : gx_M → Option (Unit × gx_M)} : ∀ (d f i : Nat) (ν : gx_M), d < f → i + d = 40 → ∃ ν', L_X12_blank_83 k f (gq_I i) ν = k ν' ∧ (∀ j, i ≤ j → j < 40 → ν'.1 216 (31 + j) = gq_I 1 ∧ ν'.1 216 (71 + j) = gq_I (-1)) ∧ (∀ a j, ¬ (a = 216 ∧ 31 ≤ j ∧ j < 111) → ν'.1 a j = ν.1 a j) ∧ ν'.2 = ν.2 ∧ (∀ j, j < i → ν'.1 216 (31 + j) = ν.1 216 (31 + j) ∧ ν'.1 216 (71 + j) = ν.1 216 (71 + j))
  | _, 0, _, _, hf, _ => absurd hf (Nat.not_lt_zero _)
  | 0, f + 1, i, ν, hf, hi => by
    refine ⟨ν, ?_, fun j h2 h3 => absurd h3 (by omega), fun _ _ _ => rfl, rfl, fun _ _ => ⟨rfl, rfl⟩⟩
    rw [L_X12_blank_83.eq_2]
    simp (disch := omega) only [gq_lit, Bool.false_eq_true, gq_leT, gq_leF, gq_ltT, gq_ltF, gq_eqT, gq_eqF, if_true, if_false]
  | d + 1, f + 1, i, ν, hf, hi => by
    obtain ⟨ν', e1, e2, e3, e4, e5⟩ := gp_b83 (k := k) d f (i + 1) (gx_uI (gx_uI ν 216 (31 + i) (gq_I 1)) 216 (71 + i) (gq_I (-1))) (by omega) (by omega)
    refine ⟨ν', ?_, fun j h2 h3 => ?_, fun a j ha => ?_, e4, fun j hj => ?_⟩
    · rw [L_X12_blank_83.eq_2, ← e1]
      simp (disch := omega) only [Int.reduceToNat, gq_lit, gq_neg, gq_add, gq_sub, gq_mul, gq_nat, Int.toNat_natCast, gq_tadd, gq_tmul, gq_lte, gq_br, gq_bd, gq_ck, Bool.false_eq_true, gq_leT, gq_leF, gq_ltT, gq_ltF, gq_eqT, gq_eqF, if_true, if_false]
      rfl
    · by_cases hj : j = i
      · subst hj
        rw [(e5 j (by omega)).1, (e5 j (by omega)).2]
        simp (disch := omega) only [gq_uI1, gq_ifF, Nat.reduceEqDiff, false_and, and_false, and_true, true_and, if_true]
      · exact e2 j (by omega) h3
    · rw [e3 _ _ ha, gq_uI1, if_neg (by omega), gq_uI1, if_neg (by omega)]
    · rw [(e5 j (by omega)).1, (e5 j (by omega)).2]
      simp (disch := omega) only [gq_uI1, gq_ifF]
      exact ⟨trivial, trivial⟩
def gp_t0 (of j : Nat) : Int := if of = 0 then gp_w0 j else if of = 3 then gp_v0 j else 0
theorem gp_blank {of : Nat} (ho : of < 4) (ν : gx_M) : ∃ ν', f_X12_blank (gq_I of) ν = some ((), ν') ∧ (∀ j, j < 161 → ν'.1 216 j = gq_I (gp_t0 of j)) ∧ (∀ a j, ¬ a = 216 → ν'.1 a j = ν.1 a j) ∧ ν'.2 = ν.2 := by
  obtain ⟨K, hK⟩ : ∃ K : gx_M → Option (Unit × gx_M), K = (fun (μ8 : gx_M) => gx_lt (fun (j0_12 : Int32) (μ13 : gx_M) => gx_lt (gx_uI μ13 216 0 j0_12) (fun (μ14 : gx_M) => if gq_I (of : Int) = 0 then gx_lt (gx_uI μ14 216 1 2) (fun (μ16 : gx_M) => L_X12_blank_60 (fun (μ24 : gx_M) => L_X12_blank_83 (fun (μ34 : gx_M) => some ((), μ34)) 4000 0 μ24) 4000 0 μ16) else some ((), μ14))) (fun J9 => if gq_I (of : Int) = 0 then J9 12 μ8 else if gq_I (of : Int) = 3 then J9 3 μ8 else J9 0 μ8)) := ⟨_, rfl⟩
  obtain ⟨ν1, a1, b1, c1, d1, _⟩ := gp_b2 (k := K) 161 4000 0 ν (by omega) (by omega)
  have st : f_X12_blank (gq_I of) ν = K ν1 := by
    rw [← a1]
    unfold f_X12_blank
    rw [hK]
    rfl
  rw [st, hK]
  rcases (show of = 0 ∨ of = 3 ∨ (of = 1 ∨ of = 2) by omega) with rfl | rfl | h
  · obtain ⟨ν2, e2⟩ : ∃ ν2, ν2 = gx_uI (gx_uI ν1 216 0 (gq_I 12)) 216 1 (gq_I 2) := ⟨_, rfl⟩
    obtain ⟨ν3, a3, b3, c3, d3⟩ := gp_b60 (k := fun (μ24 : gx_M) => L_X12_blank_83 (fun (μ34 : gx_M) => some ((), μ34)) 4000 (gq_I 0) μ24) 4 4000 0 ν2 (by omega) (by omega)
    obtain ⟨ν4, a4, b4, c4, d4, _⟩ := gp_b83 (k := fun (μ34 : gx_M) => some ((), μ34)) 40 4000 0 ν3 (by omega) (by omega)
    refine ⟨ν4, ?_, fun j hj => ?_, fun a j h => ?_, ?_⟩
    · simp (disch := omega) only [gq_lit, gq_lte, Bool.false_eq_true, gq_leT, gq_leF, gq_ltT, gq_ltF, gq_eqT, gq_eqF, if_true, if_false]
      rw [← e2]
      rw [show gq_I ((0 : Nat) : Int) = gq_I 0 from rfl] at a3 a4
      rw [a3, a4]
    · show ν4.1 216 j = gq_I (gp_w0 j)
      unfold gp_w0
      by_cases j0 : j = 0
      · rw [if_pos j0, j0, c4 _ _ (by omega), c3 _ _ (by omega), e2]; simp only [gq_uI1, gq_uI2, gq_uL1, gq_uL2, Nat.reduceEqDiff, false_and, and_false, and_true, true_and, if_true, if_false]
      · rw [if_neg j0]
        by_cases j1 : j = 1
        · rw [if_pos j1, j1, c4 _ _ (by omega), c3 _ _ (by omega), e2]; simp only [gq_uI1, gq_uI2, gq_uL1, gq_uL2, Nat.reduceEqDiff, false_and, and_false, and_true, true_and, if_true, if_false]
        · rw [if_neg j1]
          by_cases j2 : 3 ≤ j ∧ j < 7
          · rw [if_pos j2, c4 _ _ (by omega), show j = 3 + (j - 3) by omega]; exact b3 _ (by omega) (by omega)
          · rw [if_neg j2]
            by_cases j3 : 31 ≤ j ∧ j < 71
            · rw [if_pos j3, show j = 31 + (j - 31) by omega]; exact (b4 _ (by omega) (by omega)).1
            · rw [if_neg j3]
              by_cases j4 : 71 ≤ j ∧ j < 111
              · rw [if_pos j4, show j = 71 + (j - 71) by omega]; exact (b4 _ (by omega) (by omega)).2
              · rw [if_neg j4, c4 _ _ (by omega), c3 _ _ (by omega), e2, gq_uI1, if_neg (by omega), gq_uI1, if_neg (by omega)]; exact b1 j (by omega) hj
    · rw [c4 _ _ (by omega), c3 _ _ (by omega), e2, gq_uI1, if_neg (by omega), gq_uI1, if_neg (by omega), c1 _ _ h]
    · rw [d4, d3, e2, gq_uI2, gq_uI2, d1]
  · refine ⟨gx_uI ν1 216 0 (gq_I 3), ?_, fun j hj => ?_, fun a j h => ?_, ?_⟩
    · simp (disch := omega) only [gq_lit, gq_lte, Bool.false_eq_true, gq_leT, gq_leF, gq_ltT, gq_ltF, gq_eqT, gq_eqF, if_true, if_false]
    · show (gx_uI ν1 216 0 (gq_I 3)).1 216 j = gq_I (gp_v0 j)
      unfold gp_v0
      rw [gq_uI1]
      by_cases j0 : j = 0
      · rw [if_pos ⟨rfl, j0⟩, if_pos j0]
      · rw [if_neg (by omega), if_neg j0]; exact b1 j (by omega) hj
    · rw [gq_uI1, if_neg (by omega), c1 _ _ h]
    · rw [gq_uI2, d1]
  · refine ⟨gx_uI ν1 216 0 (gq_I 0), ?_, fun j hj => ?_, fun a j h => ?_, ?_⟩
    · simp (disch := omega) only [gq_lit, gq_lte, Bool.false_eq_true, gq_leT, gq_leF, gq_ltT, gq_ltF, gq_eqT, gq_eqF, if_true, if_false]
    · have : gp_t0 of j = 0 := by
        unfold gp_t0
        rw [if_neg (by omega), if_neg (by omega)]
      rw [this, gq_uI1]
      by_cases j0 : j = 0
      · rw [if_pos ⟨rfl, j0⟩]
      · rw [if_neg (by omega)]; exact b1 j (by omega) hj
    · rw [gq_uI1, if_neg (by omega), c1 _ _ h]
    · rw [gq_uI2, d1]
theorem gp_w0_ok : gp_pS gp_w0 (-1) (-1) := by
  refine ⟨by decide, by decide, by decide, fun p hp => ?_, fun b hb => ?_, fun j hj => ?_, fun j hj => ?_, by decide, by decide⟩
  · unfold gp_w0
    rw [if_neg (by omega), if_neg (by omega), if_pos (by omega)]; omega
  · have : (b : Int) < 0 := hb
    omega
  · unfold gp_w0
    rw [if_neg (by omega), if_neg (by omega), if_neg (by omega), if_pos (by omega)]; omega
  · unfold gp_w0
    rw [if_neg (by omega), if_neg (by omega), if_neg (by omega), if_neg (by omega), if_pos (by omega)]; omega
/-- what is told when no fault is left -/
def gp_fin (of : Nat) (μ ν : gx_M) : Prop := (of = 0 → ∃ w : Nat → Int, gq_cS μ 45 w ∧ (∀ j, j < 111 → ν.1 216 j = gq_I (w j)) ∧ gq_okS w) ∧ (of = 1 → ∃ y : Nat → Int, gq_cY μ 53 y ∧ (∀ j, j < 161 → ν.1 216 j = gq_I (y j)) ∧ gq_okY y) ∧ (of = 2 → ∃ y : Nat → Int, gq_cG μ 56 y ∧ (∀ j, j < 17 → ν.1 216 j = gq_I (y j)) ∧ gq_okG y) ∧ (of = 3 → ∃ w : Nat → Int, gq_cV μ 59 w ∧ (∀ j, j < 37 → ν.1 216 j = gq_I (w j)) ∧ gq_okV w)
/-- what the check does behind the lines; r9: they were all read -/
def gp_fi (r9 far : Bool) (μ22 : gx_M) : Option (Bool × gx_M) := (fun (K23 : gx_M → Option (Bool × gx_M)) => if r9 = true then if (μ22.1 206 17) = gq_I 0 then if far = true then gx_bd (f_X12_later (gq_I 4) (μ22.1 206 12) μ22) (fun (_ : Unit) (μ28 : gx_M) => K23 μ28) else K23 μ22 else K23 μ22 else K23 μ22) (fun (μ29 : gx_M) => (fun (K32 : Int32 → gx_M → Option (Bool × gx_M)) => if r9 = true then K32 (μ29.1 206 17) μ29 else K32 (gq_I 1) μ29) (fun (j0_32 : Int32) (μ33 : gx_M) => (fun (μ34 : gx_M) => (fun (K35 : Int32 → gx_M → Option (Bool × gx_M)) => if r9 = true then if (μ34.1 206 17) ≤ gq_I 0 then K35 (gq_I (-1)) μ34 else K35 (μ34.1 206 18) μ34 else K35 (μ34.1 206 16) μ34) (fun (j0_38 : Int32) (μ39 : gx_M) => (fun (μ40 : gx_M) => if (μ40.1 209 0) = gq_I 0 then some (true, μ40) else some (false, μ40)) (gx_uI μ39 210 0 j0_38))) (gx_uI μ33 209 0 j0_32)))
set_option maxHeartbeats 4000000 in
theorem gp_readB {of : Nat} (ho : of < 4) {t : Nat → Int} {len : Nat} {μ ν : gx_M} (ok : gt_okt t) (hl : len ≤ 600) (hc : ∀ k, k < 600 → μ.1 7 k = gq_I (t k)) (hlen : μ.1 1 6 = gq_I len) (hm : ∀ k, k < 600 → ν.1 207 k = gq_I (t k)) (hm2 : ν.1 206 11 = gq_I len) (hfit : ∀ k, k < 600 → fits .byte (.int (μ.1 7 k)) = true) (hl1 : gq_ln μ 53 40) (hl2 : gq_ln μ 56 8) (hrd : gq_rd ν) : ∃ (μ' ν' : gx_M) (b : Bool) (F P : Int), f_X4_read (gq_I of) μ = some ((), μ') ∧ f_X12_readText (gq_I of) ν = some (b, ν') ∧ (μ'.1 42 6 = gq_I F ∧ μ'.1 42 7 = gq_I P ∧ ν'.1 209 0 = gq_I F ∧ ν'.1 210 0 = gq_I P ∧ (0 ≤ F ∧ F ≤ 4) ∧ (b = true ↔ F = 0)) ∧ (F = 0 → gp_fin of μ' ν') ∧ gp_kc μ μ' ∧ (∀ a j, ¬ (a = 206 ∨ a = 216 ∨ a = 217) → ¬ (a = 209 ∧ j = 0) → ¬ (a = 210 ∧ j = 0) → ν'.1 a j = ν.1 a j) ∧ (gq_ln μ' 53 40 ∧ gq_ln μ' 56 8) ∧ gq_rd ν' := by
  obtain ⟨μ1, a1, a2, a3, ⟨a4, a5, a6, a7⟩, ⟨a8, a9, a10, a11, a12⟩, a13, a14⟩ := gp_clear hl1 hl2
  obtain ⟨μ2, e2⟩ : ∃ μ2, μ2 = gx_uI (gx_uI (gx_cp μ1 7 44 0 0 600) 43 1 (gq_I len)) 43 2 (gq_I 0) := ⟨_, rfl⟩
  have F2 : ∀ a j, ¬ (a = 43 ∧ (j = 1 ∨ j = 2)) → ¬ a = 44 → μ2.1 a j = μ1.1 a j := fun a j h1 h2 => by
    rw [e2, gq_uI1, if_neg (by omega), gq_uI1, if_neg (by omega), gq_cpo (by omega)]
  have st : f_X8_start μ1 = some ((), μ2) := by
    have hB : gx_fitB μ1 7 0 600 = true := gq_fitB fun k hk => by rw [a13 _ _ (by omega)]; exact hfit k hk
    have l1 : (gx_cp μ1 7 44 0 0 600).1 1 6 = gq_I len := by rw [gq_cpo (by omega), a13 _ _ (by omega)]; exact hlen
    unfold f_X8_start
    simp (disch := omega) only [Int.reduceToNat, gq_lit, gq_neg, gq_add, gq_sub, gq_mul, gq_nat, Int.toNat_natCast, gq_tadd, gq_tmul, gq_lte, gq_br, gq_bd, gq_ck, gq_ckp, hB, l1]
    rw [gq_ckT trivial]
    rw [e2]
  have C2 : gt_C μ2 t len := ⟨by rw [e2]; simp only [gq_uI1, gq_uI2, gq_uL1, gq_uL2, Nat.reduceEqDiff, false_and, and_false, and_true, true_and, if_true, if_false], fun k hk => by rw [e2, gq_uI1, if_neg (by omega), gq_uI1, if_neg (by omega), gq_cpi hk, a13 _ _ (by omega)]; exact hc k hk⟩
  have p2 : μ2.1 43 2 = gq_I (0 : Nat) := by rw [e2]; simp only [gq_uI1, gq_uI2, gq_uL1, gq_uL2, Nat.reduceEqDiff, false_and, and_false, and_true, true_and, if_true]; rfl
  obtain ⟨ν1, b1, b2, b3, b4⟩ := gp_blank ho ν
  obtain ⟨ν2, e3⟩ : ∃ ν2, ν2 = gx_uI (gx_uI (gx_uI (gx_uI ν1 206 21 (gq_I (-1))) 206 22 (gq_I (-1))) 206 10 (gq_I 0)) 206 17 (gq_I 0) := ⟨_, rfl⟩
  have G2 : ∀ a j, ¬ (a = 206 ∧ (j = 21 ∨ j = 22 ∨ j = 10 ∨ j = 17)) → ν2.1 a j = ν1.1 a j := fun a j h => by
    rw [e3]; simp (disch := omega) only [gq_uI1, gq_ifF]
  have M2 : gt_M ν2 t len := ⟨by rw [G2 _ _ (by omega), b3 _ _ (by omega)]; exact hm2, fun k hk => by rw [G2 _ _ (by omega), b3 _ _ (by omega)]; exact hm k hk⟩
  obtain ⟨k, q, e, v, hk⟩ := gt_tk_ex t (len := len) (p := 0) (by omega)
  obtain ⟨ν3, c1, ⟨c2, c3, c4, c5, c6⟩, c7, c8⟩ := gt_tok ok hl hk M2 (by rw [e3]; simp only [gq_uI1, gq_uI2, gq_uL1, gq_uL2, Nat.reduceEqDiff, false_and, and_false, and_true, true_and, if_true, if_false]; rfl)
  have y17 : ν3.1 206 17 = gq_I 0 := by rw [c7 _ _ (by omega), e3]; simp only [gq_uI1, gq_uI2, gq_uL1, gq_uL2, Nat.reduceEqDiff, false_and, and_false, and_true, true_and, if_true]
  have y21 : ν3.1 206 21 = gq_I (-1) := by rw [c7 _ _ (by omega), e3]; simp only [gq_uI1, gq_uI2, gq_uL1, gq_uL2, Nat.reduceEqDiff, false_and, and_false, and_true, true_and, if_true, if_false]
  have y22 : ν3.1 206 22 = gq_I (-1) := by rw [c7 _ _ (by omega), e3]; simp only [gq_uI1, gq_uI2, gq_uL1, gq_uL2, Nat.reduceEqDiff, false_and, and_false, and_true, true_and, if_true, if_false]
  have t3 : ∀ j, j < 161 → ν3.1 216 j = gq_I (gp_t0 of j) := fun j hj => by rw [c7 _ _ (by omega), G2 _ _ (by omega)]; exact b2 j hj
  have R3 : gp_R μ2 ν3 t len 0 k q e v 0 (-1) := ⟨hk, ⟨C2, p2, by rw [F2 _ _ (by omega) (by omega)]; exact a8, by rw [F2 _ _ (by omega) (by omega)]; exact a9⟩, ⟨gt_M_w M2 fun a j g => c7 _ _ (by omega), c2, c3, c4, c5, fun g => by
      rw [c6 g]
      unfold gt_W
      rw [if_pos g]
      split <;> rfl, y17, fun g => absurd rfl g⟩, Or.inl ⟨rfl, rfl⟩⟩
  have rd3 : gq_rd ν3 := gq_rd_w hrd fun j => by rw [c7 _ _ (by omega), G2 _ _ (by omega), b3 _ _ (by omega)]
  have X3 : gp_X of μ2 ν3 0 0 := by
    refine ⟨by rw [F2 _ _ (by omega) (by omega)]; exact a10, ⟨⟨by rw [F2 _ _ (by omega) (by omega)]; exact a4, 0, by omega, by rw [F2 _ _ (by omega) (by omega)]; exact a5⟩, ⟨by rw [F2 _ _ (by omega) (by omega)]; exact a6, 0, by omega, by rw [F2 _ _ (by omega) (by omega)]; exact a7⟩⟩, ⟨⟨-1, y21, by omega⟩, -1, y22, by omega⟩, rd3, ⟨fun g => ?_, fun g => ?_, fun g => ?_⟩, fun _ => ⟨fun g => ⟨gp_w0, -1, -1, ?_, fun j hj => ?_, rfl, gp_w0_ok, ?_, ?_, y21, y22⟩, fun g => ⟨fun _ => 0, ⟨?_, fun k hk => ?_⟩, fun j hj => ?_, rfl, ⟨by decide, fun k hk => ?_⟩⟩, fun g => ⟨fun _ => 0, ⟨?_, fun k hk => ?_⟩, fun j hj => ?_, rfl, ⟨by decide, fun k hk => ?_⟩⟩, fun g => ⟨gp_v0, -1, ?_, fun j hj => ?_, ⟨by decide, fun j hj => ?_⟩, by omega, ?_, y22⟩⟩⟩
    · subst g; exact t3 2 (by omega)
    · subst g; exact t3 0 (by omega)
    · subst g; exact t3 0 (by omega)
    · exact gq_cS_sm a2 fun i hi => by funext j; exact F2 _ _ (by omega) (by omega)
    · subst g; exact t3 j (by omega)
    · rw [F2 _ _ (by omega) (by omega)]; exact a11
    · rw [F2 _ _ (by omega) (by omega)]; exact a12
    · rw [F2 _ _ (by omega) (by omega)]; exact a5
    · have : (k : Int) < 0 := hk
      omega
    · subst g; exact t3 j (by omega)
    · have : (k : Int) < 0 := hk
      omega
    · rw [F2 _ _ (by omega) (by omega)]; exact a7
    · have : (k : Int) < 0 := hk
      omega
    · subst g; exact t3 j (by omega)
    · have : (k : Int) < 0 := hk
      omega
    · exact gq_cV_sm a3 fun i hi => by funext j; exact F2 _ _ (by omega) (by omega)
    · subst g; exact t3 j (by omega)
    · unfold gp_v0
      rw [if_neg (by omega)]; omega
    · rw [F2 _ _ (by omega) (by omega)]; exact a12
  obtain ⟨μ4, ν4, b, d1, d2, d3, d4, d5, d6, d7⟩ := gp_all ho (gp_LLs ho) ok hl len 0 k q e v 0 (-1) 0 0 4000 4000 μ2 ν3 (by omega) (by omega) (by omega) (by omega) (by omega) R3 X3
  have cR : f_X4_read (gq_I of) μ = if (μ4.1 42 6) = gq_I 0 then if (f_X4_tellsOfMissing (gq_I of) μ4) = true then gx_bd (f_X4_note (gq_I 4) (μ4.1 43 1) μ4) (fun (_ : Unit) (μ18 : gx_M) => some ((), μ18)) else some ((), μ4) else some ((), μ4) := by
    unfold f_X4_read
    rw [a1, gq_bd, st, gq_bd]
    simp only [gq_lit]
    exact d1 _
  have mR : f_X12_lines (gq_I of) ν3 = some (b, ν4) := by
    unfold f_X12_lines
    exact d2 _
  have kc : gp_kc μ μ4 := gp_kc_tr ⟨fun a j g => by rw [F2 _ _ (by omega) (by omega), a13 _ _ g], by rw [e2, gq_uI2, gq_uI2, gq_cp2, a14]⟩ d3
  have km : ∀ a j, ¬ (a = 206 ∨ a = 216 ∨ a = 217) → ν4.1 a j = ν.1 a j := fun a j g => by
    rw [d4.1 _ _ g, c7 _ _ (by omega), G2 _ _ (by omega), b3 _ _ (by omega)]
  have mT : f_X12_readText (gq_I of) ν = (if gq_I (of : Int) = gq_I 0 then (if (ν4.1 216 0) ≤ (ν4.1 206 21) then gp_fi b true ν4 else if (ν4.1 206 22) < (ν4.1 216 1) then gp_fi b false ν4 else gp_fi b true ν4) else if gq_I (of : Int) = gq_I 3 then (if (ν4.1 206 22) < (ν4.1 216 0) then gp_fi b false ν4 else gp_fi b true ν4) else gp_fi b false ν4) := by
    unfold f_X12_readText gp_fi
    simp only [gq_lit, gq_neg, gq_lte, b1, gq_bd]
    rw [← e3, c1]
    simp only [gq_bd, mR]
  rcases d7 with ⟨hb, x, x1, x2, x3, x4⟩ | ⟨hb, f2, pl2, fu2, z1, z2, z3, z4, z5, z6, z7, z8, z9⟩
  · refine ⟨μ4, gx_uI (gx_uI ν4 209 0 (gq_I 1)) 210 0 (gq_I x), false, 1, x, ?_, ?_, ⟨x2, x3, ?_, ?_, by omega, ?_⟩, fun g => absurd g (by decide), kc, fun a j g1 g2 g3 => ?_, d5, gq_rd_w d6 fun j => ?_⟩
    · rw [cR, x2]
      simp (disch := omega) only [Bool.false_eq_true, gq_leT, gq_leF, gq_ltT, gq_ltF, gq_eqT, gq_eqF, if_true, if_false]
    · have fi : ∀ far, gp_fi b far ν4 = some (false, gx_uI (gx_uI ν4 209 0 (gq_I 1)) 210 0 (gq_I x)) := fun far => by
        unfold gp_fi
        subst hb
        simp (disch := omega) only [Bool.false_eq_true, gq_leT, gq_leF, gq_ltT, gq_ltF, gq_eqT, gq_eqF, if_true, if_false, gq_uI1, x4, Nat.reduceEqDiff, false_and, and_false, and_true, true_and]
      rw [mT]
      simp only [fi]
      repeat' split
      all_goals rfl
    · rw [gq_uI1, if_neg (by omega), gq_uI1, if_pos ⟨rfl, rfl⟩]
    · rw [gq_uI1, if_pos ⟨rfl, rfl⟩]
    · exact ⟨fun g => absurd g (by decide), fun g => absurd g (by decide)⟩
    · rw [gq_uI1, if_neg g3, gq_uI1, if_neg g2, km _ _ g1]
    · rw [gq_uI1, if_neg (by omega), gq_uI1, if_neg (by omega)]
  · subst hb
    by_cases hf : f2 = 0
    · subst hf
      have hpl : pl2 = -1 := by omega
      subst hpl
      obtain ⟨q1, q2, q3, q4⟩ := z9 rfl
      -- far or not
      have both : ∀ far : Bool, f_X4_tellsOfMissing (gq_I of) μ4 = far → f_X12_readText (gq_I of) ν = gp_fi true far ν4 → (far = false → gp_fin of μ4 ν4) → ∃ (μ' ν' : gx_M) (b : Bool) (F P : Int), f_X4_read (gq_I of) μ = some ((), μ') ∧ f_X12_readText (gq_I of) ν = some (b, ν') ∧ (μ'.1 42 6 = gq_I F ∧ μ'.1 42 7 = gq_I P ∧ ν'.1 209 0 = gq_I F ∧ ν'.1 210 0 = gq_I P ∧ (0 ≤ F ∧ F ≤ 4) ∧ (b = true ↔ F = 0)) ∧ (F = 0 → gp_fin of μ' ν') ∧ gp_kc μ μ' ∧ (∀ a j, ¬ (a = 206 ∨ a = 216 ∨ a = 217) → ¬ (a = 209 ∧ j = 0) → ¬ (a = 210 ∧ j = 0) → ν'.1 a j = ν.1 a j) ∧ (gq_ln μ' 53 40 ∧ gq_ln μ' 56 8) ∧ gq_rd ν' := by
        intro far hfar hread hfin
        cases far
        · refine ⟨μ4, gx_uI (gx_uI ν4 209 0 (gq_I 0)) 210 0 (gq_I (-1)), true, 0, -1, ?_, ?_, ⟨z2, z3, ?_, ?_, by omega, ?_⟩, fun _ => ?_, kc, fun a j g1 g2 g3 => ?_, d5, gq_rd_w d6 fun j => ?_⟩
          · rw [cR, z2, hfar]
            simp (disch := omega) only [Bool.false_eq_true, gq_leT, gq_leF, gq_ltT, gq_ltF, gq_eqT, gq_eqF, if_true, if_false]
          · rw [hread]
            unfold gp_fi
            simp (disch := omega) only [Bool.false_eq_true, gq_leT, gq_leF, gq_ltT, gq_ltF, gq_eqT, gq_eqF, if_true, if_false, gq_uI1, z4, Nat.reduceEqDiff, false_and, and_false, and_true, true_and]
          · rw [gq_uI1, if_neg (by omega), gq_uI1, if_pos ⟨rfl, rfl⟩]
          · rw [gq_uI1, if_pos ⟨rfl, rfl⟩]
          · exact ⟨fun g => rfl, fun g => rfl⟩
          · obtain ⟨w1, w2, w3, w4⟩ := hfin rfl
            refine ⟨fun g => ?_, fun g => ?_, fun g => ?_, fun g => ?_⟩
            · obtain ⟨w, u1, u2, u3⟩ := w1 g
              exact ⟨w, u1, fun j hj => by rw [gq_uI1, if_neg (by omega), gq_uI1, if_neg (by omega)]; exact u2 j hj, u3⟩
            · obtain ⟨w, u1, u2, u3⟩ := w2 g
              exact ⟨w, u1, fun j hj => by rw [gq_uI1, if_neg (by omega), gq_uI1, if_neg (by omega)]; exact u2 j hj, u3⟩
            · obtain ⟨w, u1, u2, u3⟩ := w3 g
              exact ⟨w, u1, fun j hj => by rw [gq_uI1, if_neg (by omega), gq_uI1, if_neg (by omega)]; exact u2 j hj, u3⟩
            · obtain ⟨w, u1, u2, u3⟩ := w4 g
              exact ⟨w, u1, fun j hj => by rw [gq_uI1, if_neg (by omega), gq_uI1, if_neg (by omega)]; exact u2 j hj, u3⟩
          · rw [gq_uI1, if_neg g3, gq_uI1, if_neg g2, km _ _ g1]
          · rw [gq_uI1, if_neg (by omega), gq_uI1, if_neg (by omega)]
        · have nt := gp_note (nf := 4) (q := len) z2 (Or.inl ⟨rfl, rfl⟩)
          have lt := gp_later (nf := 4) (q := len) (ν := ν4) (by omega) hl z4 z5 (Or.inl ⟨rfl, rfl⟩)
          rw [if_pos rfl] at nt lt
          refine ⟨gx_uI (gx_uI μ4 42 6 (gq_I 4)) 42 7 (gq_I len), gx_uI (gx_uI (gx_uI (gx_uI ν4 206 17 (gq_I 4)) 206 18 (gq_I len)) 209 0 (gq_I 4)) 210 0 (gq_I len), false, 4, len, ?_, ?_, ⟨?_, ?_, ?_, ?_, by omega, ?_⟩, fun g => absurd g (by decide), gp_kc_tr kc ⟨fun a j g => ?_, rfl⟩, fun a j g1 g2 g3 => ?_, ⟨gq_ln_w d5.1 fun j => ?_, gq_ln_w d5.2 fun j => ?_⟩, gq_rd_w d6 fun j => ?_⟩
          · rw [cR, z2, hfar, z7]
            simp (disch := omega) only [Bool.false_eq_true, gq_leT, gq_leF, gq_ltT, gq_ltF, gq_eqT, gq_eqF, if_true, if_false, nt, gq_bd]
          · rw [hread]
            unfold gp_fi
            simp (disch := omega) only [Bool.false_eq_true, gq_leT, gq_leF, gq_ltT, gq_ltF, gq_eqT, gq_eqF, if_true, if_false, gq_uI1, z4, z6, lt, gq_bd, Nat.reduceEqDiff, false_and, and_false, and_true, true_and]
          · simp only [gq_uI1, gq_uI2, gq_uL1, gq_uL2, Nat.reduceEqDiff, false_and, and_false, and_true, true_and, if_true, if_false]
          · simp only [gq_uI1, gq_uI2, gq_uL1, gq_uL2, Nat.reduceEqDiff, false_and, and_false, and_true, true_and, if_true, if_false]
          · simp only [gq_uI1, gq_uI2, gq_uL1, gq_uL2, Nat.reduceEqDiff, false_and, and_false, and_true, true_and, if_true, if_false]
          · simp only [gq_uI1, gq_uI2, gq_uL1, gq_uL2, Nat.reduceEqDiff, false_and, and_false, and_true, true_and, if_true, if_false]
          · exact ⟨fun g => absurd g (by decide), fun g => absurd g (by decide)⟩
          · simp (disch := omega) only [gq_uI1, gq_ifF]
          · rw [gq_uI1, if_neg g3, gq_uI1, if_neg g2, gq_uI1, if_neg (by omega), gq_uI1, if_neg (by omega), km _ _ g1]
          · simp (disch := omega) only [gq_uI1, gq_ifF]
          · simp (disch := omega) only [gq_uI1, gq_ifF]
          · simp (disch := omega) only [gq_uI1, gq_ifF]
      rcases (show of = 0 ∨ of = 3 ∨ (of = 1 ∨ of = 2) by omega) with rfl | rfl | h
      · obtain ⟨w, m, o, u1, u2, u3, u4, u5, u6, u7, u8⟩ := q1 rfl
        have u9 := u4
        obtain ⟨v1, v2, v3, v4, v5, v6, v7, v8, v9⟩ := u9
        have x0 := u2 0 (by omega)
        have x1 := u2 1 (by omega)
        by_cases g1 : w 0 ≤ m
        · refine both true ?_ ?_ (fun g => absurd g (by decide))
          · unfold f_X4_tellsOfMissing
            simp (disch := omega) only [gq_lit, u1.1.1, u5, Bool.false_eq_true, gq_leT, gq_leF, gq_ltT, gq_ltF, gq_eqT, gq_eqF, if_true, if_false]
          · rw [mT]
            simp (disch := omega) only [x0, u7, Bool.false_eq_true, gq_leT, gq_leF, gq_ltT, gq_ltF, gq_eqT, gq_eqF, if_true, if_false]
        · by_cases g2 : w 1 ≤ o
          · refine both true ?_ ?_ (fun g => absurd g (by decide))
            · unfold f_X4_tellsOfMissing
              simp (disch := omega) only [gq_lit, u1.1.1, u1.1.2.1, u5, u6, Bool.false_eq_true, gq_leT, gq_leF, gq_ltT, gq_ltF, gq_eqT, gq_eqF, if_true, if_false]
            · rw [mT]
              simp (disch := omega) only [x0, x1, u7, u8, Bool.false_eq_true, gq_leT, gq_leF, gq_ltT, gq_ltF, gq_eqT, gq_eqF, if_true, if_false]
          · refine both false ?_ ?_ (fun _ => ⟨fun _ => ⟨w, u1, u2, v1, v2, v3, v4, fun b hb => ?_, v6, fun j hj => ?_⟩, fun g => absurd g (by decide), fun g => absurd g (by decide), fun g => absurd g (by decide)⟩)
            · unfold f_X4_tellsOfMissing
              simp (disch := omega) only [gq_lit, u1.1.1, u1.1.2.1, u5, u6, Bool.false_eq_true, gq_leT, gq_leF, gq_ltT, gq_ltF, gq_eqT, gq_eqF, if_true, if_false]
            · rw [mT]
              simp (disch := omega) only [x0, x1, u7, u8, Bool.false_eq_true, gq_leT, gq_leF, gq_ltT, gq_ltF, gq_eqT, gq_eqF, if_true, if_false]
            · have := v5 b hb
              omega
            · have := v7 j hj
              omega
      · obtain ⟨w, o, u1, u2, u3, u4, u5, u6⟩ := q4 rfl
        have u7 := u3.1
        have x0 := u2 0 (by omega)
        by_cases g1 : w 0 ≤ o
        · refine both true ?_ ?_ (fun g => absurd g (by decide))
          · unfold f_X4_tellsOfMissing
            simp (disch := omega) only [gq_lit, u1.1, u5, Bool.false_eq_true, gq_leT, gq_leF, gq_ltT, gq_ltF, gq_eqT, gq_eqF, if_true, if_false]
          · rw [mT]
            simp (disch := omega) only [x0, u6, Bool.false_eq_true, gq_leT, gq_leF, gq_ltT, gq_ltF, gq_eqT, gq_eqF, if_true, if_false]
        · refine both false ?_ ?_ (fun _ => ⟨fun g => absurd g (by decide), fun g => absurd g (by decide), fun g => absurd g (by decide), fun _ => ⟨w, u1, u2, u3⟩⟩)
          · unfold f_X4_tellsOfMissing
            simp (disch := omega) only [gq_lit, u1.1, u5, Bool.false_eq_true, gq_leT, gq_leF, gq_ltT, gq_ltF, gq_eqT, gq_eqF, if_true, if_false]
          · rw [mT]
            simp (disch := omega) only [x0, u6, Bool.false_eq_true, gq_leT, gq_leF, gq_ltT, gq_ltF, gq_eqT, gq_eqF, if_true, if_false]
      · refine both false ?_ ?_ (fun _ => ⟨fun g => absurd g (by omega), fun g => ?_, fun g => ?_, fun g => absurd g (by omega)⟩)
        · unfold f_X4_tellsOfMissing
          simp (disch := omega) only [gq_lit, Bool.false_eq_true, gq_leT, gq_leF, gq_ltT, gq_ltF, gq_eqT, gq_eqF, if_true, if_false]
        · rw [mT]
          simp (disch := omega) only [Bool.false_eq_true, gq_leT, gq_leF, gq_ltT, gq_ltF, gq_eqT, gq_eqF, if_true, if_false]
        · obtain ⟨y, u1, u2, u3, u4⟩ := q2 g
          exact ⟨y, u1, u2, u4⟩
        · obtain ⟨y, u1, u2, u3, u4⟩ := q3 g
          exact ⟨y, u1, u2, u4⟩
    · have z51 := z5 hf
      refine ⟨μ4, gx_uI (gx_uI ν4 209 0 (gq_I f2)) 210 0 (gq_I pl2), false, f2, pl2, ?_, ?_, ⟨z2, z3, ?_, ?_, by omega, ?_⟩, fun g => absurd g hf, kc, fun a j g1 g2 g3 => ?_, d5, gq_rd_w d6 fun j => ?_⟩
      · rw [cR, z2]
        simp (disch := omega) only [Bool.false_eq_true, gq_leT, gq_leF, gq_ltT, gq_ltF, gq_eqT, gq_eqF, if_true, if_false]
      · have fi : ∀ far, gp_fi true far ν4 = some (false, gx_uI (gx_uI ν4 209 0 (gq_I f2)) 210 0 (gq_I pl2)) := fun far => by
          unfold gp_fi
          simp (disch := omega) only [Bool.false_eq_true, gq_leT, gq_leF, gq_ltT, gq_ltF, gq_eqT, gq_eqF, if_true, if_false, gq_uI1, z4, z51, Nat.reduceEqDiff, false_and, and_false, and_true, true_and]
        rw [mT]
        simp only [fi]
        repeat' split
        all_goals rfl
      · rw [gq_uI1, if_neg (by omega), gq_uI1, if_pos ⟨rfl, rfl⟩]
      · rw [gq_uI1, if_pos ⟨rfl, rfl⟩]
      · exact ⟨fun g => absurd g (by decide), fun g => absurd g hf⟩
      · rw [gq_uI1, if_neg g3, gq_uI1, if_neg g2, km _ _ g1]
      · rw [gq_uI1, if_neg (by omega), gq_uI1, if_neg (by omega)]
