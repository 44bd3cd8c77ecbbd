/-! the questions fits and span -/
theorem gl_ed' {j : Nat} : gl_len j = ((j % 40 : Nat) : Int) - ((j / 40 : Nat) : Int) + 1 := rfl
theorem gl_s41 {ν : gx_M} {C : Nat} {e : Nat → Nat} (hC : C ≤ 820) (h : gl_row ν C e) {k : Int32 → Int32 → gx_M → Option (Int32 × gx_M)} : ∀ (d f i : Nat), d < f → i + d = C → L_X12_span_41 k f (gq_I (gl_fe gl_mn e 1000000 i)) (gq_I (gl_fe gl_mx e 0 i)) (gq_I i) ν = k (gq_I (gl_fe gl_mn e 1000000 C)) (gq_I (gl_fe gl_mx e 0 C)) ν
  | _, 0, _, hf, _ => absurd hf (Nat.not_lt_zero _)
  | 0, f + 1, i, hf, hi => by
    rw [L_X12_span_41.eq_2, h.1, show i = C by omega]
    simp (disch := omega) only [Int.reduceToNat, gq_lit, gq_neg, gq_add, gq_sub, gq_mul, gq_nat, Int.toNat_natCast, gq_tadd, gq_tmul, gq_lte, gq_br, gq_bd, gq_ck, Bool.false_eq_true, gq_leT, gq_leF, gq_ltT, gq_ltF, gq_eqT, gq_eqF, if_true, if_false]
  | d + 1, f + 1, i, hf, hi => by
    obtain ⟨r1, r2, r3⟩ := h.2 i (by omega)
    have b1 : -40 ≤ gl_fe gl_mn e 1000000 i ∧ gl_fe gl_mn e 1000000 i ≤ 1000000 := gl_fe_P (fun x => -40 ≤ x ∧ x ≤ 1000000) (by omega) fun x q hq _ => by
      have := (h.2 q (by omega)).2.1
      unfold gl_mn gl_len
      split <;> omega
    have b2 : 0 ≤ gl_fe gl_mx e 0 i ∧ gl_fe gl_mx e 0 i ≤ 40 := gl_fe_P (fun x => 0 ≤ x ∧ x ≤ 40) (by omega) fun x q hq _ => by
      have := (h.2 q (by omega)).2.1
      unfold gl_mx gl_len
      split <;> omega
    rw [← gl_s41 hC h (k := k) d f (i + 1) (by omega) (by omega), L_X12_span_41.eq_2, h.1]
    have e1 : gl_fe gl_mn e 1000000 (i + 1) = if gl_len (e i) < gl_fe gl_mn e 1000000 i then gl_len (e i) else gl_fe gl_mn e 1000000 i := rfl
    have e2 : gl_fe gl_mx e 0 (i + 1) = if gl_fe gl_mx e 0 i < gl_len (e i) then gl_len (e i) else gl_fe gl_mx e 0 i := rfl
    have el : ((gq_I (e i) - gq_I (e i) / gq_I 40 * gq_I 40) - gq_I (e i) / gq_I 40) + gq_I 1 = gq_I (gl_len (e i)) := by
      rw [gl_em r2, gl_ed r2, gq_sub, gq_add]
      rfl
    have bl : -40 ≤ gl_len (e i) ∧ gl_len (e i) ≤ 40 := by unfold gl_len; omega
    rw [e1, e2]
    simp (disch := omega) only [gq_lit, gq_lte, gq_nat, Int.toNat_natCast, gq_ck, Bool.false_eq_true, gq_leT, gq_leF, gq_ltT, gq_ltF, gq_eqT, gq_eqF, if_true, if_false, r1, el, gl_les, gl_grt]
    rw [gq_add]
    rfl
theorem gl_s106 {ν : gx_M} {C : Nat} {e : Nat → Nat} (hC : C ≤ 820) (h : gl_row ν C e) {k : Int32 → Int32 → gx_M → Option (Int32 × gx_M)} : ∀ (d f m : Nat), d < f → m + d = 40 → L_X12_span_106 k f (gq_I (gm_cnt (fun m => decide (gl_fe (gl_ov m) e 0 C = (C : Nat))) m : Nat)) (gq_I (gm_cnt (fun m => decide (gl_fe (gl_ov m) e 0 C = 0)) m : Nat)) (gq_I m) ν = k (gq_I (gm_cnt (fun m => decide (gl_fe (gl_ov m) e 0 C = (C : Nat))) 40 : Nat)) (gq_I (gm_cnt (fun m => decide (gl_fe (gl_ov m) e 0 C = 0)) 40 : Nat)) ν
  | _, 0, _, hf, _ => absurd hf (Nat.not_lt_zero _)
  | 0, f + 1, m, hf, hm => by
    rw [L_X12_span_106.eq_2, show m = 40 by omega]
    simp (disch := omega) only [Int.reduceToNat, gq_lit, gq_neg, gq_add, gq_sub, gq_mul, gq_nat, Int.toNat_natCast, gq_tadd, gq_tmul, gq_lte, gq_br, gq_bd, gq_ck, Bool.false_eq_true, gq_leT, gq_leF, gq_ltT, gq_ltF, gq_eqT, gq_eqF, if_true, if_false]
  | d + 1, f + 1, m, hf, hm => by
    have am := gl_among (m := m) hC (by omega) h
    have bd := gl_ov2 (m := m) (e := e) C
    rw [← gl_s106 hC h (k := k) d f (m + 1) (by omega) (by omega), L_X12_span_106.eq_2]
    have e1 : gm_cnt (fun m => decide (gl_fe (gl_ov m) e 0 C = (C : Nat))) (m + 1) = gm_cnt (fun m => decide (gl_fe (gl_ov m) e 0 C = (C : Nat))) m + (decide (gl_fe (gl_ov m) e 0 C = (C : Nat))).toNat := rfl
    have e2 : gm_cnt (fun m => decide (gl_fe (gl_ov m) e 0 C = 0)) (m + 1) = gm_cnt (fun m => decide (gl_fe (gl_ov m) e 0 C = 0)) m + (decide (gl_fe (gl_ov m) e 0 C = 0)).toNat := rfl
    simp (disch := omega) only [gq_lit, gq_lte, gq_br, Bool.false_eq_true, gq_leT, gq_leF, gq_ltT, gq_ltF, gq_eqT, gq_eqF, if_true, if_false, am, h.1]
    by_cases g1 : gl_fe (gl_ov m) e 0 C = (C : Nat)
    · rw [decide_eq_true g1] at e1
      rw [e1, if_pos (by rw [g1])]
      by_cases g2 : gl_fe (gl_ov m) e 0 C = 0
      · rw [decide_eq_true g2] at e2
        rw [e2, if_pos (by rw [g2])]
        simp only [gq_biT, gq_add]
        rfl
      · rw [decide_eq_false g2] at e2
        rw [e2, if_neg (by rw [gq_eq (by omega)]; exact g2)]
        simp only [gq_biT, gq_biF, gq_add]
        rfl
    · rw [decide_eq_false g1] at e1
      rw [e1, if_neg (by rw [gq_eq (by omega)]; exact g1)]
      by_cases g2 : gl_fe (gl_ov m) e 0 C = 0
      · rw [decide_eq_true g2] at e2
        rw [e2, if_pos (by rw [g2])]
        simp only [gq_biT, gq_biF, gq_add]
        rfl
      · rw [decide_eq_false g2] at e2
        rw [e2, if_neg (by rw [gq_eq (by omega)]; exact g2)]
        simp only [gq_biF, gq_add]
        rfl
theorem gl_minL {μ : gx_M} {R : Nat → Int} {t : Int} (ht : -2147483648 ≤ t ∧ t < 2147483648) (hR : ∀ m, m < 40 → μ.1 83 m = gq_I (R m) ∧ 0 ≤ R m ∧ R m ≤ 1600) {k : Int32 → Option Int32} : ∀ (d f m : Nat), d < f → m + d = 40 → L_X7_minutesIn_4 μ (gq_I t) k f (gq_I (gm_cnt (fun m => decide (R m = t)) m : Nat)) (gq_I m) = k (gq_I (gm_cnt (fun m => decide (R m = t)) 40 : Nat))
  | _, 0, _, hf, _ => absurd hf (Nat.not_lt_zero _)
  | 0, f + 1, m, hf, hm => by
    rw [L_X7_minutesIn_4.eq_2, show m = 40 by omega]
    simp (disch := omega) only [Int.reduceToNat, gq_lit, gq_neg, gq_add, gq_sub, gq_mul, gq_nat, Int.toNat_natCast, gq_tadd, gq_tmul, gq_lte, gq_br, gq_bd, gq_ck, Bool.false_eq_true, gq_leT, gq_leF, gq_ltT, gq_ltF, gq_eqT, gq_eqF, if_true, if_false]
  | d + 1, f + 1, m, hf, hm => by
    obtain ⟨c, c1, c2⟩ := hR m (by omega)
    rw [← gl_minL ht hR (k := k) d f (m + 1) (by omega) (by omega), L_X7_minutesIn_4.eq_2]
    have e1 : gm_cnt (fun m => decide (R m = t)) (m + 1) = gm_cnt (fun m => decide (R m = t)) m + (decide (R m = t)).toNat := rfl
    simp (disch := omega) only [gq_lit, gq_lte, gq_nat, Int.toNat_natCast, gq_ck, Bool.false_eq_true, gq_leT, gq_leF, gq_ltT, gq_ltF, gq_eqT, gq_eqF, if_true, if_false, c]
    by_cases g1 : R m = t
    · rw [decide_eq_true g1] at e1
      rw [e1, if_pos (by rw [g1]), gq_add, gq_add]
      rfl
    · rw [decide_eq_false g1] at e1
      rw [e1, if_neg (by rw [gq_eq (by omega)]; exact g1), gq_add]
      rfl
theorem gl_minIn {μ : gx_M} {R : Nat → Int} {t : Int} (ht : -2147483648 ≤ t ∧ t < 2147483648) (hR : ∀ m, m < 40 → μ.1 83 m = gq_I (R m) ∧ 0 ≤ R m ∧ R m ≤ 1600) : f_X7_minutesIn (gq_I t) μ = some (gq_I (gm_cnt (fun m => decide (R m = t)) 40 : Nat)) := by
  unfold f_X7_minutesIn
  simp only [gq_lit]
  exact gl_minL ht hR (k := fun (x2_10 : Int32) => some x2_10) 40 4000 0 (by omega) (by omega)
theorem gq_e_fits {μ : gx_M} (hI : gq_inv μ) (p1 p2 : Int32) : gq_st (f_X11_fits p1 p2) (f_X12_fits p1 p2) μ := by
  obtain ⟨z, hz, rfl⟩ := gq_ex p1
  obtain ⟨x, hx, rfl⟩ := gq_ex p2
  refine gq_two hI fun ν0 hν => ?_
  rcases gq_opG hI hz with ⟨h1, h2⟩ | ⟨y, g, φ, hy, rfl, og, hφ, hc, h1, h2⟩
  · obtain ⟨μ2, a1, a2⟩ := h2 ν0 hν
    refine ⟨gq_I (-2), μ, μ2, ?_, ?_, gq_sm_rf, a2⟩
    · unfold f_X11_fits
      rw [h1]
      rfl
    · unfold f_X12_fits
      rw [gq_lte, gq_lit, a1]
      rfl
  · obtain ⟨μ2, a1, a2, a3⟩ := h2 ν0 hν
    obtain ⟨μ', b1, b2, b3, b4⟩ := gl_look (a := 19 + 16 * y) (by omega) og hφ hc
    obtain ⟨e, e1, e2⟩ := gl_e hφ a2
    have C8 := gl_820 hφ
    obtain ⟨C, hC⟩ : ∃ C, C = gm_cnt φ 1600 := ⟨_, rfl⟩
    rw [← hC] at C8
    have hr : gl_row μ2 C e := ⟨by rw [hC]; exact a2.1, fun i hi => e1 i (by rw [← hC]; exact hi)⟩
    have fe : ∀ f b, gl_fe f e b C = gl_fo f φ b 1600 := fun f b => by rw [hC]; exact gl_fo_fe fun j hj hp => e2 j hj hp
    obtain ⟨s1, s2, s3, s4, s5, s6⟩ := b2
    rw [← hC] at s1
    have m1 : μ2.1 206 48 = gq_I C := hr.1
    have fin : ∀ r, f_X11_fits (gq_I y) (gq_I x) μ = some (r, μ') → f_X12_fits (gq_I y) (gq_I x) ν0 = some (r, μ2) → ∃ r μ' ν', f_X11_fits (gq_I y) (gq_I x) μ = some (r, μ') ∧ f_X12_fits (gq_I y) (gq_I x) ν0 = some (r, ν') ∧ gq_sm gq_Pc μ μ' ∧ gq_sm gq_Pm ν0 ν' := fun r t1 t2 => ⟨r, μ', μ2, t1, t2, b4, a3⟩
    have sure := gl_sure C8 hr
    by_cases x0 : x = 0
    · subst x0
      refine fin (gq_I C) ?_ ?_
      · unfold f_X11_fits
        simp (disch := omega) only [Int.reduceToNat, gq_lit, gq_neg, gq_add, gq_sub, gq_mul, gq_nat, Int.toNat_natCast, gq_tadd, gq_tmul, gq_lte, gq_br, gq_bd, gq_ck, Bool.false_eq_true, gq_leT, gq_leF, gq_ltT, gq_ltF, gq_eqT, gq_eqF, if_true, if_false, h1, b1, s1]
      · unfold f_X12_fits
        rw [gq_lte, gq_lit, a1, gq_bd, if_pos rfl]
        simp (disch := omega) only [Int.reduceToNat, gq_lit, gq_neg, gq_add, gq_sub, gq_mul, gq_nat, Int.toNat_natCast, gq_tadd, gq_tmul, gq_lte, gq_br, gq_bd, gq_ck, Bool.false_eq_true, gq_leT, gq_leF, gq_ltT, gq_ltF, gq_eqT, gq_eqF, if_true, if_false, m1]
    by_cases x1 : x = 1
    · subst x1
      refine fin (gq_I (gl_fo (gl_su (fun j => j / 40)) φ (-1) 1600)) ?_ ?_
      · unfold f_X11_fits
        simp (disch := omega) only [Int.reduceToNat, gq_lit, gq_neg, gq_add, gq_sub, gq_mul, gq_nat, Int.toNat_natCast, gq_tadd, gq_tmul, gq_lte, gq_br, gq_bd, gq_ck, Bool.false_eq_true, gq_leT, gq_leF, gq_ltT, gq_ltF, gq_eqT, gq_eqF, if_true, if_false, h1, b1, s2]
      · unfold f_X12_fits
        rw [gq_lte, gq_lit, a1, gq_bd, if_pos rfl]
        simp (disch := omega) only [Int.reduceToNat, gq_lit, gq_neg, gq_add, gq_sub, gq_mul, gq_nat, Int.toNat_natCast, gq_tadd, gq_tmul, gq_lte, gq_br, gq_bd, gq_ck, Bool.false_eq_true, gq_leT, gq_leF, gq_ltT, gq_ltF, gq_eqT, gq_eqF, if_true, if_false, sure.1, fe]
    by_cases x2 : x = 2
    · subst x2
      refine fin (gq_I (gl_fo (gl_su (fun j => j % 40)) φ (-1) 1600)) ?_ ?_
      · unfold f_X11_fits
        simp (disch := omega) only [Int.reduceToNat, gq_lit, gq_neg, gq_add, gq_sub, gq_mul, gq_nat, Int.toNat_natCast, gq_tadd, gq_tmul, gq_lte, gq_br, gq_bd, gq_ck, Bool.false_eq_true, gq_leT, gq_leF, gq_ltT, gq_ltF, gq_eqT, gq_eqF, if_true, if_false, h1, b1, s3]
      · unfold f_X12_fits
        rw [gq_lte, gq_lit, a1, gq_bd, if_pos rfl]
        simp (disch := omega) only [Int.reduceToNat, gq_lit, gq_neg, gq_add, gq_sub, gq_mul, gq_nat, Int.toNat_natCast, gq_tadd, gq_tmul, gq_lte, gq_br, gq_bd, gq_ck, Bool.false_eq_true, gq_leT, gq_leF, gq_ltT, gq_ltF, gq_eqT, gq_eqF, if_true, if_false, sure.2, fe]
    by_cases x3 : x = 3
    · subst x3
      obtain ⟨r, t1, t2⟩ := gl_seek (μ := μ') (ν := μ2) C8 hr s1 (fun m hm => by rw [fe]; exact s6 m hm)
      refine fin r ?_ ?_
      · unfold f_X11_fits
        simp (disch := omega) only [Int.reduceToNat, gq_lit, gq_neg, gq_add, gq_sub, gq_mul, gq_nat, Int.toNat_natCast, gq_tadd, gq_tmul, gq_lte, gq_br, gq_bd, gq_ck, Bool.false_eq_true, gq_leT, gq_leF, gq_ltT, gq_ltF, gq_eqT, gq_eqF, if_true, if_false, h1, b1, t1]
      · unfold f_X12_fits
        rw [gq_lte, gq_lit, a1, gq_bd, if_pos rfl]
        simp (disch := omega) only [Int.reduceToNat, gq_lit, gq_neg, gq_add, gq_sub, gq_mul, gq_nat, Int.toNat_natCast, gq_tadd, gq_tmul, gq_lte, gq_br, gq_bd, gq_ck, Bool.false_eq_true, gq_leT, gq_leF, gq_ltT, gq_ltF, gq_eqT, gq_eqF, if_true, if_false, t2]
    by_cases x4 : x < 10
    · refine fin (gq_I (-2)) ?_ ?_
      · unfold f_X11_fits
        simp (disch := omega) only [Int.reduceToNat, gq_lit, gq_neg, gq_add, gq_sub, gq_mul, gq_nat, Int.toNat_natCast, gq_tadd, gq_tmul, gq_lte, gq_br, gq_bd, gq_ck, Bool.false_eq_true, gq_leT, gq_leF, gq_ltT, gq_ltF, gq_eqT, gq_eqF, if_true, if_false, h1, b1]
      · unfold f_X12_fits
        rw [gq_lte, gq_lit, a1, gq_bd, if_pos rfl]
        simp (disch := omega) only [Int.reduceToNat, gq_lit, gq_neg, gq_add, gq_sub, gq_mul, gq_nat, Int.toNat_natCast, gq_tadd, gq_tmul, gq_lte, gq_br, gq_bd, gq_ck, Bool.false_eq_true, gq_leT, gq_leF, gq_ltT, gq_ltF, gq_eqT, gq_eqF, if_true, if_false]
    · rcases gl_codeAt (μ := μ') (κ := x - 10) og hφ b3 (by omega) with ⟨t1, t2⟩ | ⟨j, j1, j2, j3, j4⟩
      · rw [← hC] at t1
        refine fin (gq_I (-2)) ?_ ?_
        · unfold f_X11_fits
          simp (disch := omega) only [Int.reduceToNat, gq_lit, gq_neg, gq_add, gq_sub, gq_mul, gq_nat, Int.toNat_natCast, gq_tadd, gq_tmul, gq_lte, gq_br, gq_bd, gq_ck, gq_sub, Bool.false_eq_true, gq_leT, gq_leF, gq_ltT, gq_ltF, gq_eqT, gq_eqF, if_true, if_false, h1, b1, t2]
        · unfold f_X12_fits
          rw [gq_lte, gq_lit, a1, gq_bd, if_pos rfl]
          simp (disch := omega) only [Int.reduceToNat, gq_lit, gq_neg, gq_add, gq_sub, gq_mul, gq_nat, Int.toNat_natCast, gq_tadd, gq_tmul, gq_lte, gq_br, gq_bd, gq_ck, gq_sub, Bool.false_eq_true, gq_leT, gq_leF, gq_ltT, gq_ltF, gq_eqT, gq_eqF, if_true, if_false, m1]
      · have lt := gl_mono (φ := φ) (i := j + 1) (n := 1600) (by omega)
        rw [gl_cntT j2, ← hC] at lt
        have ej := a2.2 j j1 j2
        have ek : (x - 10).toNat = gm_cnt φ j := by omega
        refine fin (gq_I j) ?_ ?_
        · unfold f_X11_fits
          simp (disch := omega) only [Int.reduceToNat, gq_lit, gq_neg, gq_add, gq_sub, gq_mul, gq_nat, Int.toNat_natCast, gq_tadd, gq_tmul, gq_lte, gq_br, gq_bd, gq_ck, gq_sub, Bool.false_eq_true, gq_leT, gq_leF, gq_ltT, gq_ltF, gq_eqT, gq_eqF, if_true, if_false, h1, b1, j4]
        · unfold f_X12_fits
          rw [gq_lte, gq_lit, a1, gq_bd, if_pos rfl]
          simp (disch := omega) only [Int.reduceToNat, gq_lit, gq_neg, gq_add, gq_sub, gq_mul, gq_nat, Int.toNat_natCast, gq_tadd, gq_tmul, gq_lte, gq_br, gq_bd, gq_ck, gq_sub, Bool.false_eq_true, gq_leT, gq_leF, gq_ltT, gq_ltF, gq_eqT, gq_eqF, if_true, if_false, m1]
          rw [ek, ej]
theorem gq_e_span {μ : gx_M} (hI : gq_inv μ) (p1 p2 : Int32) : gq_st (f_X11_span p1 p2) (f_X12_span p1 p2) μ := by
  obtain ⟨z, hz, rfl⟩ := gq_ex p1
  obtain ⟨x, hx, rfl⟩ := gq_ex p2
  refine gq_two hI fun ν0 hν => ?_
  rcases gq_opG hI hz with ⟨h1, h2⟩ | ⟨y, g, φ, hy, rfl, og, hφ, hc, h1, h2⟩
  · obtain ⟨μ2, a1, a2⟩ := h2 ν0 hν
    refine ⟨gq_I (-1), μ, μ2, ?_, ?_, gq_sm_rf, a2⟩
    · unfold f_X11_span
      rw [h1]
      rfl
    · unfold f_X12_span
      rw [gq_lte, gq_lit, a1]
      rfl
  · obtain ⟨μ2, a1, a2, a3⟩ := h2 ν0 hν
    obtain ⟨μ', b1, b2, b3, b4⟩ := gl_look (a := 19 + 16 * y) (by omega) og hφ hc
    obtain ⟨e, e1, e2⟩ := gl_e hφ a2
    have C8 := gl_820 hφ
    obtain ⟨C, hC⟩ : ∃ C, C = gm_cnt φ 1600 := ⟨_, rfl⟩
    rw [← hC] at C8
    have hr : gl_row μ2 C e := ⟨by rw [hC]; exact a2.1, fun i hi => e1 i (by rw [← hC]; exact hi)⟩
    have fe : ∀ f b, gl_fe f e b C = gl_fo f φ b 1600 := fun f b => by rw [hC]; exact gl_fo_fe fun j hj hp => e2 j hj hp
    obtain ⟨s1, s2, s3, s4, s5, s6⟩ := b2
    rw [← hC] at s1
    have m1 : μ2.1 206 48 = gq_I C := hr.1
    have fin : ∀ r, f_X11_span (gq_I y) (gq_I x) μ = some (r, μ') → f_X12_span (gq_I y) (gq_I x) ν0 = some (r, μ2) → ∃ r μ' ν', f_X11_span (gq_I y) (gq_I x) μ = some (r, μ') ∧ f_X12_span (gq_I y) (gq_I x) ν0 = some (r, ν') ∧ gq_sm gq_Pc μ μ' ∧ gq_sm gq_Pm ν0 ν' := fun r t1 t2 => ⟨r, μ', μ2, t1, t2, b4, a3⟩
    by_cases c0 : C = 0
    · refine fin (gq_I (-1)) ?_ ?_
      · unfold f_X11_span
        simp (disch := omega) only [Int.reduceToNat, gq_lit, gq_neg, gq_add, gq_sub, gq_mul, gq_nat, Int.toNat_natCast, gq_tadd, gq_tmul, gq_lte, gq_br, gq_bd, gq_ck, Bool.false_eq_true, gq_leT, gq_leF, gq_ltT, gq_ltF, gq_eqT, gq_eqF, if_true, if_false, h1, b1, s1]
      · unfold f_X12_span
        rw [gq_lte, gq_lit, a1, gq_bd, if_pos rfl]
        simp (disch := omega) only [Int.reduceToNat, gq_lit, gq_neg, gq_add, gq_sub, gq_mul, gq_nat, Int.toNat_natCast, gq_tadd, gq_tmul, gq_lte, gq_br, gq_bd, gq_ck, Bool.false_eq_true, gq_leT, gq_leF, gq_ltT, gq_ltF, gq_eqT, gq_eqF, if_true, if_false, m1]
    by_cases g4 : 0 ≤ x ∧ x ≤ 3
    · have q1 := gl_s41 C8 hr (k := fun (x3_20 : Int32) (x4_21 : Int32) (μ22 : gx_M) => L_X12_span_106 (fun (x5_43 : Int32) (x6_44 : Int32) (μ45 : gx_M) => if gq_I x = gq_I 0 then some (x3_20, μ45) else if gq_I x = gq_I 1 then some (x4_21, μ45) else if gq_I x = gq_I 2 then some (x5_43, μ45) else some (x6_44, μ45)) 4000 (gq_I 0) (gq_I 0) (gq_I 0) μ22) C 4000 0 (by omega) (by omega)
      have q2 := gl_s106 C8 hr (k := fun (x5_43 : Int32) (x6_44 : Int32) (μ45 : gx_M) => if gq_I x = gq_I 0 then some (gq_I (gl_fe gl_mn e 1000000 C), μ45) else if gq_I x = gq_I 1 then some (gq_I (gl_fe gl_mx e 0 C), μ45) else if gq_I x = gq_I 2 then some (x5_43, μ45) else some (x6_44, μ45)) 40 4000 0 (by omega) (by omega)
      have q3 : f_X12_span (gq_I y) (gq_I x) ν0 = (fun (x5_43 : Int32) (x6_44 : Int32) (μ45 : gx_M) => if gq_I x = gq_I 0 then some (gq_I (gl_fe gl_mn e 1000000 C), μ45) else if gq_I x = gq_I 1 then some (gq_I (gl_fe gl_mx e 0 C), μ45) else if gq_I x = gq_I 2 then some (x5_43, μ45) else some (x6_44, μ45)) (gq_I (gm_cnt (fun m => decide (gl_fe (gl_ov m) e 0 C = (C : Nat))) 40 : Nat)) (gq_I (gm_cnt (fun m => decide (gl_fe (gl_ov m) e 0 C = 0)) 40 : Nat)) μ2 := by
        refine Eq.trans ?_ q2
        refine Eq.trans ?_ q1
        unfold f_X12_span
        rw [gq_lte, gq_lit, a1, gq_bd, if_pos rfl]
        simp (disch := omega) only [gq_lit, Bool.false_eq_true, gq_leT, gq_leF, gq_ltT, gq_ltF, gq_eqT, gq_eqF, if_true, if_false, gq_inT, m1]
        rfl
      have R : ∀ m, m < 40 → μ'.1 83 m = gq_I (gl_fe (gl_ov m) e 0 C) ∧ 0 ≤ gl_fe (gl_ov m) e 0 C ∧ gl_fe (gl_ov m) e 0 C ≤ 1600 := fun m hm => by
        have bd := gl_ov2 (m := m) (e := e) C
        exact ⟨by rw [fe]; exact s6 m hm, by omega, by omega⟩
      have n1 := gl_minIn (μ := μ') (R := fun m => gl_fe (gl_ov m) e 0 C) (t := (C : Nat)) (by omega) R
      have n2 := gl_minIn (μ := μ') (R := fun m => gl_fe (gl_ov m) e 0 C) (t := 0) (by omega) R
      have mn := (gl_mn2 (φ := φ) 1600 (by omega)).2 (by omega)
      rw [mn, ← fe] at s4
      rw [← fe] at s5
      by_cases x0 : x = 0
      · subst x0
        refine fin (gq_I (gl_fe gl_mn e 1000000 C)) ?_ (q3.trans ?_)
        · unfold f_X11_span
          simp (disch := omega) only [Int.reduceToNat, gq_lit, gq_neg, gq_add, gq_sub, gq_mul, gq_nat, Int.toNat_natCast, gq_tadd, gq_tmul, gq_lte, gq_br, gq_bd, gq_ck, Bool.false_eq_true, gq_leT, gq_leF, gq_ltT, gq_ltF, gq_eqT, gq_eqF, if_true, if_false, h1, b1, s1, s4]
        · exact if_pos rfl
      by_cases x1 : x = 1
      · subst x1
        refine fin (gq_I (gl_fe gl_mx e 0 C)) ?_ (q3.trans ?_)
        · unfold f_X11_span
          simp (disch := omega) only [Int.reduceToNat, gq_lit, gq_neg, gq_add, gq_sub, gq_mul, gq_nat, Int.toNat_natCast, gq_tadd, gq_tmul, gq_lte, gq_br, gq_bd, gq_ck, Bool.false_eq_true, gq_leT, gq_leF, gq_ltT, gq_ltF, gq_eqT, gq_eqF, if_true, if_false, h1, b1, s1, s5]
        · simp (disch := omega) only [Bool.false_eq_true, gq_leT, gq_leF, gq_ltT, gq_ltF, gq_eqT, gq_eqF, if_true, if_false]
      by_cases x2 : x = 2
      · subst x2
        refine fin (gq_I (gm_cnt (fun m => decide (gl_fe (gl_ov m) e 0 C = (C : Nat))) 40 : Nat)) ?_ (q3.trans ?_)
        · unfold f_X11_span
          simp (disch := omega) only [Int.reduceToNat, gq_lit, gq_neg, gq_add, gq_sub, gq_mul, gq_nat, Int.toNat_natCast, gq_tadd, gq_tmul, gq_lte, gq_br, gq_bd, gq_ck, Bool.false_eq_true, gq_leT, gq_leF, gq_ltT, gq_ltF, gq_eqT, gq_eqF, if_true, if_false, h1, b1, s1, n1]
        · simp (disch := omega) only [Bool.false_eq_true, gq_leT, gq_leF, gq_ltT, gq_ltF, gq_eqT, gq_eqF, if_true, if_false]
      · have x3 : x = 3 := by omega
        subst x3
        refine fin (gq_I (gm_cnt (fun m => decide (gl_fe (gl_ov m) e 0 C = 0)) 40 : Nat)) ?_ (q3.trans ?_)
        · unfold f_X11_span
          simp (disch := omega) only [Int.reduceToNat, gq_lit, gq_neg, gq_add, gq_sub, gq_mul, gq_nat, Int.toNat_natCast, gq_tadd, gq_tmul, gq_lte, gq_br, gq_bd, gq_ck, Bool.false_eq_true, gq_leT, gq_leF, gq_ltT, gq_ltF, gq_eqT, gq_eqF, if_true, if_false, h1, b1, s1, n2]
        · simp (disch := omega) only [Bool.false_eq_true, gq_leT, gq_leF, gq_ltT, gq_ltF, gq_eqT, gq_eqF, if_true, if_false]
    · refine fin (gq_I (-1)) ?_ ?_
      · unfold f_X11_span
        simp (disch := omega) only [Int.reduceToNat, gq_lit, gq_neg, gq_add, gq_sub, gq_mul, gq_nat, Int.toNat_natCast, gq_tadd, gq_tmul, gq_lte, gq_br, gq_bd, gq_ck, Bool.false_eq_true, gq_leT, gq_leF, gq_ltT, gq_ltF, gq_eqT, gq_eqF, if_true, if_false, h1, b1, s1]
      · unfold f_X12_span
        rw [gq_lte, gq_lit, a1, gq_bd, if_pos rfl]
        simp (disch := omega) only [Int.reduceToNat, gq_lit, gq_neg, gq_add, gq_sub, gq_mul, gq_nat, Int.toNat_natCast, gq_tadd, gq_tmul, gq_lte, gq_br, gq_bd, gq_ck, Bool.false_eq_true, gq_leT, gq_leF, gq_ltT, gq_ltF, gq_eqT, gq_eqF, if_true, if_false, m1, gq_inF]
