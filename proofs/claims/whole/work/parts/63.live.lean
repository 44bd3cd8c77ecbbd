/-! deeds one behind the other, on both sides -/
theorem gy_liveL {s y : Nat} {w Y : Nat → Int} (ok : gq_okS w) (oy : gq_okY Y) (hs : s < 2) (hy : y < 2) {P : Int} (hP : 0 ≤ P ∧ P ≤ Y 0) : ∀ (d f i : Nat) (μ ν : gx_M), d < f → (i : Int) + d = P → gy_R μ ν s w → gq_cY μ (16 + 16 * y) Y → ν.1 206 33 = gq_I y → gq_mY ν y Y → ∃ (r : Int) (μ' ν' : gx_M), (0 ≤ r ∧ r ≤ P) ∧ L_X3_live_8 (gq_I P) (16 + 16 * y) 40 (fun (μ16 : gx_M) => some (gq_I P, μ16)) f (gq_I i) μ = some (gq_I r, μ') ∧ L_X12_play_6 (gq_I P) (fun (x2_12 : Int32) (μ13 : gx_M) => some (x2_12, μ13)) f (gq_I i) ν = some (gq_I r, ν') ∧ gy_R μ' ν' s w ∧ gy_kc μ μ' ∧ gy_km ν ν'
  | _, 0, _, _, _, hf, _, _, _, _, _ => absurd hf (Nat.not_lt_zero _)
  | 0, f + 1, i, μ, ν, hf, hi, h, hc, h33, hm => by
    have o1 := oy.1
    refine ⟨P, μ, ν, by omega, ?_, ?_, h, gy_kc_r μ, gy_km_r ν⟩
    · rw [L_X3_live_8.eq_2]
      simp (disch := omega) only [Int.reduceToNat, gq_lit, gq_neg, gq_add, gq_sub, gq_mul, gq_nat, Int.toNat_natCast, gq_tadd, gq_tmul, gq_lte, gq_br, gq_bd, gq_ck, Bool.false_eq_true, gq_leT, gq_leF, gq_ltT, gq_ltF, gq_eqT, gq_eqF, if_true, if_false]
    · rw [L_X12_play_6.eq_2]
      simp (disch := omega) only [Int.reduceToNat, gq_lit, gq_neg, gq_add, gq_sub, gq_mul, gq_nat, Int.toNat_natCast, gq_tadd, gq_tmul, gq_lte, gq_br, gq_bd, gq_ck, Bool.false_eq_true, gq_leT, gq_leF, gq_ltT, gq_ltF, gq_eqT, gq_eqF, if_true, if_false]
      rw [show (i : Int) = P by omega]
  | d + 1, f + 1, i, μ, ν, hf, hi, h, hc, h33, hm => by
    have o1 := oy.1
    obtain ⟨o2, o3, o4, o5⟩ := oy.2 i (by omega)
    obtain ⟨q1, q2, q3, q4⟩ := hc.2 i (by omega)
    have ec : μ.1 (16 + 16 * y) 3 = gq_I (Y 0) := hc.1
    have g := gy_goes h ok (by omega) (k := Y (1 + 4 * i)) (a := Y (2 + 4 * i)) (b := Y (3 + 4 * i)) (c := Y (4 + 4 * i)) o2 (by omega) (by omega) (by omega)
    obtain ⟨r, μ1, ν1, g1, g2, g3, g4, g5⟩ := g
    have dd : f_X12_doesDeed (gq_I i) ν = some (r, ν1) := by
      have e1 := gq_deedOf h33 (by omega) hm (k := i) (x := 0) (by omega)
      have e2 := gq_deedOf h33 (by omega) hm (k := i) (x := 1) (by omega)
      have e3 := gq_deedOf h33 (by omega) hm (k := i) (x := 2) (by omega)
      have e4 := gq_deedOf h33 (by omega) hm (k := i) (x := 3) (by omega)
      rw [Int.toNat_natCast] at e1 e2 e3 e4
      rw [show 1 + 4 * i + (0 : Int).toNat = 1 + 4 * i from rfl] at e1
      rw [show 1 + 4 * i + (1 : Int).toNat = 2 + 4 * i by rw [show (1 : Int).toNat = 1 from rfl]; omega] at e2
      rw [show 1 + 4 * i + (2 : Int).toNat = 3 + 4 * i by rw [show (2 : Int).toNat = 2 from rfl]; omega] at e3
      rw [show 1 + 4 * i + (3 : Int).toNat = 4 + 4 * i by rw [show (3 : Int).toNat = 3 from rfl]; omega] at e4
      unfold f_X12_doesDeed
      simp only [gq_lit, e1, e2, e3, e4, gq_br]
      rw [g2]
      rfl
    have cg : gx_bd (f_X3_goes (μ.1 (16 + 16 * y + 1) i) (μ.1 (16 + 16 * y + 2) (3 * i + 0)) (μ.1 (16 + 16 * y + 2) (3 * i + 1)) (μ.1 (16 + 16 * y + 2) (3 * i + 2)) μ) (fun (r12 : Bool) (μ13 : gx_M) => if r12 = true then L_X3_live_8 (gq_I P) (16 + 16 * y) 40 (fun (μ16 : gx_M) => some (gq_I P, μ16)) f (gq_I (i + 1 : Nat)) μ13 else some (gq_I i, μ13)) = if r = true then L_X3_live_8 (gq_I P) (16 + 16 * y) 40 (fun (μ16 : gx_M) => some (gq_I P, μ16)) f (gq_I (i + 1 : Nat)) μ1 else some (gq_I i, μ1) := by
      rw [q1, show 3 * i + 0 = 3 * i from rfl, q2, q3, q4, show Y (1 + 4 * i) + 6 = 6 + Y (1 + 4 * i) by omega, g1]
      rfl
    cases r with
    | false =>
      refine ⟨i, μ1, ν1, by omega, ?_, ?_, g3, g4, g5⟩
      · rw [L_X3_live_8.eq_2, ec]
        simp (disch := omega) only [Int.reduceToNat, gq_lit, gq_neg, gq_add, gq_sub, gq_mul, gq_nat, Int.toNat_natCast, gq_tadd, gq_tmul, gq_lte, gq_br, gq_bd, gq_ck, Bool.false_eq_true, gq_leT, gq_leF, gq_ltT, gq_ltF, gq_eqT, gq_eqF, if_true, if_false, gq_numb]
        exact cg
      · rw [L_X12_play_6.eq_2]
        simp (disch := omega) only [Int.reduceToNat, gq_lit, gq_neg, gq_add, gq_sub, gq_mul, gq_nat, Int.toNat_natCast, gq_tadd, gq_tmul, gq_lte, gq_br, gq_bd, gq_ck, Bool.false_eq_true, gq_leT, gq_leF, gq_ltT, gq_ltF, gq_eqT, gq_eqF, if_true, if_false, dd]
    | true =>
      obtain ⟨r', μ', ν', b1, b2, b3, b4, b5, b6⟩ := gy_liveL ok oy hs hy hP d f (i + 1) μ1 ν1 (by omega) (by omega) g3 (gq_cY_sm hc fun j hj => g4.1 _ (by omega)) (by rw [g5.1 _ _ (by omega) (by omega)]; exact h33) (gq_mY_w hm (by funext j; exact g5.1 _ _ (by omega) (by omega)))
      refine ⟨r', μ', ν', b1, ?_, ?_, b4, gy_kc_tr g4 b5, gy_km_tr g5 b6⟩
      · rw [L_X3_live_8.eq_2, ec]
        simp (disch := omega) only [Int.reduceToNat, gq_lit, gq_neg, gq_add, gq_sub, gq_mul, gq_nat, Int.toNat_natCast, gq_tadd, gq_tmul, gq_lte, gq_br, gq_bd, gq_ck, Bool.false_eq_true, gq_leT, gq_leF, gq_ltT, gq_ltF, gq_eqT, gq_eqF, if_true, if_false, gq_numb]
        refine Eq.trans cg ?_
        rw [if_pos rfl]
        exact b2
      · rw [L_X12_play_6.eq_2]
        simp (disch := omega) only [Int.reduceToNat, gq_lit, gq_neg, gq_add, gq_sub, gq_mul, gq_nat, Int.toNat_natCast, gq_tadd, gq_tmul, gq_lte, gq_br, gq_bd, gq_ck, Bool.false_eq_true, gq_leT, gq_leF, gq_ltT, gq_ltF, gq_eqT, gq_eqF, if_true, if_false, dd]
        exact b3
theorem gy_live {s y : Nat} {w Y : Nat → Int} (ok : gq_okS w) (oy : gq_okY Y) (hs : s < 2) (hy : y < 2) {P : Int} (hP : 0 ≤ P ∧ P ≤ Y 0) {μ ν : gx_M} (hc : gq_cS μ (8 + 16 * s) w) (hh : gq_hd ν s w) (hcy : gq_cY μ (16 + 16 * y) Y) (h33 : ν.1 206 33 = gq_I y) (hm : gq_mY ν y Y) : ∃ (r : Int) (μ' ν' : gx_M), (0 ≤ r ∧ r ≤ P) ∧ f_X3_live (8 + 16 * s) (16 + 16 * y) 40 (gq_I P) μ = some (gq_I r, μ') ∧ f_X12_play (gq_I P) ν = some (gq_I r, ν') ∧ gy_R μ' ν' s w ∧ gy_kc μ μ' ∧ gy_km ν ν' := by
  obtain ⟨μ1, ν1, a1, a2, a3, a4, a5, _⟩ := gy_beg hs ok hc hh
  have o1 := oy.1
  obtain ⟨r, μ', ν', b1, b2, b3, b4, b5, b6⟩ := gy_liveL ok oy hs hy hP P.toNat 4000 0 μ1 ν1 (by omega) (by omega) a3 (gq_cY_sm hcy fun j hj => a4.1 _ (by omega)) (by rw [a5.1 _ _ (by omega) (by omega)]; exact h33) (gq_mY_w hm (by funext j; exact a5.1 _ _ (by omega) (by omega)))
  refine ⟨r, μ', ν', b1, ?_, ?_, b4, gy_kc_tr a4 b5, gy_km_tr a5 b6⟩
  · unfold f_X3_live
    rw [a1, gq_bd]
    exact b2
  · unfold f_X12_play
    rw [a2, gq_bd]
    exact b3
/-- what a play changes is nothing that is told -/
theorem gy_kc_sm {μ μ' : gx_M} (h : gy_kc μ μ') : gq_sm gq_Pc μ μ' := fun a ha => ⟨h.1 a (by unfold gq_Pc at ha; omega), by rw [h.2.1]⟩
theorem gy_km_sm {μ μ' : gx_M} (h : gy_km μ μ') : gq_sm gq_Pm μ μ' := fun a ha => ⟨by funext j; exact h.1 a j (by unfold gq_Pm at ha; omega) (by unfold gq_Pm at ha; omega), by rw [h.2]⟩
