/-! all of a Told -/
def gq_far (a0 a1 : Nat) : Prop := a0 + 38 < a1 ∨ a1 + 38 < a0
theorem gq_copyR {a0 a1 v : Nat} {μ : gx_M} (hv : v < 2) (h : gq_far a0 a1) (hy0 : gq_ln μ (a0 + 15 + 16 * v) 40) (hy1 : gq_ln μ (a1 + 15 + 16 * v) 40) (hg0 : gq_ln μ (a0 + 18 + 16 * v) 8) (hg1 : gq_ln μ (a1 + 18 + 16 * v) 8) {k : gx_M → Option (Unit × gx_M)} {f : Nat} : ∃ μ', L_X9_copyFrom_2 a0 a1 k (f + 1) (gq_I v) μ = L_X9_copyFrom_2 a0 a1 k f (gq_I (v + 1 : Nat)) μ' ∧ (gq_ln μ' (a0 + 15 + 16 * v) 40 ∧ gq_ln μ' (a0 + 18 + 16 * v) 8) ∧ (∀ w : Nat → Int, w 2 ≤ 6 → gq_cS μ (a1 + 7 + 16 * v) w → gq_cS μ' (a0 + 7 + 16 * v) w) ∧ (∀ y : Nat → Int, 0 ≤ y 0 ∧ y 0 ≤ 40 → gq_cY μ (a1 + 15 + 16 * v) y → gq_cY μ' (a0 + 15 + 16 * v) y) ∧ (∀ y : Nat → Int, 0 ≤ y 0 ∧ y 0 ≤ 8 → gq_cG μ (a1 + 18 + 16 * v) y → gq_cG μ' (a0 + 18 + 16 * v) y) ∧ (∀ w : Nat → Int, gq_cV μ (a1 + 21 + 16 * v) w → gq_cV μ' (a0 + 21 + 16 * v) w) ∧ (∀ a j, ¬ (a0 + 7 + 16 * v ≤ a ∧ a ≤ a0 + 22 + 16 * v) → μ'.1 a j = μ.1 a j) ∧ μ'.2 = μ.2 := by
  unfold gq_far at h
  obtain ⟨μ1, e1, s1, f1, t1⟩ := gq_copyS (a0 := a0 + 7 + 16 * v) (a1 := a1 + 7 + 16 * v) (μ := μ) (by omega)
  obtain ⟨μ2, e2, l2, n2, y2, z2, f2, t2⟩ := gq_copyL (a0 := a0 + 15 + 16 * v) (a1 := a1 + 15 + 16 * v) (n := 40) (μ := μ1) (by omega) (by omega) (gq_ln_w hy0 fun j => f1 _ _ (by omega)) (gq_ln_w hy1 fun j => f1 _ _ (by omega))
  obtain ⟨μ3, e3, l3, n3, y3, z3, f3, t3⟩ := gq_copyL (a0 := a0 + 18 + 16 * v) (a1 := a1 + 18 + 16 * v) (n := 8) (μ := μ2) (by omega) (by omega) (gq_ln_w hg0 fun j => by rw [f2 _ _ (by omega), f1 _ _ (by omega)]) (gq_ln_w hg1 fun j => by rw [f2 _ _ (by omega), f1 _ _ (by omega)])
  obtain ⟨μ4, e4, v4, f4, t4⟩ := gq_copyV (a0 := a0 + 21 + 16 * v) (a1 := a1 + 21 + 16 * v) (μ := μ3) (by omega)
  refine ⟨μ4, ?_, ⟨gq_ln_w l2 fun j => by rw [f4 _ _ (by omega), f3 _ _ (by omega)], gq_ln_w l3 fun j => by rw [f4 _ _ (by omega)]⟩, fun w hw hc => ?_, fun y hy hc => ?_, fun y hy hc => ?_, fun w hc => ?_, fun a j ha => ?_, ?_⟩
  · rw [L_X9_copyFrom_2.eq_2]
    have z0 : (gq_I (v : Int)).toNatClampNeg = v := by rw [gq_nat (by omega)]; rfl
    simp (disch := omega) only [gq_lit, gq_lte, gq_ck, z0, e1, e2, e3, e4, gq_bd, gq_leF, if_false, gq_add]
    rfl
  · refine gq_cS_sm (s1 w hw hc) fun i hi => ?_
    funext j
    rw [f4 _ _ (by omega), f3 _ _ (by omega), f2 _ _ (by omega)]
  · have g : gq_cY μ1 (a1 + 15 + 16 * v) y := gq_cY_sm hc fun i hi => by funext j; exact f1 _ _ (by omega)
    obtain ⟨g1, g2⟩ := g
    have h3 : μ1.1 (a1 + 15 + 16 * v) 3 = gq_I (y 0).toNat := by rw [Int.toNat_of_nonneg hy.1]; exact g1
    have hh : gq_cY μ2 (a0 + 15 + 16 * v) y := by
      refine ⟨by rw [n2]; exact g1, fun k hk => ?_⟩
      rw [y2 _ h3 k (by omega) (by omega), z2 _ h3 _ (by omega) (by omega), z2 _ h3 _ (by omega) (by omega), z2 _ h3 _ (by omega) (by omega)]
      exact g2 k hk
    refine gq_cY_sm hh fun i hi => ?_
    funext j
    rw [f4 _ _ (by omega), f3 _ _ (by omega)]
  · have g : gq_cG μ2 (a1 + 18 + 16 * v) y := gq_cG_sm hc fun i hi => by funext j; rw [f2 _ _ (by omega), f1 _ _ (by omega)]
    obtain ⟨g1, g2⟩ := g
    have h3 : μ2.1 (a1 + 18 + 16 * v) 3 = gq_I (y 0).toNat := by rw [Int.toNat_of_nonneg hy.1]; exact g1
    have hh : gq_cG μ3 (a0 + 18 + 16 * v) y := by
      refine ⟨by rw [n3]; exact g1, fun k hk => ?_⟩
      rw [y3 _ h3 k (by omega) (by omega), z3 _ h3 _ (by omega) (by omega)]
      exact g2 k hk
    refine gq_cG_sm hh fun i hi => ?_
    funext j
    rw [f4 _ _ (by omega)]
  · exact v4 w (gq_cV_sm hc fun i hi => by funext j; rw [f3 _ _ (by omega), f2 _ _ (by omega), f1 _ _ (by omega)])
  · rw [f4 _ _ (by omega), f3 _ _ (by omega), f2 _ _ (by omega), f1 _ _ (by omega)]
  · rw [t4, t3, t2, t1]
theorem gq_copyT {a0 a1 : Nat} {μ : gx_M} {tp : Nat → Int32} {n : Nat} {f p : Int32} {N : Nat → Nat} {W Y G V : Nat → Nat → Int} (h : gq_far a0 a1) (ok : gq_okT tp n N W Y G V) (hc : gq_cT μ a1 tp n f p N W Y G V) (h0 : ∀ s, s < 2 → gq_ln μ (a0 + 15 + 16 * s) 40 ∧ gq_ln μ (a0 + 18 + 16 * s) 8) (h1 : ∀ s, s < 2 → gq_ln μ (a1 + 15 + 16 * s) 40 ∧ gq_ln μ (a1 + 18 + 16 * s) 8) : ∃ μ', f_X9_copyFrom a0 a1 μ = some ((), μ') ∧ gq_cT μ' a0 tp n f p N W Y G V ∧ (∀ s, s < 2 → gq_ln μ' (a0 + 15 + 16 * s) 40 ∧ gq_ln μ' (a0 + 18 + 16 * s) 8) ∧ (∀ a j, ¬ (a0 ≤ a ∧ a ≤ a0 + 38) → μ'.1 a j = μ.1 a j) ∧ μ'.2 = μ.2 := by
  have hf := h
  unfold gq_far at hf
  obtain ⟨K, hK⟩ : ∃ K : gx_M → Option (Unit × gx_M), K = (fun (μ23 : gx_M) => gx_ck (gx_cpk 0 0 4 4 4 = true) (gx_lt (gx_cp μ23 (a1 + 1) (a0 + 1) ((0 : Int32).toNatClampNeg) ((0 : Int32).toNatClampNeg) ((4 : Int32).toNatClampNeg)) (fun (μ25 : gx_M) => gx_ck (gx_cpk 0 0 600 600 600 = true) (gx_ck (gx_fitB μ25 (a1 + 6) ((0 : Int32).toNatClampNeg) ((600 : Int32).toNatClampNeg) = true) (gx_lt (gx_cp μ25 (a1 + 6) (a0 + 6) ((0 : Int32).toNatClampNeg) ((0 : Int32).toNatClampNeg) ((600 : Int32).toNatClampNeg)) (fun (μ28 : gx_M) => gx_lt (gx_uI μ28 a0 6 (μ28.1 a1 6)) (fun (μ29 : gx_M) => gx_lt (gx_uI μ29 a0 7 (μ29.1 a1 7)) (fun (μ30 : gx_M) => gx_lt (gx_uI μ30 a0 8 (μ30.1 a1 8)) (fun (μ31 : gx_M) => some ((), μ31)))))))))) := ⟨_, rfl⟩
  obtain ⟨μ1, e1, l1, s1, y1, g1, v1, f1, t1⟩ := gq_copyR (a0 := a0) (a1 := a1) (v := 0) (μ := μ) (k := K) (f := 3999) (by omega) h (h0 0 (by omega)).1 (h1 0 (by omega)).1 (h0 0 (by omega)).2 (h1 0 (by omega)).2
  obtain ⟨μ2, e2, l2, s2, y2, g2, v2, f2, t2⟩ := gq_copyR (a0 := a0) (a1 := a1) (v := 1) (μ := μ1) (k := K) (f := 3998) (by omega) h (gq_ln_w (h0 1 (by omega)).1 fun j => f1 _ _ (by omega)) (gq_ln_w (h1 1 (by omega)).1 fun j => f1 _ _ (by omega)) (gq_ln_w (h0 1 (by omega)).2 fun j => f1 _ _ (by omega)) (gq_ln_w (h1 1 (by omega)).2 fun j => f1 _ _ (by omega))
  obtain ⟨c1, c2, c3, c4, c5, c6, c7⟩ := hc
  obtain ⟨o1, o2, o3, o4, o5, o6, o7⟩ := ok
  have F : ∀ a j, ¬ (a0 + 7 ≤ a ∧ a ≤ a0 + 38) → μ2.1 a j = μ.1 a j := fun a j ha => by
    rw [f2 _ _ (by omega), f1 _ _ (by omega)]
  obtain ⟨μ3, e3⟩ : ∃ μ3, μ3 = gx_cp (gx_cp μ2 (a1 + 1) (a0 + 1) 0 0 4) (a1 + 6) (a0 + 6) 0 0 600 := ⟨_, rfl⟩
  have F3 : ∀ a j, ¬ (a = a0 + 1) → ¬ (a = a0 + 6) → μ3.1 a j = μ2.1 a j := fun a j ha hb => by
    rw [e3, gq_cpo (by omega), gq_cpo (by omega)]
  obtain ⟨μ4, e4⟩ : ∃ μ4, μ4 = gx_uI (gx_uI (gx_uI μ3 a0 6 (gq_I n)) a0 7 f) a0 8 p := ⟨_, rfl⟩
  have F4 : ∀ a j, ¬ (a = a0) → μ4.1 a j = μ3.1 a j := fun a j ha => by
    rw [e4]; simp (disch := omega) only [gq_uI1, gq_uI2, gq_uL1, gq_uL2, gq_ifF]
  have n0 := o3 0 (by omega)
  have n1 := o3 1 (by omega)
  have n2 := o3 2 (by omega)
  have n3 := o3 3 (by omega)
  have L : ∀ s, s < 2 → gq_ln μ2 (a0 + 15 + 16 * s) 40 ∧ gq_ln μ2 (a0 + 18 + 16 * s) 8 := fun s hs => by
    rcases (show s = 0 ∨ s = 1 by omega) with rfl | rfl
    · exact ⟨gq_ln_w l1.1 fun j => f2 _ _ (by omega), gq_ln_w l1.2 fun j => f2 _ _ (by omega)⟩
    · exact l2
  refine ⟨μ4, ?_, ⟨fun k hk => ?_, ⟨?_, ?_, ?_⟩, fun q hq => ?_, fun s hs => ?_, fun s hs => ?_, fun s hs => ?_, fun s hs => ?_⟩, fun s hs => ?_, fun a j ha => ?_, ?_⟩
  · unfold f_X9_copyFrom
    rw [← hK, show (0 : Int32) = gq_I ((0 : Nat) : Int) from gq_lit 0, e1, e2, L_X9_copyFrom_2.eq_2]
    have hB : gx_fitB (gx_cp μ2 (a1 + 1) (a0 + 1) 0 0 4) (a1 + 6) 0 600 = true := gq_fitB fun k hk => by
      rw [gq_cpo (by omega), F _ _ (by omega), c1 k hk]
      exact o2 k hk
    have u1 : μ3.1 a1 6 = gq_I n := by rw [F3 _ _ (by omega) (by omega), F _ _ (by omega)]; exact c2.1
    have u2 : (gx_uI μ3 a0 6 (gq_I n)).1 a1 7 = f := by rw [gq_uI1, if_neg (by omega), F3 _ _ (by omega) (by omega), F _ _ (by omega)]; exact c2.2.1
    have u3 : (gx_uI (gx_uI μ3 a0 6 (gq_I n)) a0 7 f).1 a1 8 = p := by rw [gq_uI1, if_neg (by omega), gq_uI1, if_neg (by omega), F3 _ _ (by omega) (by omega), F _ _ (by omega)]; exact c2.2.2
    rw [hK]
    simp (disch := omega) only [Int.reduceToNat, gq_lit, gq_neg, gq_add, gq_sub, gq_mul, gq_nat, Int.toNat_natCast, gq_tadd, gq_tmul, gq_lte, gq_br, gq_bd, gq_ck, gq_leT, gq_leF, gq_ltT, gq_ltF, gq_eqT, gq_eqF, if_true, if_false, gq_ckp, gq_ckT, hB]
    rw [← e3, u1, u2, u3, ← e4]
  · rw [F4 _ _ (by omega), e3, gq_cpi hk, gq_cpo (by omega), F _ _ (by omega)]; exact c1 k hk
  · rw [e4]; simp (disch := omega) only [gq_uI1, gq_uI2, gq_uL1, gq_uL2, gq_ifF, Nat.reduceEqDiff, false_and, and_false, and_true, true_and, if_true, if_false]
  · rw [e4]; simp (disch := omega) only [gq_uI1, gq_uI2, gq_uL1, gq_uL2, gq_ifF, Nat.reduceEqDiff, false_and, and_false, and_true, true_and, if_true, if_false]
  · rw [e4]; simp (disch := omega) only [gq_uI1, gq_uI2, gq_uL1, gq_uL2, gq_ifF, Nat.reduceEqDiff, false_and, and_false, and_true, true_and, if_true, if_false]
  · rw [F4 _ _ (by omega), e3, gq_cpo (by omega), gq_cpi hq, F _ _ (by omega)]; exact c3 q hq
  · have hh : gq_cS μ2 (a0 + 7 + 16 * s) (W s) := by
      have o := o4 s hs
      rcases (show s = 0 ∨ s = 1 by omega) with rfl | rfl
      · exact gq_cS_sm (s1 _ o.2.2.1.2 (c4 0 hs)) fun i hi => by funext j; exact f2 _ _ (by omega)
      · exact s2 _ o.2.2.1.2 (gq_cS_sm (c4 1 hs) fun i hi => by funext j; exact f1 _ _ (by omega))
    exact gq_cS_sm hh fun i hi => by funext j; rw [F4 _ _ (by omega), F3 _ _ (by omega) (by omega)]
  · have hh : gq_cY μ2 (a0 + 15 + 16 * s) (Y s) := by
      have o := o5 s hs
      rcases (show s = 0 ∨ s = 1 by omega) with rfl | rfl
      · exact gq_cY_sm (y1 _ o.1 (c5 0 hs)) fun i hi => by funext j; exact f2 _ _ (by omega)
      · exact y2 _ o.1 (gq_cY_sm (c5 1 hs) fun i hi => by funext j; exact f1 _ _ (by omega))
    exact gq_cY_sm hh fun i hi => by funext j; rw [F4 _ _ (by omega), F3 _ _ (by omega) (by omega)]
  · have hh : gq_cG μ2 (a0 + 18 + 16 * s) (G s) := by
      have o := o6 s hs
      rcases (show s = 0 ∨ s = 1 by omega) with rfl | rfl
      · exact gq_cG_sm (g1 _ o.1 (c6 0 hs)) fun i hi => by funext j; exact f2 _ _ (by omega)
      · exact g2 _ o.1 (gq_cG_sm (c6 1 hs) fun i hi => by funext j; exact f1 _ _ (by omega))
    exact gq_cG_sm hh fun i hi => by funext j; rw [F4 _ _ (by omega), F3 _ _ (by omega) (by omega)]
  · have hh : gq_cV μ2 (a0 + 21 + 16 * s) (V s) := by
      rcases (show s = 0 ∨ s = 1 by omega) with rfl | rfl
      · exact gq_cV_sm (v1 _ (c7 0 hs)) fun i hi => by funext j; exact f2 _ _ (by omega)
      · exact v2 _ (gq_cV_sm (c7 1 hs) fun i hi => by funext j; exact f1 _ _ (by omega))
    exact gq_cV_sm hh fun i hi => by funext j; rw [F4 _ _ (by omega), F3 _ _ (by omega) (by omega)]
  · exact ⟨gq_ln_w (L s hs).1 fun j => by rw [F4 _ _ (by omega), F3 _ _ (by omega) (by omega)], gq_ln_w (L s hs).2 fun j => by rw [F4 _ _ (by omega), F3 _ _ (by omega) (by omega)]⟩
  · rw [F4 _ _ (by omega), F3 _ _ (by omega) (by omega), F _ _ (by omega)]
  · rw [e4, gq_uI2, gq_uI2, gq_uI2, e3, gq_cp2, gq_cp2, t2, t1]
