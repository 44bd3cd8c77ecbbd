/-! text -/
theorem gp_cT3 {μ ν : gx_M} {tp : Nat → Int32} {n n' : Nat} {f p f' p' : Int32} {N : Nat → Nat} {W Y G V : Nat → Nat → Int} (hN : ∀ q, q < 4 → N q ≤ 2) (h : gq_cT μ 1 tp n f p N W Y G V) (e6 : ν.1 1 6 = gq_I n') (e7 : ν.1 1 7 = f') (e8 : ν.1 1 8 = p') (e : ∀ a j, 2 ≤ a → a ≤ 39 → ν.1 a j = μ.1 a j) : gq_cT ν 1 tp n' f' p' N W Y G V := by
  obtain ⟨a1, a2, a3, a4, a5, a6, a7⟩ := h
  have n0 := hN 0 (by omega)
  have n1 := hN 1 (by omega)
  have n2 := hN 2 (by omega)
  have n3 := hN 3 (by omega)
  refine ⟨fun k hk => ?_, ⟨e6, e7, e8⟩, fun q hq => ?_, fun s hs => gq_cS_sm (a4 s hs) fun i hi => ?_, fun s hs => gq_cY_sm (a5 s hs) fun i hi => ?_, fun s hs => gq_cG_sm (a6 s hs) fun i hi => ?_, fun s hs => gq_cV_sm (a7 s hs) fun i hi => ?_⟩
  · rw [e _ _ (by omega) (by omega)]; exact a1 k hk
  · rw [e _ _ (by omega) (by omega)]; exact a3 q hq
  all_goals
    funext j
    exact e _ _ (by omega) (by omega)
theorem gp_mT3 {μ ν : gx_M} {tp : Nat → Int32} {n n' : Nat} {f p f' p' : Int32} {N : Nat → Nat} {W Y G V : Nat → Nat → Int} (h : gq_mT μ 0 tp n f p N W Y G V) (e6 : ν.1 208 0 = gq_I n') (e7 : ν.1 209 0 = f') (e8 : ν.1 210 0 = p') (e : ∀ a j, a = 207 ∨ (211 ≤ a ∧ a ≤ 215) → ν.1 a j = μ.1 a j) : gq_mT ν 0 tp n' f' p' N W Y G V := by
  obtain ⟨m1, m2, m3, m4, m5, m6, m7⟩ := h
  refine ⟨fun k hk => ?_, ⟨e6, e7, e8⟩, fun q hq => ?_, fun s hs j hj => ?_, fun s hs j hj => ?_, fun s hs j hj => ?_, fun s hs j hj => ?_⟩
  · rw [e _ _ (by omega)]; exact m1 k hk
  · rw [e _ _ (by omega)]; exact m3 q hq
  · rw [e _ _ (by omega)]; exact m4 s hs j hj
  · rw [e _ _ (by omega)]; exact m5 s hs j hj
  · rw [e _ _ (by omega)]; exact m6 s hs j hj
  · rw [e _ _ (by omega)]; exact m7 s hs j hj
/-- what a text() leaves -/
def gp_tx (μ ν0 : gx_M) (A B : Option (Int32 × gx_M)) : Prop := ∃ (r : Int32) (μc νm : gx_M), A = some (r, μc) ∧ B = some (r, νm) ∧ (∃ (tp : Nat → Int32) (n : Nat) (f p : Int32) (N : Nat → Nat) (W Y G V : Nat → Nat → Int), gq_okT tp n N W Y G V ∧ gq_cT μc 1 tp n f p N W Y G V ∧ gq_mT νm 0 tp n f p N W Y G V) ∧ (∀ s, s < 2 → gq_ln μc (16 + 16 * s) 40 ∧ gq_ln μc (19 + 16 * s) 8) ∧ (gq_ln μc 53 40 ∧ gq_ln μc 56 8) ∧ gq_rd νm ∧ (∀ a j, ¬ (1 ≤ a ∧ a ≤ 39) → ¬ (42 ≤ a ∧ a ≤ 61) → μc.1 a j = μ.1 a j) ∧ (∀ a j, ¬ (a = 206 ∨ a = 216 ∨ a = 217) → ¬ gq_im 0 a j → νm.1 a j = ν0.1 a j)
set_option maxHeartbeats 4000000 in
theorem gp_text {μ ν0 : gx_M} (hI : gq_inv μ) (e0 : ∀ a j, 206 ≤ a → ν0.1 a j = μ.1 a j) (p1 p2 : Int32) : gp_tx μ ν0 (f_X11_text p1 p2 μ) (f_X12_text p1 p2 ν0) := by
  obtain ⟨z, hz, rfl⟩ := gq_ex p1
  obtain ⟨a, ha, rfl⟩ := gq_ex p2
  obtain ⟨⟨tp, n, f, q, N, W, Y, G, V, ok, hc, hm⟩, hK, hmost⟩ := hI
  rw [gq_ad_0] at hc
  have hn := ok.1
  have L0 : ∀ s, s < 2 → gq_ln μ (16 + 16 * s) 40 ∧ gq_ln μ (19 + 16 * s) 8 := fun s hs => by
    have := hmost.1 0 (by omega) s hs
    rw [gq_ad_0, show 1 + 15 + 16 * s = 16 + 16 * s by omega, show 1 + 18 + 16 * s = 19 + 16 * s by omega] at this
    exact this
  obtain ⟨νp, eν⟩ : ∃ νp, νp = gx_uI (gx_uI (gx_uI (gx_uI (gx_uI ν0 206 0 (gq_I 0)) 206 11 (gq_I n)) 208 0 (gq_I 0)) 209 0 (gq_I 0)) 210 0 (gq_I (-1)) := ⟨_, rfl⟩
  have Fp : ∀ a j, ¬ (a = 206 ∧ (j = 0 ∨ j = 11)) → ¬ ((a = 208 ∨ a = 209 ∨ a = 210) ∧ j = 0) → νp.1 a j = ν0.1 a j := fun a j h1 h2 => by
    rw [eν]; simp (disch := omega) only [gq_uI1, gq_ifF]
  have hm0 : gq_mT ν0 0 tp n f q N W Y G V := gq_mT_sm hm fun i h1 h2 => by funext j; exact e0 _ _ (by omega)
  have l208 : (gx_uI ν0 206 0 (gq_I 0)).1 208 0 = gq_I n := by rw [gq_uI1, if_neg (by omega)]; exact hm0.2.1.1
  have rd0 : gq_rd νp := gq_rd_w hmost.2.2.2 fun j => by rw [Fp _ _ (by omega) (by omega), e0 _ _ (by omega)]
  have p8 : νp.1 208 0 = gq_I 0 ∧ νp.1 209 0 = gq_I 0 ∧ νp.1 210 0 = gq_I (-1) := by
    rw [eν]
    simp only [gq_uI1, gq_uI2, gq_uL1, gq_uL2, Nat.reduceEqDiff, false_and, and_false, and_true, true_and, if_true, if_false, and_self]
  have mTp : gq_mT νp 0 tp 0 (gq_I 0) (gq_I (-1)) N W Y G V := gp_mT3 hm0 p8.1 p8.2.1 p8.2.2 fun a j h => Fp _ _ (by omega) (by omega)
  -- none such
  have none : f_X11_text (gq_I z) (gq_I a) μ = some (gq_I (-2), gx_uI (gx_uI (gx_uI μ 1 6 (gq_I 0)) 1 7 (gq_I 0)) 1 8 (gq_I (-1))) → f_X12_text (gq_I z) (gq_I a) ν0 = some (gq_I (-2), νp) → gp_tx μ ν0 (f_X11_text (gq_I z) (gq_I a) μ) (f_X12_text (gq_I z) (gq_I a) ν0) := by
    intro h1 h2
    refine ⟨_, _, _, h1, h2, ⟨tp, 0, gq_I 0, gq_I (-1), N, W, Y, G, V, ⟨by omega, ok.2⟩, gp_cT3 ok.2.2.1 hc ?_ ?_ ?_ (fun a j g1 g2 => ?_), mTp⟩, fun s hs => ⟨gq_ln_w (L0 s hs).1 fun j => ?_, gq_ln_w (L0 s hs).2 fun j => ?_⟩, ⟨gq_ln_w hmost.2.1 fun j => ?_, gq_ln_w hmost.2.2.1 fun j => ?_⟩, rd0, fun a j g1 g2 => ?_, fun a j g1 g2 => ?_⟩
    · simp only [gq_uI1, gq_uI2, gq_uL1, gq_uL2, Nat.reduceEqDiff, false_and, and_false, and_true, true_and, if_true, if_false]; rfl
    · simp only [gq_uI1, gq_uI2, gq_uL1, gq_uL2, Nat.reduceEqDiff, false_and, and_false, and_true, true_and, if_true, if_false]
    · simp only [gq_uI1, gq_uI2, gq_uL1, gq_uL2, Nat.reduceEqDiff, false_and, and_false, and_true, true_and, if_true, if_false]
    · simp (disch := omega) only [gq_uI1, gq_ifF]
    · simp (disch := omega) only [gq_uI1, gq_ifF]
    · simp (disch := omega) only [gq_uI1, gq_ifF]
    · simp (disch := omega) only [gq_uI1, gq_ifF]
    · simp (disch := omega) only [gq_uI1, gq_ifF]
    · simp (disch := omega) only [gq_uI1, gq_ifF]
    · unfold gq_im at g2
      exact Fp _ _ (by omega) (by omega)
  by_cases hs : 0 ≤ z ∧ z ≤ 3
  · obtain ⟨of, rfl⟩ : ∃ of : Nat, z = of := ⟨z.toNat, by omega⟩
    have ho : of < 4 := by omega
    have nof := ok.2.2.1 of ho
    have c1 : μ.1 2 of = gq_I (N of) := hc.2.2.1 of ho
    have m1 : νp.1 211 of = gq_I (N of) := by
      have := mTp.2.2.1 of ho
      rw [show 4 * 0 + of = of by omega] at this
      exact this
    have his := gq_is (μ := νp) (q := of) (z := a) ha ho nof m1
    by_cases hp : (a = -1 ∧ N of < 2) ∨ (0 ≤ a ∧ a < N of)
    · obtain ⟨k, hk, M, hM, hka, hM2, hkN⟩ : ∃ k : Nat, k < 2 ∧ ∃ M : Nat, (M = if N of < k + 1 then k + 1 else N of) ∧ (k : Int) = (if a = -1 then (N of : Int) else a) ∧ (M : Int) = N of + (if a = -1 then 1 else 0) ∧ k ≤ N of := by
        rcases hp with ⟨h1, h2⟩ | ⟨h1, h2⟩
        · exact ⟨N of, by omega, N of + 1, by rw [if_pos (by omega)], by rw [if_pos h1], by rw [if_pos h1]; omega, by omega⟩
        · exact ⟨a.toNat, by omega, N of, by rw [if_neg (by omega)], by rw [if_neg (by omega)]; omega, by rw [if_neg (by omega)]; omega, by omega⟩
      have pf : f_X11_placeFor (gq_I of) (gq_I a) μ = some (gq_I k) := by
        unfold f_X11_placeFor
        rw [hka]
        rcases hp with ⟨h1, h2⟩ | ⟨h1, h2⟩
        · rw [if_pos h1]
          simp (disch := omega) only [Int.reduceToNat, gq_lit, gq_neg, gq_add, gq_sub, gq_mul, gq_nat, Int.toNat_natCast, gq_tadd, gq_tmul, gq_lte, gq_br, gq_bd, gq_ck, Bool.false_eq_true, gq_leT, gq_leF, gq_ltT, gq_ltF, gq_eqT, gq_eqF, if_true, if_false, c1]
        · have h3 : ¬ a = -1 := by omega
          rw [if_neg h3]
          simp (disch := omega) only [Int.reduceToNat, gq_lit, gq_neg, gq_add, gq_sub, gq_mul, gq_nat, Int.toNat_natCast, gq_tadd, gq_tmul, gq_lte, gq_br, gq_bd, gq_ck, Bool.false_eq_true, gq_leT, gq_leF, gq_ltT, gq_ltF, gq_eqT, gq_eqF, if_true, if_false, c1]
      obtain ⟨t, et⟩ : ∃ t : Nat → Int, t = fun k => (tp k).toInt := ⟨_, rfl⟩
      have okt : gt_okt t := fun k hk => by
        have h := ok.2.1 k hk
        have h2 : (decide (-128 ≤ tp k) && decide (tp k ≤ 127)) = true := h
        rw [Bool.and_eq_true, decide_eq_true_iff, decide_eq_true_iff, Int32.le_iff_toInt_le, Int32.le_iff_toInt_le] at h2
        have e1 : (-128 : Int32).toInt = -128 := rfl
        have e2 : (127 : Int32).toInt = 127 := rfl
        rw [et]
        show -128 ≤ (tp k).toInt ∧ (tp k).toInt ≤ 127
        omega
      have tk : ∀ k, gq_I (t k) = tp k := fun k => by rw [et]; exact gq_of _
      obtain ⟨μr, νr, b, F, P, r1, r2, ⟨r3, r4, r5, r6, r7, r8⟩, r9, r10, r11, r12, r13⟩ := gp_readB (t := t) (len := n) (μ := μ) (ν := νp) ho okt hn (fun k hk => by rw [tk]; exact hc.1 k hk) hc.2.1.1 (fun k hk => by
          have := mTp.1 k hk
          rw [show 600 * 0 + k = k by omega] at this
          rw [tk]; exact this) (by rw [eν]; simp only [gq_uI1, gq_uI2, gq_uL1, gq_uL2, Nat.reduceEqDiff, false_and, and_false, and_true, true_and, if_true, if_false]) (fun k hk => by rw [show μ.1 7 k = tp k from hc.1 k hk]; exact ok.2.1 k hk) hmost.2.1 hmost.2.2.1 rd0
      obtain ⟨μ7, e7⟩ : ∃ μ7, μ7 = gx_uI (gx_uI (gx_uI μr 1 6 (gq_I 0)) 1 7 (gq_I F)) 1 8 (gq_I P) := ⟨_, rfl⟩
      have F7 : ∀ a j, ¬ (a = 1 ∧ 6 ≤ j ∧ j ≤ 8) → μ7.1 a j = μr.1 a j := fun a j h => by
        rw [e7]; simp (disch := omega) only [gq_uI1, gq_ifF]
      have c7 : gq_cT μ7 1 tp 0 (gq_I F) (gq_I P) N W Y G V := gp_cT3 ok.2.2.1 hc (by rw [e7]; simp only [gq_uI1, gq_uI2, gq_uL1, gq_uL2, Nat.reduceEqDiff, false_and, and_false, and_true, true_and, if_true, if_false]; rfl) (by rw [e7]; simp only [gq_uI1, gq_uI2, gq_uL1, gq_uL2, Nat.reduceEqDiff, false_and, and_false, and_true, true_and, if_true, if_false]) (by rw [e7]; simp only [gq_uI1, gq_uI2, gq_uL1, gq_uL2, Nat.reduceEqDiff, false_and, and_false, and_true, true_and, if_true, if_false]) fun a j g1 g2 => by rw [F7 _ _ (by omega), r10.1 _ _ (by omega)]
      have m7 : gq_mT νr 0 tp 0 (gq_I F) (gq_I P) N W Y G V := gp_mT3 mTp (by rw [r11 _ _ (by omega) (by omega) (by omega)]; exact p8.1) r5 r6 fun a j g => r11 _ _ (by omega) (by omega) (by omega)
      have L7 : ∀ s, s < 2 → gq_ln μ7 (16 + 16 * s) 40 ∧ gq_ln μ7 (19 + 16 * s) 8 := fun s hs => ⟨gq_ln_w (L0 s hs).1 fun j => by rw [F7 _ _ (by omega), r10.1 _ _ (by omega)], gq_ln_w (L0 s hs).2 fun j => by rw [F7 _ _ (by omega), r10.1 _ _ (by omega)]⟩
      have cA : f_X11_text (gq_I of) (gq_I a) μ = if gq_I F = gq_I 0 then gx_bd (f_X9_put (gq_I of) (gq_I k) μ7) (fun (_ : Unit) (μ10 : gx_M) => some (gq_I k, μ10)) else some (gq_I (-1), μ7) := by
        have x6 : (gx_uI μr 1 6 (gq_I 0)).1 42 6 = gq_I F := by rw [gq_uI1, if_neg (by omega)]; exact r3
        have x7 : (gx_uI (gx_uI μr 1 6 (gq_I 0)) 1 7 (gq_I F)).1 42 7 = gq_I P := by rw [gq_uI1, if_neg (by omega), gq_uI1, if_neg (by omega)]; exact r4
        have x8 : μ7.1 42 6 = gq_I F := by rw [F7 _ _ (by omega)]; exact r3
        unfold f_X11_text
        rw [pf, gq_br]
        simp (disch := omega) only [gq_lit, gq_neg, gq_leT, if_true, r1, gq_bd, gq_lte, x6, x7]
        rw [← e7, x8]
      have m211 : νr.1 211 of = gq_I (N of) := by rw [r11 _ _ (by omega) (by omega) (by omega)]; exact m1
      have mA : f_X12_text (gq_I of) (gq_I a) ν0 = if b = true then gx_bd (f_X12_storeAll (gq_I of) (gq_I k) (gx_uI νr 211 of (gq_I M))) (fun (_ : Unit) (μ29 : gx_M) => some (gq_I k, μ29)) else some (gq_I (-1), νr) := by
        unfold f_X12_text
        rw [hka, hM2]
        rcases hp with ⟨h1, h2⟩ | ⟨h1, h2⟩
        · rw [if_pos h1, if_pos h1]
          simp (disch := omega) only [gq_lit, gq_neg, gq_lte, l208, gq_inT, if_true, gq_eqT, gq_ck]
          rw [← eν]
          simp (disch := omega) only [gq_nat, Int.toNat_natCast, m1, Bool.false_eq_true, gq_leT, gq_leF, gq_ltT, gq_ltF, gq_eqT, gq_eqF, if_true, if_false, r2, gq_bd, m211, gq_biT, gq_add]
        · have h3 : ¬ a = -1 := by omega
          rw [if_neg h3, if_neg h3]
          rw [decide_eq_true (by omega : 0 ≤ a ∧ a < N of)] at his
          simp (disch := omega) only [gq_lit, gq_neg, gq_lte, l208, gq_inT, if_true, gq_eqF, if_false, gq_ck]
          rw [← eν, his]
          simp (disch := omega) only [gq_br, if_true, gq_nat, Int.toNat_natCast, Bool.false_eq_true, gq_leT, gq_leF, gq_ltT, gq_ltF, gq_eqT, gq_eqF, if_true, if_false, r2, gq_bd, m211, gq_biF, gq_add]
      by_cases hF : F = 0
      · have hb : b = true := r8.mpr hF
        subst hF
        have put : ∃ (μ3 ν3 : gx_M) (W' Y' G' V' : Nat → Nat → Int), f_X9_put (gq_I of) (gq_I k) μ7 = some ((), μ3) ∧ f_X12_storeAll (gq_I of) (gq_I k) (gx_uI νr 211 of (gq_I M)) = some ((), ν3) ∧ gq_okT tp 0 (gp_upd N of M) W' Y' G' V' ∧ gq_cT μ3 1 tp 0 (gq_I 0) (gq_I P) (gp_upd N of M) W' Y' G' V' ∧ gq_mT ν3 0 tp 0 (gq_I 0) (gq_I P) (gp_upd N of M) W' Y' G' V' ∧ (∀ s, s < 2 → gq_ln μ3 (16 + 16 * s) 40 ∧ gq_ln μ3 (19 + 16 * s) 8) ∧ (∀ a j, ¬ (2 ≤ a ∧ a ≤ 39) → μ3.1 a j = μ7.1 a j) ∧ (∀ a j, ¬ gq_im 0 a j → ν3.1 a j = νr.1 a j) ∧ μ3.2 = μ7.2 ∧ ν3.2 = νr.2 := by
          have fin := r9 rfl
          have fin7 : gp_fin of μ7 νr := by
            obtain ⟨w1, w2, w3, w4⟩ := fin
            refine ⟨fun g => ?_, fun g => ?_, fun g => ?_, fun g => ?_⟩
            · obtain ⟨w, u1, u2, u3⟩ := w1 g
              exact ⟨w, gq_cS_sm u1 fun i hi => by funext j; exact F7 _ _ (by omega), u2, u3⟩
            · obtain ⟨w, u1, u2, u3⟩ := w2 g
              exact ⟨w, gq_cY_sm u1 fun i hi => by funext j; exact F7 _ _ (by omega), u2, u3⟩
            · obtain ⟨w, u1, u2, u3⟩ := w3 g
              exact ⟨w, gq_cG_sm u1 fun i hi => by funext j; exact F7 _ _ (by omega), u2, u3⟩
            · obtain ⟨w, u1, u2, u3⟩ := w4 g
              exact ⟨w, gq_cV_sm u1 fun i hi => by funext j; exact F7 _ _ (by omega), u2, u3⟩
          have okn : gq_okT tp 0 N W Y G V := ⟨by omega, ok.2⟩
          have q1 : gq_ln μ7 53 40 := gq_ln_w r12.1 fun j => F7 _ _ (by omega)
          have q2 : gq_ln μ7 56 8 := gq_ln_w r12.2 fun j => F7 _ _ (by omega)
          rcases (show of = 0 ∨ of = 1 ∨ of = 2 ∨ of = 3 by omega) with rfl | rfl | rfl | rfl
          · exact gp_put_0 hk hkN hM okn c7 m7 L7 q1 q2 fin7
          · exact gp_put_1 hk hkN hM okn c7 m7 L7 q1 q2 fin7
          · exact gp_put_2 hk hkN hM okn c7 m7 L7 q1 q2 fin7
          · exact gp_put_3 hk hkN hM okn c7 m7 L7 q1 q2 fin7
        obtain ⟨μ3, ν3, W', Y', G', V', s1, s2, s3, s4, s5, s6, s7, s8, s9, s10⟩ := put
        refine ⟨gq_I k, μ3, ν3, ?_, ?_, ⟨tp, 0, gq_I 0, gq_I P, gp_upd N of M, W', Y', G', V', s3, s4, s5⟩, s6, ⟨gq_ln_w r12.1 fun j => by rw [s7 _ _ (by omega), F7 _ _ (by omega)], gq_ln_w r12.2 fun j => by rw [s7 _ _ (by omega), F7 _ _ (by omega)]⟩, gq_rd_w r13 fun j => s8 _ _ (fun g => by have := gq_im_a g; omega), fun a j g1 g2 => ?_, fun a j g1 g2 => ?_⟩
        · rw [cA, if_pos rfl, s1]; rfl
        · rw [mA, hb, if_pos rfl, s2]; rfl
        · rw [s7 _ _ (by omega), F7 _ _ (by omega), r10.1 _ _ (by omega)]
        · have g3 := g2
          unfold gq_im at g3
          rw [s8 _ _ g2, r11 _ _ (by omega) (by omega) (by omega), Fp _ _ (by omega) (by omega)]
      · have hb : ¬ b = true := fun h => hF (r8.mp h)
        refine ⟨gq_I (-1), μ7, νr, ?_, ?_, ⟨tp, 0, gq_I F, gq_I P, N, W, Y, G, V, ⟨by omega, ok.2⟩, c7, m7⟩, L7, ⟨gq_ln_w r12.1 fun j => F7 _ _ (by omega), gq_ln_w r12.2 fun j => F7 _ _ (by omega)⟩, r13, fun a j g1 g2 => ?_, fun a j g1 g2 => ?_⟩
        · rw [cA, if_neg (by rw [gq_eq (by omega)]; exact hF)]
        · rw [mA, if_neg hb]
        · rw [F7 _ _ (by omega), r10.1 _ _ (by omega)]
        · have g3 := g2
          unfold gq_im at g3
          rw [r11 _ _ (by omega) (by omega) (by omega), Fp _ _ (by omega) (by omega)]
    · refine none ?_ ?_
      · have pf : f_X11_placeFor (gq_I of) (gq_I a) μ = some (gq_I (-1)) := by
          unfold f_X11_placeFor
          by_cases h1 : a = -1
          · simp (disch := omega) only [Int.reduceToNat, gq_lit, gq_neg, gq_add, gq_sub, gq_mul, gq_nat, Int.toNat_natCast, gq_tadd, gq_tmul, gq_lte, gq_br, gq_bd, gq_ck, Bool.false_eq_true, gq_leT, gq_leF, gq_ltT, gq_ltF, gq_eqT, gq_eqF, if_true, if_false, c1]
          · by_cases h2 : a < 0
            · simp (disch := omega) only [Int.reduceToNat, gq_lit, gq_neg, gq_add, gq_sub, gq_mul, gq_nat, Int.toNat_natCast, gq_tadd, gq_tmul, gq_lte, gq_br, gq_bd, gq_ck, Bool.false_eq_true, gq_leT, gq_leF, gq_ltT, gq_ltF, gq_eqT, gq_eqF, if_true, if_false, c1]
            · simp (disch := omega) only [Int.reduceToNat, gq_lit, gq_neg, gq_add, gq_sub, gq_mul, gq_nat, Int.toNat_natCast, gq_tadd, gq_tmul, gq_lte, gq_br, gq_bd, gq_ck, Bool.false_eq_true, gq_leT, gq_leF, gq_ltT, gq_ltF, gq_eqT, gq_eqF, if_true, if_false, c1]
        unfold f_X11_text
        rw [pf, gq_br]
        simp (disch := omega) only [gq_lit, gq_neg, gq_leF, if_false, gq_lte]
      · unfold f_X12_text
        by_cases h1 : a = -1
        · simp (disch := omega) only [gq_lit, gq_neg, gq_lte, l208, gq_inT, if_true, gq_eqT, gq_ck]
          rw [← eν]
          simp (disch := omega) only [gq_nat, Int.toNat_natCast, m1, Bool.false_eq_true, gq_leT, gq_leF, gq_ltT, gq_ltF, gq_eqT, gq_eqF, if_true, if_false]
        · rw [decide_eq_false (by omega : ¬ (0 ≤ a ∧ a < N of))] at his
          simp (disch := omega) only [gq_lit, gq_neg, gq_lte, l208, gq_inT, if_true, gq_eqF, if_false, gq_ck]
          rw [← eν, his]
          rfl
  · refine none ?_ ?_
    · have pf : f_X11_placeFor (gq_I z) (gq_I a) μ = some (gq_I (-1)) := by
        unfold f_X11_placeFor
        by_cases h2 : z < 0
        · simp (disch := omega) only [Int.reduceToNat, gq_lit, gq_neg, gq_add, gq_sub, gq_mul, gq_nat, Int.toNat_natCast, gq_tadd, gq_tmul, gq_lte, gq_br, gq_bd, gq_ck, Bool.false_eq_true, gq_leT, gq_leF, gq_ltT, gq_ltF, gq_eqT, gq_eqF, if_true, if_false]
        · simp (disch := omega) only [Int.reduceToNat, gq_lit, gq_neg, gq_add, gq_sub, gq_mul, gq_nat, Int.toNat_natCast, gq_tadd, gq_tmul, gq_lte, gq_br, gq_bd, gq_ck, Bool.false_eq_true, gq_leT, gq_leF, gq_ltT, gq_ltF, gq_eqT, gq_eqF, if_true, if_false]
      unfold f_X11_text
      rw [pf, gq_br]
      simp (disch := omega) only [gq_lit, gq_neg, gq_leF, if_false, gq_lte]
    · unfold f_X12_text
      simp (disch := omega) only [gq_lit, gq_neg, gq_lte, l208, gq_inF, if_false]
      rw [← eν]
theorem gq_e_text {μ : gx_M} (hI : gq_inv μ) (p1 p2 : Int32) : gq_st (f_X11_text p1 p2) (f_X12_text p1 p2) μ := by
  obtain ⟨r0, μc, _, a1, _, _, _, _, _, a7, _⟩ := gp_text hI (fun _ _ _ => rfl) p1 p2
  obtain ⟨r, μc', νm, b1, b2, ⟨tp, n, f, p, N, W, Y, G, V, b3, b4, b5⟩, b6, b7, b8, b9, b10⟩ := gp_text (ν0 := μc) hI (fun a j h => a7 _ _ (by omega) (by omega)) p1 p2
  have e : μc' = μc := by
    rw [a1] at b1
    exact (congrArg Prod.snd (Option.some.inj b1)).symm
  subst e
  have C : ∀ a j, a < 206 → νm.1 a j = μc'.1 a j := fun a j h => b10 _ _ (by omega) (fun g => by have := gq_im_a g; omega)
  refine ⟨r, μc', νm, b1, b2, gq_inv_up hI ⟨tp, n, f, p, N, W, Y, G, V, b3, ?_, b5⟩ ?_ (fun a ha => ?_) fun i h1 h2 a j ha => ?_⟩
  · rw [gq_ad_0]
    exact gq_cT_sm b3.2.2.1 b4 fun i hi => by funext j; exact C _ _ (by omega)
  · refine ⟨fun i hi s hs => ?_, gq_ln_w b7.1 fun j => C _ _ (by omega), gq_ln_w b7.2 fun j => C _ _ (by omega), b8⟩
    rcases Nat.eq_zero_or_pos i with h0 | h0
    · subst h0
      rw [gq_ad_0, show 1 + 15 + 16 * s = 16 + 16 * s by omega, show 1 + 18 + 16 * s = 19 + 16 * s by omega]
      exact ⟨gq_ln_w (b6 s hs).1 fun j => C _ _ (by omega), gq_ln_w (b6 s hs).2 fun j => C _ _ (by omega)⟩
    · have g1 := gq_ad_ge h0
      rw [gq_ad_0] at g1
      have g2 := gq_ad_in (i := i) (a := gq_ad i + 15 + 16 * s) hi (by omega)
      have g3 := gq_ad_in (i := i) (a := gq_ad i + 18 + 16 * s) hi (by omega)
      obtain ⟨k, rfl⟩ : ∃ k, i = k + 1 := ⟨i - 1, by omega⟩
      have g4 := gq_ad_s k
      exact ⟨gq_ln_w (hI.2.2.1 _ hi s hs).1 fun j => by rw [C _ _ (by omega), b9 _ _ (by omega) (by omega)], gq_ln_w (hI.2.2.1 _ hi s hs).2 fun j => by rw [C _ _ (by omega), b9 _ _ (by omega) (by omega)]⟩
  · funext j
    rcases ha with ha | ha | ha
    · rw [C _ _ (by omega), b9 _ _ (by omega) (by omega)]
    · rw [C _ _ (by omega), b9 _ _ (by omega) (by omega)]
    · rw [b10 _ _ (by omega) (fun g => by have := gq_im_a g; omega), b9 _ _ (by omega) (by omega)]
  · have := gq_im_a ha
    rw [b10 _ _ (by omega) (gq_im_ne ha (by omega)), b9 _ _ (by omega) (by omega)]
