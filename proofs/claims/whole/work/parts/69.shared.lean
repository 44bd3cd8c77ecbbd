/-! shared -/
theorem gq_shL {ν : gx_M} {s : Nat} {w : Nat → Int} {p q : Int32} {y1 y2 : Int64} (ok : gq_okS w) (hs : s < 8) (hl : gq_lay ν s w) (h1 : f_X12_handsOf p ν = some y1) (h2 : f_X12_handsOf q ν = some y2) {k : Int32 → gx_M → Option (Int32 × gx_M)} : ∀ (d f i : Nat) (z : Int32), d < f → (i : Int) + d = w 2 → ∃ z', L_X12_shared_42 p q k f z (gq_I i) ν = k z' ν ∧ ∀ j, j < 32 → (gi_b z' j = true ↔ gi_b z j = true ∨ (i ≤ j ∧ (j : Int) < w 2 ∧ (∃ m : Nat, gk_in w (y1 ||| y2) j m) ∧ (¬ ∃ m : Nat, gk_in w y1 j m) ∧ ¬ ∃ m : Nat, gk_in w y2 j m))
  | _, 0, _, _, hf, _ => absurd hf (Nat.not_lt_zero _)
  | 0, f + 1, i, z, hf, hi => by
    have o2 := ok.2.2.1
    refine ⟨z, ?_, fun j hj => ⟨fun h => Or.inl h, fun h => h.elim (fun h => h) fun h => absurd h.1 (by omega)⟩⟩
    rw [L_X12_shared_42.eq_2, hl.1.2.2.2]
    simp (disch := omega) only [Int.reduceToNat, gq_lit, gq_neg, gq_add, gq_sub, gq_mul, gq_nat, Int.toNat_natCast, gq_tadd, gq_tmul, gq_lte, gq_br, gq_bd, gq_ck, Bool.false_eq_true, gq_leT, gq_leF, gq_ltT, gq_ltF, gq_eqT, gq_eqF, if_true, if_false]
  | d + 1, f + 1, i, z, hf, hi => by
    have o2 := ok.2.2.1
    have hb : (i : Int) < w 2 := by omega
    obtain ⟨r, a1, a2⟩ := gq_any (y1 ||| y2) ok hs hl hb
    obtain ⟨r1, b1, b2⟩ := gq_any y1 ok hs hl hb
    obtain ⟨r2, c1, c2⟩ := gq_any y2 ok hs hl hb
    obtain ⟨t, ht⟩ : ∃ t : Bool, t = (r && !r1 && !r2) := ⟨_, rfl⟩
    obtain ⟨z', e1, e2⟩ := gq_shL ok hs hl h1 h2 (k := k) d f (i + 1) (z ||| if t = true then (gq_I 1 <<< (gq_I i &&& gq_I 31)) else gq_I 0) (by omega) (by omega)
    refine ⟨z', ?_, fun j hj => ?_⟩
    · rw [← e1, L_X12_shared_42.eq_2, hl.1.2.2.2, ht]
      simp (disch := omega) only [Int.reduceToNat, gq_lit, gq_neg, gq_add, gq_sub, gq_mul, gq_nat, Int.toNat_natCast, gq_tadd, gq_tmul, gq_lte, gq_br, gq_bd, gq_ck, Bool.false_eq_true, gq_leT, gq_leF, gq_ltT, gq_ltF, gq_eqT, gq_eqF, if_true, if_false, h1, h2, a1]
      cases r with
      | false => rfl
      | true =>
        simp (disch := omega) only [Int.reduceToNat, gq_lit, gq_neg, gq_add, gq_sub, gq_mul, gq_nat, Int.toNat_natCast, gq_tadd, gq_tmul, gq_lte, gq_br, gq_bd, gq_ck, Bool.false_eq_true, gq_leT, gq_leF, gq_ltT, gq_ltF, gq_eqT, gq_eqF, if_true, if_false, b1]
        cases r1 with
        | true => rfl
        | false =>
          simp (disch := omega) only [Int.reduceToNat, gq_lit, gq_neg, gq_add, gq_sub, gq_mul, gq_nat, Int.toNat_natCast, gq_tadd, gq_tmul, gq_lte, gq_br, gq_bd, gq_ck, Bool.false_eq_true, gq_leT, gq_leF, gq_ltT, gq_ltF, gq_eqT, gq_eqF, if_true, if_false, c1]
          cases r2 with
          | true => rfl
          | false => rfl
    · have key : gi_b (if t = true then (gq_I 1 <<< (gq_I i &&& gq_I 31)) else gq_I 0) j = true ↔ j = i ∧ (∃ m : Nat, gk_in w (y1 ||| y2) i m) ∧ (¬ ∃ m : Nat, gk_in w y1 i m) ∧ ¬ ∃ m : Nat, gk_in w y2 i m := by
        rw [← a2, ← b2, ← c2]
        by_cases g : t = true
        · rw [if_pos g, gi_bit i (by omega) j hj, decide_eq_true_iff]
          rw [g] at ht
          cases r <;> cases r1 <;> cases r2 <;> first | exact absurd ht (by decide) | exact ⟨fun h => ⟨h, rfl, by decide, by decide⟩, fun h => h.1⟩
        · rw [if_neg g, gi_0 j hj]
          constructor
          · intro h; exact absurd h (by decide)
          · rintro ⟨_, h3, h4, h5⟩
            exfalso
            apply g
            rw [ht, h3]
            cases r1
            · cases r2
              · rfl
              · exact absurd rfl h5
            · exact absurd rfl h4
      rw [e2 j hj, gi_or, Bool.or_eq_true, key]
      constructor
      · rintro ((h | ⟨h, h3⟩) | ⟨h, h3⟩)
        · exact Or.inl h
        · subst h; exact Or.inr ⟨Nat.le_refl _, hb, h3⟩
        · exact Or.inr ⟨by omega, h3⟩
      · rintro (h | ⟨h, h3, h4⟩)
        · exact Or.inl (Or.inl h)
        · by_cases e : j = i
          · subst e; exact Or.inl (Or.inr ⟨rfl, h4⟩)
          · exact Or.inr ⟨by omega, h3, h4⟩
theorem gq_e_shared {μ : gx_M} (hI : gq_inv μ) (p1 p2 p3 : Int32) : ∃ r μ2, f_X11_shared p1 p2 p3 μ = some r ∧ f_X12_shared p1 p2 p3 μ = some (r, μ2) ∧ gq_inv μ2 := by
  obtain ⟨z, hz, rfl⟩ := gq_ex p1
  obtain ⟨p, hp, rfl⟩ := gq_ex p2
  obtain ⟨q, hq, rfl⟩ := gq_ex p3
  rcases gq_op hI hz with ⟨h1, h2⟩ | ⟨s, w, hs, rfl, ok, hc, h1, h2⟩
  · refine ⟨gq_I (-1), _, ?_, ?_, gq_inv_m hI (gq_sm_uI (x := gq_I 0) (k := 0) gq_Pm206 gq_sm_rf)⟩
    · unfold f_X11_shared
      rw [gq_hasP0 h1]
      split <;> rfl
    · unfold f_X12_shared
      rw [gq_lte, gq_lit, h2 μ gq_sm_rf]
      rfl
  · obtain ⟨μ2, a1, a2, a3⟩ := h2 μ gq_sm_rf
    have o0 := ok.1
    have o1 := ok.2.1
    have o2 := ok.2.2.1
    have P1 := gq_hasP1 hs ok hp hc h1
    have P2 := gq_hasP1 hs ok hq hc h1
    have i1 := gq_isP hp ok a2
    have i2 := gq_isP hq ok a2
    by_cases g : ((0 ≤ p ∧ p < w 1) ∧ 0 ≤ q ∧ q < w 1) ∧ p ≠ q
    · obtain ⟨y1, b1, b2, b3⟩ := gq_his ok hc a2 (p := p) (by omega)
      obtain ⟨y2, c1, c2, c3⟩ := gq_his ok hc a2 (p := q) (by omega)
      obtain ⟨z', e1, e2⟩ := gq_shL ok (by omega) (gq_hd_lay a2) b2 c2 (k := fun (x4_35 : Int32) (μ36 : gx_M) => some (x4_35, μ36)) (w 2).toNat 4000 0 (gq_I 0) (by omega) (by omega)
      obtain ⟨t1, d1, d2⟩ := gq_poss (y1 ||| y2) ok hc
      obtain ⟨t2, d3, d4⟩ := gq_poss y1 ok hc
      obtain ⟨t3, d5, d6⟩ := gq_poss y2 ok hc
      have e : z' = ((t1 &&& (t2 ^^^ gq_I (-1))) &&& (t3 ^^^ gq_I (-1))) := gi_ext fun j hj => by
        have k1 := e2 j hj
        have k2 := d2 j hj
        have k3 := d4 j hj
        have k4 := d6 j hj
        rw [gi_0 j hj] at k1
        have n1 : gi_b (t2 ^^^ gq_I (-1)) j = !gi_b t2 j := gi_not hj
        have n2 : gi_b (t3 ^^^ gq_I (-1)) j = !gi_b t3 j := gi_not hj
        rw [gi_and, gi_and, n1, n2]
        cases m1 : gi_b z' j
        · cases m2 : gi_b t1 j
          · rfl
          · cases m3 : gi_b t2 j
            · cases m4 : gi_b t3 j
              · exfalso
                have := k2.mp m2
                rw [m1] at k1
                refine absurd (k1.mpr (Or.inr ⟨by omega, this.1, this.2, fun h => ?_, fun h => ?_⟩)) (by decide)
                · have := k3.mpr ⟨this.1, h⟩
                  rw [m3] at this
                  exact absurd this (by decide)
                · have := k4.mpr ⟨this.1, h⟩
                  rw [m4] at this
                  exact absurd this (by decide)
              · rfl
            · rfl
        · have := k1.mp m1
          rcases this with h | ⟨_, h3, h4, h5, h6⟩
          · exact absurd h (by decide)
          · rw [k2.mpr ⟨h3, h4⟩]
            cases m3 : gi_b t2 j
            · cases m4 : gi_b t3 j
              · rfl
              · exact absurd (k4.mp m4).2 h6
            · exact absurd (k3.mp m3).2 h5
      refine ⟨z', μ2, ?_, ?_, gq_inv_m hI a3⟩
      · unfold f_X11_shared
        rw [P1, P2, decide_eq_true g.1.1, decide_eq_true g.1.2]
        simp (disch := omega) only [Int.reduceToNat, gq_lit, gq_neg, gq_add, gq_sub, gq_mul, gq_nat, Int.toNat_natCast, gq_tadd, gq_tmul, gq_lte, gq_br, gq_bd, gq_ck, Bool.false_eq_true, gq_leT, gq_leF, gq_ltT, gq_ltF, gq_eqT, gq_eqF, if_true, if_false, b1, c1, d1, d3, d5]
        rw [e]
      · unfold f_X12_shared
        rw [gq_lte, gq_lit, a1, gq_bd, if_pos rfl, if_pos (by rw [i1]; exact g.1.1), if_pos (by rw [i2]; exact g.1.2), if_neg (by rw [gq_eq (by omega)]; exact g.2)]
        exact e1
    · refine ⟨gq_I (-1), μ2, ?_, ?_, gq_inv_m hI a3⟩
      · unfold f_X11_shared
        rw [P1, P2]
        by_cases g1 : p = q
        · simp (disch := omega) only [Int.reduceToNat, gq_lit, gq_neg, gq_add, gq_sub, gq_mul, gq_nat, Int.toNat_natCast, gq_tadd, gq_tmul, gq_lte, gq_br, gq_bd, gq_ck, Bool.false_eq_true, gq_leT, gq_leF, gq_ltT, gq_ltF, gq_eqT, gq_eqF, if_true, if_false]
        · by_cases g2 : 0 ≤ p ∧ p < w 1
          · rw [decide_eq_true g2, decide_eq_false (p := 0 ≤ q ∧ q < w 1) (by omega)]
            simp (disch := omega) only [Int.reduceToNat, gq_lit, gq_neg, gq_add, gq_sub, gq_mul, gq_nat, Int.toNat_natCast, gq_tadd, gq_tmul, gq_lte, gq_br, gq_bd, gq_ck, Bool.false_eq_true, gq_leT, gq_leF, gq_ltT, gq_ltF, gq_eqT, gq_eqF, if_true, if_false]
          · rw [decide_eq_false g2]
            simp (disch := omega) only [Int.reduceToNat, gq_lit, gq_neg, gq_add, gq_sub, gq_mul, gq_nat, Int.toNat_natCast, gq_tadd, gq_tmul, gq_lte, gq_br, gq_bd, gq_ck, Bool.false_eq_true, gq_leT, gq_leF, gq_ltT, gq_ltF, gq_eqT, gq_eqF, if_true, if_false]
      · unfold f_X12_shared
        rw [gq_lte, gq_lit, a1, gq_bd, if_pos rfl]
        by_cases g2 : 0 ≤ p ∧ p < w 1
        · rw [if_pos (by rw [i1]; exact g2)]
          by_cases g3 : 0 ≤ q ∧ q < w 1
          · rw [if_pos (by rw [i2]; exact g3), if_pos (by rw [gq_eq (by omega)]; omega)]
            rfl
          · rw [if_neg (by rw [i2]; exact g3)]
            rfl
        · rw [if_neg (by rw [i1]; exact g2)]
          rfl
