/-! a business done, the whole deed -/
theorem gy_busi {μ ν : gx_M} {s : Nat} {w : Nat → Int} (h : gy_R μ ν s w) (ok : gq_okS w) {b : Int} (hb : -2147483648 ≤ b ∧ b < 2147483648) : (f_X5_hasBusiness 63 (gq_I b) μ = true ↔ 0 ≤ b ∧ b < w 2) ∧ (f_X12_isTask (gq_I b) ν = true ↔ 0 ≤ b ∧ b < w 2) := by
  obtain ⟨⟨⟨_, _, h3⟩, _, ⟨_, _, _, h7⟩, _⟩, _⟩ := h
  have o2 := ok.2.2.1
  constructor
  · unfold f_X5_hasBusiness
    rw [h3]
    by_cases g1 : b < 0
    · simp (disch := omega) only [gq_lit, Bool.false_eq_true, gq_leT, gq_leF, gq_ltT, gq_ltF, gq_eqT, gq_eqF, if_true, if_false]
      exact ⟨fun g => absurd g (by decide), fun g => absurd g1 (by omega)⟩
    · by_cases g2 : w 2 ≤ b
      · simp (disch := omega) only [gq_lit, Bool.false_eq_true, gq_leT, gq_leF, gq_ltT, gq_ltF, gq_eqT, gq_eqF, if_true, if_false]
        exact ⟨fun g => absurd g (by decide), fun g => absurd g2 (by omega)⟩
      · simp (disch := omega) only [gq_lit, Bool.false_eq_true, gq_leT, gq_leF, gq_ltT, gq_ltF, gq_eqT, gq_eqF, if_true, if_false]
        exact ⟨fun _ => by omega, fun _ => trivial⟩
  · unfold f_X12_isTask
    rw [h7, show (0 : Int32) = gq_I 0 from rfl, show (1 : Int32) = gq_I 1 from rfl, gq_sub, gq_in (by omega)]
    omega
theorem gy_doestask {μ ν : gx_M} {s : Nat} {w : Nat → Int} (h : gy_R μ ν s w) (ok : gq_okS w) (hs : s < 8) {p b m : Int} (hp : -2147483648 ≤ p ∧ p < 2147483648) (hb : -2147483648 ≤ b ∧ b < 2147483648) (hm : -2147483648 ≤ m ∧ m < 2147483648) : gy_st (f_X3_does (gq_I p) (gq_I b) (gq_I m)) (f_X12_doesTask (gq_I p) (gq_I b) (gq_I m)) μ ν s w := by
  obtain ⟨t1, t2, t3, _⟩ := gy_there h ok hp hm
  obtain ⟨t4, t5⟩ := gy_busi h ok hb
  have o0 := ok.1
  have o1 := ok.2.1
  have o2 := ok.2.2.1
  by_cases g : ((0 ≤ p ∧ p < w 1) ∧ 0 ≤ m ∧ m < w 0) ∧ 0 ≤ b ∧ b < w 2
  · have e1 := t1.2 g.1
    obtain ⟨c, rfl⟩ : ∃ c : Nat, b = c := ⟨b.toNat, by omega⟩
    obtain ⟨i, rfl⟩ : ∃ i : Nat, p = i := ⟨p.toNat, by omega⟩
    obtain ⟨hfx, _, _, h4, h5, h6, _⟩ := id h
    obtain ⟨dn, hd, hd1, hd2⟩ := h6 c (by omega)
    obtain ⟨ol, of, ow⟩ := ok.2.2.2.2.1 c g.2.2
    obtain ⟨f1, f2, f3, f4⟩ := hfx.2.1 c g.2.2
    have m24 := hfx.2.2.1.1
    have mS := hfx.2.2.2
    by_cases a : dn = -1
    · obtain ⟨y, y1, y2⟩ := gy_free (μ := μ) (i : Int) (n := w 0) (by omega) hfx.1.1
      obtain ⟨r, r1, r2⟩ := gy_goesIn (μ := μ) (b := c) (m := m) (l := w (7 + c)) (fr := w (13 + c)) (t := w (19 + c)) (n := w 0) (x := y) (by omega) ol of (by omega) g.1.2 f1 f2 f3
      have y3 := gy_may (b := c) (m := m) m24 hs mS (by omega) (by omega) ol (by rw [Int.toNat_natCast]; omega) (by rw [Int.toNat_natCast]; omega)
      rw [Int.toNat_natCast] at y3
      by_cases wn : w (13 + c) ≤ m ∧ m + w (7 + c) - 1 ≤ w (19 + c)
      · have lk := gy_look (p := i) (b := c) (m := m) (l := w (7 + c)) m24 hs mS (by omega) (by rw [Int.toNat_natCast]) ol (by omega)
        have same : (∀ j : Nat, m ≤ j → (j : Int) < m + w (7 + c) → gm_b y j = true) ↔ ∀ j : Nat, m + ((0 : Nat) : Int) ≤ j → (j : Int) < m + w (7 + c) → ν.1 220 j = gq_I i ∧ ν.1 221 j = gq_I 0 := by
          refine ⟨fun q j u v => ?_, fun q j u v => ?_⟩
          · have z := ((y2 j (by omega)).1 (q j (by omega) v)).2
            obtain ⟨o, _, k1, k2⟩ := h4 j (by omega)
            obtain ⟨o', _, k3, k4⟩ := h5 j (by omega)
            rw [k2, ← k1, k4, ← k3]; exact z
          · have z := q j (by omega) v
            obtain ⟨o, _, k1, k2⟩ := h4 j (by omega)
            obtain ⟨o', _, k3, k4⟩ := h5 j (by omega)
            rw [k2, ← k1, k4, ← k3] at z
            exact (y2 j (by omega)).2 ⟨by omega, z⟩
        by_cases al : ∀ j : Nat, m ≤ j → (j : Int) < m + w (7 + c) → gm_b y j = true
        · have r3 := r2.2 ⟨wn.1, wn.2, al⟩
          subst r3
          obtain ⟨μ', ν', a1, a2, a3, a4, a5⟩ := gy_fill (m := m) (l := w (7 + c)) hs g.2.2 (by omega) rfl ol (by omega) (fun (μ16 : gx_M) => some (true, gx_uI (gx_uI μ16 72 c (gq_I i)) 64 i (μ16.1 64 i + μ16.1 70 c))) (fun (μ26 : gx_M) => gx_br (f_X12_of (gq_I (25 + (c : Int))) (gx_uI μ26 222 c (gq_I i))) (fun (r29 : Int32) => some (true, gx_uI (gx_uI μ26 222 c (gq_I i)) 218 i ((gx_uI μ26 222 c (gq_I i)).1 218 i + r29)))) (w (7 + c)).toNat 4000 0 μ ν (by omega) (by omega) h
          have n1 := (gy_done a3 c (p := i) (by omega))
          have n2 := gy_coin n1 i (μ'.1 64 i + gq_I (w (25 + c)))
          have q1 : μ'.1 70 c = gq_I (w (25 + c)) := (a3.1.2.1 c g.2.2).2.2.2
          have q2 : ν'.1 218 i = μ'.1 64 i := a3.2.1 i (by omega)
          refine ⟨true, _, _, ?_, ?_, n2, gy_kc_tr (gy_kc_tr a4 (gy_kc_u (by omega))) (gy_kc_u (by omega)), gy_km_tr (gy_km_tr a5 (gy_km_u (by omega))) (gy_km_u (by omega))⟩
          · unfold f_X3_does
            rw [if_pos e1, if_pos (t4.2 g.2)]
            simp (disch := omega) only [Int.reduceToNat, gq_lit, gq_neg, gq_add, gq_sub, gq_mul, gq_nat, Int.toNat_natCast, gq_tadd, gq_tmul, gq_lte, gq_br, gq_bd, gq_ck, Bool.false_eq_true, gq_leT, gq_leF, gq_ltT, gq_ltF, gq_eqT, gq_eqF, if_true, if_false, hd1, y1, r1, gq_ifT]
            rw [show m + ((0 : Nat) : Int) = m by omega] at a1
            simp only [q1] at a1
            exact Eq.trans (by simp (disch := omega) only [gq_uI1, gq_uI2, gq_uL1, gq_uL2, Nat.reduceEqDiff, false_and, and_false, and_true, true_and, Nat.reduceEqDiff, false_and, if_false]) a1
          · unfold f_X12_doesTask
            rw [if_pos (t2.2 g.1.1), if_pos (t5.2 g.2), if_pos (t3.2 g.1.2)]
            rw [decide_eq_true wn] at y3
            simp (disch := omega) only [Int.reduceToNat, gq_lit, gq_neg, gq_add, gq_sub, gq_mul, gq_nat, Int.toNat_natCast, gq_tadd, gq_tmul, gq_lte, gq_br, gq_bd, gq_ck, Bool.false_eq_true, gq_leT, gq_leF, gq_ltT, gq_ltF, gq_eqT, gq_eqF, if_true, if_false, hd2, y3]
            refine Eq.trans ((lk _ (w (7 + c)).toNat 4000 0 (by omega) (by omega)).1 (same.1 al)) (Eq.trans a2 ?_)
            have q3 := gq_xof (z := 25 + (c : Int)) n1.1.2.2.1.1 hs n1.1.2.2.2 (by omega)
            rw [show (25 + (c : Int)).toNat = 25 + c by omega] at q3
            show gx_br (f_X12_of (gq_I (25 + (c : Int))) (gx_uI ν' 222 c (gq_I i))) _ = _
            rw [q3, gq_br, gq_uI1, if_neg (by omega), q2]
        · have r3 : r = false := by
            cases r with
            | false => rfl
            | true => exact absurd (r2.1 rfl).2.2 al
          refine gy_no h ?_ ?_
          · unfold f_X3_does
            rw [if_pos e1, if_pos (t4.2 g.2)]
            simp (disch := omega) only [Int.reduceToNat, gq_lit, gq_neg, gq_add, gq_sub, gq_mul, gq_nat, Int.toNat_natCast, gq_tadd, gq_tmul, gq_lte, gq_br, gq_bd, gq_ck, Bool.false_eq_true, gq_leT, gq_leF, gq_ltT, gq_ltF, gq_eqT, gq_eqF, if_true, if_false, hd1, y1, r1, r3]
          · unfold f_X12_doesTask
            rw [if_pos (t2.2 g.1.1), if_pos (t5.2 g.2), if_pos (t3.2 g.1.2)]
            rw [decide_eq_true wn] at y3
            simp (disch := omega) only [Int.reduceToNat, gq_lit, gq_neg, gq_add, gq_sub, gq_mul, gq_nat, Int.toNat_natCast, gq_tadd, gq_tmul, gq_lte, gq_br, gq_bd, gq_ck, Bool.false_eq_true, gq_leT, gq_leF, gq_ltT, gq_ltF, gq_eqT, gq_eqF, if_true, if_false, hd2, y3]
            exact (lk _ (w (7 + c)).toNat 4000 0 (by omega) (by omega)).2 fun q => al (same.2 q)
      · have r3 : r = false := by
          cases r with
          | false => rfl
          | true => exact absurd ⟨(r2.1 rfl).1, (r2.1 rfl).2.1⟩ wn
        rw [decide_eq_false wn] at y3
        refine gy_no h ?_ ?_
        · unfold f_X3_does
          rw [if_pos e1, if_pos (t4.2 g.2)]
          simp (disch := omega) only [Int.reduceToNat, gq_lit, gq_neg, gq_add, gq_sub, gq_mul, gq_nat, Int.toNat_natCast, gq_tadd, gq_tmul, gq_lte, gq_br, gq_bd, gq_ck, Bool.false_eq_true, gq_leT, gq_leF, gq_ltT, gq_ltF, gq_eqT, gq_eqF, if_true, if_false, hd1, y1, r1, r3]
        · unfold f_X12_doesTask
          rw [if_pos (t2.2 g.1.1), if_pos (t5.2 g.2), if_pos (t3.2 g.1.2)]
          simp (disch := omega) only [Int.reduceToNat, gq_lit, gq_neg, gq_add, gq_sub, gq_mul, gq_nat, Int.toNat_natCast, gq_tadd, gq_tmul, gq_lte, gq_br, gq_bd, gq_ck, Bool.false_eq_true, gq_leT, gq_leF, gq_ltT, gq_ltF, gq_eqT, gq_eqF, if_true, if_false, hd2, y3]
    · refine gy_no h ?_ ?_
      · unfold f_X3_does
        rw [if_pos e1, if_pos (t4.2 g.2)]
        simp (disch := omega) only [Int.reduceToNat, gq_lit, gq_neg, gq_add, gq_sub, gq_mul, gq_nat, Int.toNat_natCast, gq_tadd, gq_tmul, gq_lte, gq_br, gq_bd, gq_ck, Bool.false_eq_true, gq_leT, gq_leF, gq_ltT, gq_ltF, gq_eqT, gq_eqF, if_true, if_false, hd1]
      · unfold f_X12_doesTask
        rw [if_pos (t2.2 g.1.1), if_pos (t5.2 g.2), if_pos (t3.2 g.1.2)]
        simp (disch := omega) only [Int.reduceToNat, gq_lit, gq_neg, gq_add, gq_sub, gq_mul, gq_nat, Int.toNat_natCast, gq_tadd, gq_tmul, gq_lte, gq_br, gq_bd, gq_ck, Bool.false_eq_true, gq_leT, gq_leF, gq_ltT, gq_ltF, gq_eqT, gq_eqF, if_true, if_false, hd2]
  · refine gy_no h ?_ ?_
    · unfold f_X3_does
      by_cases g1 : f_X3_areThere (gq_I p) (gq_I m) μ = true
      · rw [if_pos g1, if_neg fun g2 => g ⟨t1.1 g1, t4.1 g2⟩]
      · rw [if_neg g1]
    · unfold f_X12_doesTask
      by_cases g1 : f_X12_isPerson (gq_I p) ν = true
      · rw [if_pos g1]
        by_cases g2 : f_X12_isTask (gq_I b) ν = true
        · rw [if_pos g2, if_neg fun g3 => g ⟨⟨t2.1 g1, t3.1 g3⟩, t5.1 g2⟩]
        · rw [if_neg g2]
      · rw [if_neg g1]
