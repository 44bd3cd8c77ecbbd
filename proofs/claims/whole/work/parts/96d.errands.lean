/-! errands: the call -/
theorem gq_hasPS0 {μ : gx_M} {z p q : Int32} (h : f_X11_hasStreet z μ = some false) : f_X11_hasPersonAndSet z p q μ = some false := by
  unfold f_X11_hasPersonAndSet
  rw [gq_hasP0 h]
  rfl
theorem gq_hasPS1 {μ : gx_M} {s T : Nat} {w : Nat → Int} {p m : Int} (hs : s < 2) (ok : gq_okS w) (hT2 : w 2 = T) (hp : -2147483648 ≤ p ∧ p < 2147483648) (hm : -2147483648 ≤ m ∧ m < 2147483648) (hc : gq_cS μ (8 + 16 * s) w) (h : f_X11_hasStreet (gq_I s) μ = some true) : f_X11_hasPersonAndSet (gq_I s) (gq_I p) (gq_I m) μ = some (decide ((0 ≤ p ∧ p < w 1) ∧ 0 ≤ m ∧ m < (2 ^ T : Nat))) := by
  have hP := gq_hasP1 hs ok hp hc h
  have hS := gq_hasSt ok hT2 hm hc
  unfold f_X11_hasPersonAndSet
  by_cases g : 0 ≤ p ∧ p < w 1
  · rw [hP, decide_eq_true g, gq_br, if_pos rfl, gq_ck (by omega), gq_lte, gq_nat (by omega), Int.toNat_natCast, hS]
    by_cases g2 : 0 ≤ m ∧ m < (2 ^ T : Nat)
    · rw [decide_eq_true g2, decide_eq_true (⟨g, g2⟩ : (0 ≤ p ∧ p < w 1) ∧ 0 ≤ m ∧ m < (2 ^ T : Nat))]
      rfl
    · rw [decide_eq_false g2, decide_eq_false fun c => g2 c.2]
      rfl
  · rw [hP, decide_eq_false g, gq_br, decide_eq_false fun c => g c.1]
    rfl
theorem ge_Pm {ν ν' : gx_M} (h1 : ∀ y j, y ≠ 225 → y ≠ 226 → y ≠ 227 → ν'.1 y j = ν.1 y j) (h2 : ν'.2 = ν.2) : gq_sm gq_Pm ν ν' := fun a ha => by
  unfold gq_Pm at ha
  exact ⟨funext fun j => h1 a j (by omega) (by omega) (by omega), by rw [h2]⟩
theorem gq_e_errands {μ : gx_M} (hI : gq_inv μ) (p1 p2 p3 p4 : Int32) : gq_st (f_X11_errands p1 p2 p3 p4) (f_X12_errands p1 p2 p3 p4) μ := by
  obtain ⟨z, hz, rfl⟩ := gq_ex p1
  obtain ⟨p, hp, rfl⟩ := gq_ex p2
  obtain ⟨m, hm, rfl⟩ := gq_ex p3
  obtain ⟨q, hq, rfl⟩ := gq_ex p4
  refine gq_two hI fun ν0 hν => ?_
  rcases gq_op hI hz with ⟨h1, h2⟩ | ⟨s, w, hs, rfl, ok, hc, h1, h2⟩
  · refine ⟨gq_I (-1), μ, _, ?_, ?_, gq_sm_rf, gq_sm_uI (x := gq_I 0) (k := 0) gq_Pm206 gq_sm_rf⟩
    · unfold f_X11_errands
      rw [gq_hasPS0 h1]
      rfl
    · unfold f_X12_errands
      rw [gq_lte, gq_lit, h2 ν0 hν]
      rfl
  · obtain ⟨μ2, a1, a2, a3⟩ := h2 ν0 hν
    have o0 := ok.1
    have o1 := ok.2.1
    have o2 := ok.2.2.1
    obtain ⟨T, hT2⟩ : ∃ T : Nat, w 2 = T := ⟨(w 2).toNat, by omega⟩
    obtain ⟨L, hL⟩ : ∃ L : Nat, w 0 = L := ⟨(w 0).toNat, by omega⟩
    have p2 := ga_2T T (by omega)
    have hP := gq_hasPS1 hs ok hT2 hp hm hc h1
    have iP := gq_isP hp ok a2
    have iS := gq_isSt hm ok hT2 a2
    by_cases g : (0 ≤ p ∧ p < w 1) ∧ 0 ≤ m ∧ m < (2 ^ T : Nat)
    · obtain ⟨x, rfl⟩ : ∃ x : Nat, m = x := ⟨m.toNat, by omega⟩
      have hx : x < 2 ^ T := by omega
      obtain ⟨φ, hφ⟩ := gc_al_ex w (fun _ => -1) (-1)
      have K := gc_K_hd a2
      have cx := gd_ctx_of (O := gk_O w) (p := p) ok hφ
      have hA := gd_ctx_m ok cx
      obtain ⟨μ3, μ4, t, b1, b2, b3, b4, b5, b6, b7, b8, b9⟩ := gb_cls (x := x) (p := p) ok hT2 hL hc (by omega) hφ (gb_all ok hφ) (by omega)
      have hc4 := gq_cS_1 hc b9
      have fr : gq_sm gq_Pc μ μ4 := gb_Pc (fun y j _ => by rw [b9]) b8
      obtain ⟨ν1, C, c1, c2, c3, c4, c5⟩ := gd_costOf (p := p) ok (by omega) (gc_okK_hd ok) hφ hT2 hL (by omega) K hx
      have fm : gq_sm gq_Pm ν0 ν1 := gq_sm_tr a3 (ge_Pm (fun y j _ h2 h3 => c4 y j h2 h3) c5)
      have hV := b6 (L * 64 + x) (by omega)
      have mV := b7 L x (Nat.le_refl _) hx fun c _ h => h
      have both := ga_both ok cx hV c2 mV c3
      have ec := gb_cost (C := C) ok hL hc4 cx b5 (x := x) (by omega) hV c2 mV c3
      have et := b5 (L * 64 + x) (by omega)
      -- the class up to its answer
      have cls : f_X11_errands (gq_I s) (gq_I p) (gq_I x) (gq_I q) μ = if gq_I q = gq_I (-1) then gx_br (f_X0_costOfSet (8 + 16 * s) (gq_I x) μ4) (fun r11 => some (r11, μ4)) else gx_br (f_X0_firstMinuteIn (8 + 16 * s) (gq_I x) (gq_I q) μ4) (fun r10 => some (r10, μ4)) := by
        unfold f_X11_errands
        rw [hP, decide_eq_true g, gq_br, if_pos rfl, gq_ck (by omega), gq_lte, gq_nat (by omega), Int.toNat_natCast, b1, gq_bd, b3, gq_bd]
        rfl
      by_cases gq : -1 ≤ q ∧ q ≤ w 2 - 1
      · have chk : f_X12_errands (gq_I s) (gq_I p) (gq_I x) (gq_I q) ν0 = if gq_I C < gq_I 1000000 then (if gq_I q = gq_I (-1) then some (gq_I C, ν1) else gx_bd (f_X12_beginOf (gq_I p) (gq_I x) (gq_I q) ν1) (fun r12 μ13 => some (r12, μ13))) else some (gq_I (-1), ν1) := by
          unfold f_X12_errands
          rw [gq_lte, gq_lit, a1, gq_bd, if_pos rfl, if_pos (by rw [iP]; exact g.1), if_pos (by rw [iS]; exact g.2), a2.1.2.2.2.1]
          simp only [gq_lit, gq_neg, gq_sub]
          rw [if_pos (by rw [gq_in (by omega)]; exact gq), c1, gq_bd]
        by_cases gq1 : q = -1
        · rw [if_pos (c := gq_I q = gq_I (-1)) (by rw [gq1])] at cls chk
          refine ⟨gq_I (gb_n C), μ4, ν1, ?_, ?_, fr, fm⟩
          · rw [cls, ec, gq_br]
          · rw [chk]
            unfold gb_n
            by_cases g3 : C < 1000000
            · rw [if_pos (c := gq_I C < gq_I 1000000) (by rw [gq_lt (by omega)]; exact g3), if_pos g3]
            · rw [if_neg (c := gq_I C < gq_I 1000000) (by rw [gq_lt (by omega)]; exact g3), if_neg g3]
        · rw [if_neg (c := gq_I q = gq_I (-1)) (by rw [gq_eq (by omega)]; exact gq1)] at cls chk
          obtain ⟨n, rfl⟩ : ∃ n : Nat, q = n := ⟨q.toNat, by omega⟩
          have hB := gq_hasB ok hq hc4
          have first : f_X0_firstMinuteIn (8 + 16 * s) (gq_I x) (gq_I n) μ4 = some (if ga_h x n = true then f_X0_firstIn (gq_L (t (L * 64 + x))) (gq_I n) else gq_I (-1)) := by
            have h0 := ga_has0 x (by omega) n (by omega)
            unfold f_X0_firstMinuteIn
            rw [hB, decide_eq_true (by omega), if_pos rfl]
            simp only [gq_lit, gq_neg]
            by_cases g4 : ga_h x n = true
            · rw [if_neg fun c => absurd (h0.mp c) (by rw [g4]; decide), if_pos g4, hc4.1.1, hL]
              simp (disch := omega) only [Int.reduceToNat, gq_lit, gq_neg, gq_add, gq_sub, gq_mul, gq_nat, Int.toNat_natCast, gq_tadd, gq_tmul, gq_lte, gq_br, gq_bd, gq_ck, et]
            · rw [if_pos (h0.mpr (by cases h : ga_h x n; rfl; exact absurd h g4)), if_neg g4]
          rw [first, gq_br] at cls
          by_cases g3 : C < 1000000
          · rcases both with ⟨k1, k2, k3⟩ | ⟨k1, k2⟩
            · obtain ⟨S, s1, s2⟩ := mV.1 k1
              have vC : ga_v (gk_c w (gk_O w) p) x S = C := by
                have r := ga_rw_b s1 hA
                have k4 := ga_v_W (c := gk_c w (gk_O w) p) s1
                rw [s2] at k4
                omega
              have hS : ge_S w φ (gk_c w (gk_O w) p) x L C S := ⟨s1, vC, fun S' h => by rw [s2]; exact mV.2 S' h, fun S' h => c3.2 S' h⟩
              obtain ⟨ν', e1, e2, e3⟩ := ge_begin ok (by omega) hT2 hL (by omega) (gc_okK_hd ok).1 hφ hx hS ⟨c2.1, g3⟩ (q := n) (by omega) (gc_K_w K c4)
              rw [if_pos (c := gq_I C < gq_I 1000000) (by rw [gq_lt (by omega)]; exact g3), e1, gq_bd] at chk
              refine ⟨gq_I (if ga_h x n = true then (S n : Int) else -1), μ4, ν', ?_, chk, fr, gq_sm_tr fm (ge_Pm e2 e3)⟩
              rw [cls, gc_firstIn (by omega) (by omega), if_pos k1]
              by_cases g4 : ga_h x n = true
              · rw [if_pos g4, if_pos g4, ← s2, ga_v_W s1, vC, ge_dig c2.1 (fun c hc => ga_u_b s1 hA hc) (by omega), ga_u_t g4]
              · rw [if_neg g4, if_neg g4]
            · omega
          · rw [if_neg (c := gq_I C < gq_I 1000000) (by rw [gq_lt (by omega)]; exact g3)] at chk
            refine ⟨gq_I (-1), μ4, ν1, ?_, chk, fr, fm⟩
            rw [cls, gc_firstIn (by omega) (by omega), if_neg (c := t (L * 64 + x) < 1152921504606846976) (by omega)]
            by_cases g4 : ga_h x n = true
            · rw [if_pos g4]
            · rw [if_neg g4]
      · rw [if_neg (by rw [gq_eq (by omega)]; omega)] at cls
        refine ⟨gq_I (-1), μ4, μ2, ?_, ?_, fr, a3⟩
        · have hB := gq_hasB ok hq hc4
          rw [cls]
          unfold f_X0_firstMinuteIn
          rw [hB, decide_eq_false (by omega)]
          rfl
        · unfold f_X12_errands
          rw [gq_lte, gq_lit, a1, gq_bd, if_pos rfl, if_pos (by rw [iP]; exact g.1), if_pos (by rw [iS]; exact g.2), a2.1.2.2.2.1]
          simp only [gq_lit, gq_neg, gq_sub]
          rw [if_neg (by rw [gq_in (by omega)]; exact gq)]
    · refine ⟨gq_I (-1), μ, μ2, ?_, ?_, gq_sm_rf, a3⟩
      · unfold f_X11_errands
        rw [hP, decide_eq_false g]
        rfl
      · unfold f_X12_errands
        rw [gq_lte, gq_lit, a1, gq_bd, if_pos rfl]
        by_cases g2 : 0 ≤ p ∧ p < w 1
        · rw [if_pos (by rw [iP]; exact g2), if_neg (by rw [iS]; exact fun c => g ⟨g2, c⟩)]
          rfl
        · rw [if_neg (by rw [iP]; exact g2)]
          rfl
