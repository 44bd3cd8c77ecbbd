/-! plan, left, missed: the calls -/
theorem gq_hasM {μ : gx_M} {a : Nat} {w : Nat → Int} {m : Int} (ok : gq_okS w) (hm : -2147483648 ≤ m ∧ m < 2147483648) (hc : gq_cS μ a w) : f_X5_hasMinute a (gq_I m) μ = decide (0 ≤ m ∧ m < w 0) := by
  have o0 := ok.1
  unfold f_X5_hasMinute
  rw [hc.1.1, gq_lit]
  by_cases h1 : m < 0
  · rw [if_pos (by rw [gq_lt (by omega)]; exact h1), decide_eq_false (by omega)]
  · rw [if_neg (by rw [gq_lt (by omega)]; exact h1)]
    by_cases h2 : w 0 ≤ m
    · rw [if_pos (by rw [gq_le (by omega)]; exact h2), decide_eq_false (by omega)]
    · rw [if_neg (by rw [gq_le (by omega)]; exact h2), decide_eq_true (by omega)]
theorem gq_hasB {μ : gx_M} {a : Nat} {w : Nat → Int} {m : Int} (ok : gq_okS w) (hm : -2147483648 ≤ m ∧ m < 2147483648) (hc : gq_cS μ a w) : f_X5_hasBusiness a (gq_I m) μ = decide (0 ≤ m ∧ m < w 2) := by
  have o2 := ok.2.2.1
  unfold f_X5_hasBusiness
  rw [hc.1.2.2, gq_lit]
  by_cases h1 : m < 0
  · rw [if_pos (by rw [gq_lt (by omega)]; exact h1), decide_eq_false (by omega)]
  · rw [if_neg (by rw [gq_lt (by omega)]; exact h1)]
    by_cases h2 : w 2 ≤ m
    · rw [if_pos (by rw [gq_le (by omega)]; exact h2), decide_eq_false (by omega)]
    · rw [if_neg (by rw [gq_le (by omega)]; exact h2), decide_eq_true (by omega)]
theorem gq_hasSt {μ : gx_M} {a T : Nat} {w : Nat → Int} {m : Int} (ok : gq_okS w) (hT2 : w 2 = T) (hm : -2147483648 ≤ m ∧ m < 2147483648) (hc : gq_cS μ a w) : f_X5_hasSet a (gq_I m) μ = decide (0 ≤ m ∧ m < (2 ^ T : Nat)) := by
  have o2 := ok.2.2.1
  have p2 := ga_2T T (by omega)
  unfold f_X5_hasSet
  rw [gc_subs ok hc hT2, gq_lit]
  by_cases h1 : m < 0
  · rw [if_pos (by rw [gq_lt (by omega)]; exact h1), decide_eq_false (by omega)]
  · rw [if_neg (by rw [gq_lt (by omega)]; exact h1)]
    by_cases h2 : ((2 ^ T : Nat) : Int) ≤ m
    · rw [if_pos (by rw [gq_le (by omega)]; exact h2), decide_eq_false (by omega)]
    · rw [if_neg (by rw [gq_le (by omega)]; exact h2), decide_eq_true (by omega)]
theorem gq_isM {μ : gx_M} {s : Nat} {w : Nat → Int} {p : Int} (hp : -2147483648 ≤ p ∧ p < 2147483648) (ok : gq_okS w) (hh : gq_hd μ s w) : (f_X12_isMinute (gq_I p) μ = true) = (0 ≤ p ∧ p < w 0) := by
  have o0 := ok.1
  unfold f_X12_isMinute
  rw [hh.1.2.1, gq_lit, gq_lit, gq_sub, gq_in (by rw [show (OfNat.ofNat 0 : Int) = 0 from rfl, show (OfNat.ofNat 1 : Int) = 1 from rfl]; omega)]
  apply propext
  rw [show (OfNat.ofNat 0 : Int) = 0 from rfl, show (OfNat.ofNat 1 : Int) = 1 from rfl]
  omega
theorem gq_isB {μ : gx_M} {s : Nat} {w : Nat → Int} {p : Int} (hp : -2147483648 ≤ p ∧ p < 2147483648) (ok : gq_okS w) (hh : gq_hd μ s w) : (f_X12_isTask (gq_I p) μ = true) = (0 ≤ p ∧ p < w 2) := by
  have o2 := ok.2.2.1
  unfold f_X12_isTask
  rw [hh.1.2.2.2.1, gq_lit, gq_lit, gq_sub, gq_in (by rw [show (OfNat.ofNat 0 : Int) = 0 from rfl, show (OfNat.ofNat 1 : Int) = 1 from rfl]; omega)]
  apply propext
  rw [show (OfNat.ofNat 0 : Int) = 0 from rfl, show (OfNat.ofNat 1 : Int) = 1 from rfl]
  omega
theorem gq_isSt {μ : gx_M} {s T : Nat} {w : Nat → Int} {p : Int} (hp : -2147483648 ≤ p ∧ p < 2147483648) (ok : gq_okS w) (hT2 : w 2 = T) (hh : gq_hd μ s w) : (f_X12_isSet (gq_I p) μ = true) = (0 ≤ p ∧ p < (2 ^ T : Nat)) := by
  have o2 := ok.2.2.1
  have p2 := ga_2T T (by omega)
  have e : f_X12_isSet (gq_I p) μ = f_X12_in (gq_I p) (gq_I 0) (gq_I ((2 ^ T : Nat) - 1)) := by
    unfold f_X12_isSet
    rw [hh.1.2.2.2.1, hT2]
    simp only [gq_lit]
    rw [ga_subI T (by omega), gq_sub]
  rw [e, gq_in (by omega)]
  apply propext
  omega
theorem gb_Pc {μ μ' : gx_M} (h1 : ∀ y j, y ≠ 75 → μ'.1 y j = μ.1 y j) (h2 : ∀ y, y ≠ 76 → y ≠ 77 → μ'.2 y = μ.2 y) : gq_sm gq_Pc μ μ' := fun a ha => by
  unfold gq_Pc at ha
  exact ⟨funext fun j => h1 a j (by omega), h2 a (by omega) (by omega)⟩
theorem gb_Pm {ν ν' : gx_M} (h1 : ∀ y j, y ≠ 226 → y ≠ 227 → ¬ (y = 206 ∧ j = 41) → ν'.1 y j = ν.1 y j) (h2 : ν'.2 = ν.2) : gq_sm gq_Pm ν ν' := fun a ha => by
  unfold gq_Pm at ha
  exact ⟨funext fun j => h1 a j (by omega) (by omega) (by omega), by rw [h2]⟩
theorem gc_K_g {ν ν' : gx_M} {s : Nat} {w O B : Nat → Int} {g g' : Int} (h : gc_K ν s w O B g) (e : ∀ a j, a ≠ 226 → a ≠ 227 → ¬ (a = 206 ∧ j = 41) → ν'.1 a j = ν.1 a j) : gc_K (gx_uI ν' 206 38 (gq_I g')) s w O B g' := by
  obtain ⟨⟨⟨h1, h2, h3, h4⟩, h5⟩, h6, h7, h8⟩ := h
  refine ⟨⟨⟨?_, ?_, ?_, ?_⟩, gq_mS_w h5 ?_⟩, fun m hm => ⟨?_, ?_⟩, fun b hb => ?_, rfl⟩
  · rw [gq_uI1, if_neg (by omega), e _ _ (by omega) (by omega) (by omega)]; exact h1
  · rw [gq_uI1, if_neg (by omega), e _ _ (by omega) (by omega) (by omega)]; exact h2
  · rw [gq_uI1, if_neg (by omega), e _ _ (by omega) (by omega) (by omega)]; exact h3
  · rw [gq_uI1, if_neg (by omega), e _ _ (by omega) (by omega) (by omega)]; exact h4
  · funext j; rw [gq_uI1, if_neg (by omega), e _ _ (by omega) (by omega) (by omega)]
  · rw [gq_uI1, if_neg (by omega), e _ _ (by omega) (by omega) (by omega)]; exact (h6 m hm).1
  · rw [gq_uI1, if_neg (by omega), e _ _ (by omega) (by omega) (by omega)]; exact (h6 m hm).2
  · rw [gq_uI1, if_neg (by omega), e _ _ (by omega) (by omega) (by omega)]; exact h7 b hb
theorem gq_e_plan {μ : gx_M} (hI : gq_inv μ) (p1 p2 : Int32) (b : Bool) : gq_st (f_X11_plan p1 p2 b) (f_X12_plan p1 p2 b) μ := by
  obtain ⟨z, hz, rfl⟩ := gq_ex p1
  obtain ⟨p, hp, rfl⟩ := gq_ex p2
  refine gq_two hI fun ν0 hν => ?_
  rcases gq_op hI hz with ⟨h1, h2⟩ | ⟨s, w, hs, rfl, ok, hc, h1, h2⟩
  · refine ⟨gq_I (-1), μ, _, ?_, ?_, gq_sm_rf, gq_sm_uI (x := gq_I 0) (k := 0) gq_Pm206 gq_sm_rf⟩
    · unfold f_X11_plan
      rw [gq_hasP0 h1]
      rfl
    · unfold f_X12_plan
      rw [gq_lte, gq_lit, h2 ν0 hν]
      rfl
  · obtain ⟨μ2, a1, a2, a3⟩ := h2 ν0 hν
    have o0 := ok.1
    have o2 := ok.2.2.1
    have hP := gq_hasP1 hs ok hp hc h1
    have iP := gq_isP hp ok a2
    by_cases g : 0 ≤ p ∧ p < w 1
    · obtain ⟨φ, hφ⟩ := gc_al_ex w (fun _ => -1) (-1)
      obtain ⟨P, G, μ', ν', e1, e2, e3, e4, e5, e6, e7, e8, e9, e10⟩ := gb_choose (T := (w 2).toNat) (L := (w 0).toNat) ok (by omega) (by omega) (by omega) (by omega) g (by omega) hφ (gb_all ok hφ) hc (gc_K_hd a2)
      refine ⟨if b = true then gq_I G else gq_I P, μ', ν', ?_, ?_, gb_Pc e7 e8, gq_sm_tr a3 (gb_Pm e9 e10)⟩
      · unfold f_X11_plan
        rw [hP, decide_eq_true g]
        simp (disch := omega) only [gq_lit, gq_neg, gq_br, gq_bd, if_true, gq_ck, gq_lte, gq_nat, Int.toNat_natCast, e1, e4, e5]
        split <;> rfl
      · unfold f_X12_plan
        rw [gq_lte, gq_lit, a1, gq_bd, if_pos rfl, if_pos (by rw [iP]; exact g), e2, gq_bd, e6]
        split <;> rfl
    · refine ⟨gq_I (-1), μ, μ2, ?_, ?_, gq_sm_rf, a3⟩
      · unfold f_X11_plan
        rw [hP, decide_eq_false g]
        rfl
      · unfold f_X12_plan
        rw [gq_lte, gq_lit, a1, gq_bd, if_pos rfl, if_neg (by rw [iP]; exact g)]
        rfl
theorem gq_e_left {μ : gx_M} (hI : gq_inv μ) (p1 p2 : Int32) : gq_st (f_X11_left p1 p2) (f_X12_left p1 p2) μ := by
  obtain ⟨z, hz, rfl⟩ := gq_ex p1
  obtain ⟨p, hp, rfl⟩ := gq_ex p2
  refine gq_two hI fun ν0 hν => ?_
  rcases gq_op hI hz with ⟨h1, h2⟩ | ⟨s, w, hs, rfl, ok, hc, h1, h2⟩
  · refine ⟨gq_I (-1), μ, _, ?_, ?_, gq_sm_rf, gq_sm_uI (x := gq_I 0) (k := 0) gq_Pm206 gq_sm_rf⟩
    · unfold f_X11_left
      rw [gq_hasP0 h1]
      rfl
    · unfold f_X12_left
      rw [gq_lte, gq_lit, h2 ν0 hν]
      rfl
  · obtain ⟨μ2, a1, a2, a3⟩ := h2 ν0 hν
    have o0 := ok.1
    have o1 := ok.2.1
    have o2 := ok.2.2.1
    have hP := gq_hasP1 hs ok hp hc h1
    have iP := gq_isP hp ok a2
    by_cases g : 0 ≤ p ∧ p < w 1
    · obtain ⟨φ, hφ⟩ := gc_al_ex w (fun _ => -1) (-1)
      obtain ⟨P, G, μ', ν', e1, e2, e3, e4, e5, e6, e7, e8, e9, e10⟩ := gb_choose (T := (w 2).toNat) (L := (w 0).toNat) ok (by omega) (by omega) (by omega) (by omega) g (by omega) hφ (gb_all ok hφ) hc (gc_K_hd a2)
      obtain ⟨n, rfl⟩ : ∃ n : Nat, p = n := ⟨p.toNat, by omega⟩
      have eco : μ'.1 (8 + 16 * s + 1) n = gq_I (w (3 + n)) := by rw [e7 _ _ (by omega)]; exact hc.2.1 n (by omega)
      have eo := gq_xof a2.1.1 (by omega) a2.2.2.2.2.2.2 (z := 3 + n) (by omega)
      rw [show ((3 : Int) + n).toNat = 3 + n by omega] at eo
      refine ⟨gq_I (w (3 + n) + G), μ', ν', ?_, ?_, gb_Pc e7 e8, gq_sm_tr a3 (gb_Pm e9 e10)⟩
      · unfold f_X11_left
        rw [hP, decide_eq_true g]
        simp (disch := omega) only [gq_lit, gq_neg, gq_br, gq_bd, if_true, gq_ck, gq_lte, gq_nat, Int.toNat_natCast, e1, eco, e5, gq_add]
      · unfold f_X12_left
        rw [gq_lte, gq_lit, a1, gq_bd, if_pos rfl, if_pos (by rw [iP]; exact g)]
        simp (disch := omega) only [gq_lit, gq_add, eo, gq_br, e2, gq_bd]
    · refine ⟨gq_I (-1), μ, μ2, ?_, ?_, gq_sm_rf, a3⟩
      · unfold f_X11_left
        rw [hP, decide_eq_false g]
        rfl
      · unfold f_X12_left
        rw [gq_lte, gq_lit, a1, gq_bd, if_pos rfl, if_neg (by rw [iP]; exact g)]
        rfl
theorem gq_e_missed {μ : gx_M} (hI : gq_inv μ) (p1 p2 p3 : Int32) : gq_st (f_X11_missed p1 p2 p3) (f_X12_missed p1 p2 p3) μ := by
  obtain ⟨z, hz, rfl⟩ := gq_ex p1
  obtain ⟨p, hp, rfl⟩ := gq_ex p2
  obtain ⟨m, hm, rfl⟩ := gq_ex p3
  refine gq_two hI fun ν0 hν => ?_
  rcases gq_op hI hz with ⟨h1, h2⟩ | ⟨s, w, hs, rfl, ok, hc, h1, h2⟩
  · refine ⟨gq_I (-1), μ, _, ?_, ?_, gq_sm_rf, gq_sm_uI (x := gq_I 0) (k := 0) gq_Pm206 gq_sm_rf⟩
    · unfold f_X11_missed
      rw [gq_hasP0 h1]
      rfl
    · unfold f_X12_missed
      rw [gq_lte, gq_lit, h2 ν0 hν]
      rfl
  · obtain ⟨μ2, a1, a2, a3⟩ := h2 ν0 hν
    have o0 := ok.1
    have o1 := ok.2.1
    have o2 := ok.2.2.1
    have hP := gq_hasP1 hs ok hp hc h1
    have iP := gq_isP hp ok a2
    have hM := gq_hasM ok hm hc
    have iM := gq_isM hm ok a2
    by_cases g : 0 ≤ p ∧ p < w 1
    · by_cases g2 : 0 ≤ m ∧ m < w 0
      · obtain ⟨n, rfl⟩ : ∃ n : Nat, m = n := ⟨m.toNat, by omega⟩
        obtain ⟨φ, hφ⟩ := gc_al_ex w (fun _ => -1) (-1)
        obtain ⟨ψ, hψ⟩ := gc_al_ex w (fun _ => -1) n
        have K := gc_K_hd a2
        obtain ⟨P, G, μ', ν', e1, e2, e3, e4, e5, e6, e7, e8, e9, e10⟩ := gb_choose (T := (w 2).toNat) (L := (w 0).toNat) ok (by omega) (by omega) (by omega) (by omega) g (by omega) hφ (gb_all ok hφ) hc K
        have K2 : gc_K (gx_uI ν' 206 38 (gq_I n)) s w (gk_O w) (fun _ => -1) n := gc_K_g K e9
        have hc2 : gq_cS μ' (8 + 16 * s) w := gq_cS_sm hc fun i hi => funext fun j => e7 _ _ (by omega)
        obtain ⟨P2, G2, μ'', ν'', f1, f2, f3, f4, f5, f6, f7, f8, f9, f10⟩ := gb_choose (T := (w 2).toNat) (L := (w 0).toNat) ok (by omega) (by omega) (by omega) (by omega) g (by omega) hψ (gb_but ok (by omega) hψ) hc2 K2
        have em : ((1099511627775 : Int64) &&& (((1 : Int64) <<< (((gq_I n) : Int32).toInt64 &&& 63)) ^^^ (-1))) = ((1099511627775 : Int64) &&& ((gq_L 1 <<< (gq_L n &&& gq_L 63)) ^^^ gq_L (-1))) := by
          rw [gq_toL (by omega)]
          rfl
        rw [← em] at f1
        refine ⟨gq_I (G - G2), μ'', ν'', ?_, ?_, gq_sm_tr (gb_Pc e7 e8) (gb_Pc f7 f8), gq_sm_tr a3 (gq_sm_tr (gb_Pm e9 e10) (gq_sm_tr (gq_sm_uI (x := gq_I n) (k := 38) gq_Pm206 gq_sm_rf) (gb_Pm f9 f10)))⟩
        · unfold f_X11_missed
          rw [hP, decide_eq_true g, gq_br, if_pos rfl, gq_ck (by omega), gq_lte, gq_nat (by omega), Int.toNat_natCast, hM, decide_eq_true g2, if_pos rfl, gq_lte, e1, gq_bd, gq_lte, f1, gq_bd, e5, f5, gq_sub]
        · unfold f_X12_missed
          rw [gq_lte, gq_lit, a1, gq_bd, if_pos rfl, if_pos (by rw [iP]; exact g), if_pos (by rw [iM]; exact g2), e2, gq_bd, gq_lte, f2, gq_bd, gq_sub]
      · refine ⟨gq_I (-1), μ, μ2, ?_, ?_, gq_sm_rf, a3⟩
        · unfold f_X11_missed
          rw [hP, decide_eq_true g, gq_br, if_pos rfl, gq_ck (by omega), gq_lte, gq_nat (by omega), Int.toNat_natCast, hM, decide_eq_false g2]
          rfl
        · unfold f_X12_missed
          rw [gq_lte, gq_lit, a1, gq_bd, if_pos rfl, if_pos (by rw [iP]; exact g), if_neg (by rw [iM]; exact g2)]
          rfl
    · refine ⟨gq_I (-1), μ, μ2, ?_, ?_, gq_sm_rf, a3⟩
      · unfold f_X11_missed
        rw [hP, decide_eq_false g]
        rfl
      · unfold f_X12_missed
        rw [gq_lte, gq_lit, a1, gq_bd, if_pos rfl, if_neg (by rw [iP]; exact g)]
        rfl
