/-! swaps: settled on both sides; swap -/
def gs_rem (D : Nat → Int) (H : Nat) : Nat := gm_cnt (fun h => decide (D h = -1)) H
theorem gs_round {μ ν : gx_M} {s H r : Nat} {v : Nat → Int} {D : Nat → Int} {E : Nat → Nat} (hs : s < 2) (ov : gq_okV v) (hH : v 0 = H) (hr : r ≤ 5) (hx : gs_fx μ ν s v) (hS : gs_S μ ν H r D E) (hR : 1 ≤ gs_rem D H) : ∃ (c : Nat) (D' : Nat → Int) (E' : Nat → Nat) (μ1 μ2 ν2 : gx_M), 1 ≤ c ∧ gs_rem D' H + c = gs_rem D H ∧ f_X10_pointAll (22 + 16 * s) μ = some ((), μ1) ∧ f_X10_letGo (22 + 16 * s) (gq_I r) μ1 = some (gq_I c, μ2) ∧ f_X12_goRound ν = some (gq_I c, ν2) ∧ gs_fx μ2 ν2 s v ∧ gs_S μ2 ν2 H r D' E' ∧ gs_kc μ μ2 ∧ gs_km ν ν2 := by
  have o0 := ov.1
  have c0 : μ.1 (22 + 16 * s) 0 = gq_I H := by rw [hx.1.1, hH]
  have m0 : ν.1 206 50 = gq_I H := by rw [hx.2.2.1, hH]
  obtain ⟨F, hF⟩ : ∃ F : Nat → Nat, ∀ h, h < H → D h = -1 → F h < H ∧ D (F h) = -1 ∧ f_X10_favourite (22 + 16 * s) (gq_I h) μ = some (gq_I (F h)) ∧ f_X12_pointOf (gq_I h) ν = some (gq_I (F h)) := by
    have ch : ∀ h, ∃ F : Nat, h < H → D h = -1 → F < H ∧ D F = -1 ∧ f_X10_favourite (22 + 16 * s) (gq_I h) μ = some (gq_I F) ∧ f_X12_pointOf (gq_I h) ν = some (gq_I F) := fun h => by
      by_cases g : h < H ∧ D h = -1
      · obtain ⟨F, hF⟩ := gs_fav hs ov hH hx hS (p := h) g.1 g.2
        exact ⟨F, fun _ _ => hF⟩
      · exact ⟨0, fun a b => absurd ⟨a, b⟩ g⟩
    exact ⟨fun h => Classical.choose (ch h), fun h => Classical.choose_spec (ch h)⟩
  obtain ⟨μ1, a1, a2, a3, a4⟩ := gs_pA hs ov hH (fun h h1 h2 => ⟨(hF h h1 h2).1, (hF h h1 h2).2.2.2⟩) (k := fun (μ12 : gx_M) => some ((), μ12)) H 4000 0 μ (by omega) (by omega) hx hS
  obtain ⟨ν1, b1, b2, b3, b4⟩ := gs_pB hs ov hH (fun h h1 h2 => ⟨(hF h h1 h2).1, (hF h h1 h2).2.2.1⟩) (k := fun (μ13 : gx_M) => L_X12_goRound_45 (fun (x1_29 : Int32) (μ30 : gx_M) => L_X12_goRound_94 (fun (μ46 : gx_M) => some (x1_29, μ46)) 4000 (gq_I 0) μ30) 4000 (gq_I 0) (gq_I 0) μ13) H 4000 0 ν (by omega) (by omega) hx hS
  have q1 : ∀ h, h < H → D h = -1 → F h < H ∧ D (F h) = -1 ∧ μ1.1 87 h = gq_I (F h) ∧ ν1.1 234 h = gq_I (F h) := fun h h1 h2 => by
    refine ⟨(hF h h1 h2).1, (hF h h1 h2).2.1, a2 h (Nat.zero_le h) h1 h2, ?_⟩
    rw [b2 h (Nat.zero_le h) h1, if_pos h2]
  have q2 : ∀ h, h < H → D h ≠ -1 → ν1.1 234 h = gq_I (-1) := fun h h1 h2 => by rw [b2 h (Nat.zero_le h) h1, if_neg h2]
  have d1 : ∀ h, 0 ≤ h → h < H → μ1.1 86 h = gq_I (D h) := fun h _ h1 => by rw [a3 86 h (by omega)]; exact (hS.1 h h1).1
  obtain ⟨μ2, e1, e2, e3, e4⟩ := gs_lg (ν := ν1) (a := 22 + 16 * s) (H := H) (D := D) (F := F) hr (by omega) (by omega) (fun h h1 => (hS.1 h h1).2.2.1) (k := fun (x3_17 : Int32) (μ18 : gx_M) => some (x3_17, μ18)) H 4000 0 μ1 (by omega) (by omega) (by rw [a3 _ _ (by omega)]; exact c0) q1 d1
  obtain ⟨ν2, f1, f2, f3, f4⟩ := gs_45 (μ := μ1) (H := H) (D := D) (F := F) (by omega) (k := fun (x1_29 : Int32) (μ30 : gx_M) => L_X12_goRound_94 (fun (μ46 : gx_M) => some (x1_29, μ46)) 4000 (gq_I 0) μ30) H 4000 0 ν1 (by omega) (by omega) (by rw [b3 _ _ (by omega)]; exact m0) q1 q2
  obtain ⟨ν3, g1, g2, g3, g4⟩ := gs_94 (μ := μ1) (H := H) (D := D) (F := F) (r := r) (by omega) (k := fun (μ46 : gx_M) => some (gq_I (gm_cnt (gs_G D F) H : Nat), μ46)) H 4000 0 ν2 (by omega) (by omega) (by rw [f3 _ _ (by omega), b3 _ _ (by omega)]; exact m0) (by rw [f3 _ _ (by omega), b3 _ _ (by omega)]; exact hS.2.2) (fun h h1 h2 => by rw [f3 _ _ (by omega)]; exact q1 h h1 h2) (fun h h1 h2 => by rw [f3 _ _ (by omega)]; exact q2 h h1 h2)
  have kc : gs_kc μ μ2 := ⟨fun a ha => by funext j; rw [e3 a j (by omega), a3 a j (by omega)], by rw [e4, a4]⟩
  have km : gs_km ν ν3 := ⟨fun a j h1 h2 => by rw [g3 a j (by omega), f3 a j (by omega), b3 a j (by omega)], by rw [g4, f4, b4]⟩
  have cpos : 1 ≤ gm_cnt (gs_G D F) H := by
    have ex : ∃ p, p < H ∧ D p = -1 := by
      by_cases g : ∃ p, p < H ∧ D p = -1
      · exact g
      · have z : gs_rem D H = 0 := gm_cnt_0 fun j hj => decide_eq_false fun c => g ⟨j, hj, c⟩
        omega
    obtain ⟨p, p1, p2⟩ := ex
    obtain ⟨q, ⟨x1, x2⟩, x3⟩ := gs_some (F := F) (P := fun i => i < H ∧ D i = -1) (x := p) ⟨p1, p2⟩ (fun i hi => ⟨(hF i hi.1 hi.2).1, (hF i hi.1 hi.2).2.1⟩) fun i hi => by omega
    exact gm_cnt_pos x1 (by rw [gs_G1 x2]; exact x3)
  obtain ⟨D1, hD1⟩ : ∃ D1 : Nat → Int, ∀ h, D1 h = if gs_G D F h = true then (r : Int) else D h := ⟨fun h => if gs_G D F h = true then (r : Int) else D h, fun _ => rfl⟩
  obtain ⟨E1, hE1⟩ : ∃ E1 : Nat → Nat, ∀ h, E1 h = if gs_G D F h = true then F h else E h := ⟨fun h => if gs_G D F h = true then F h else E h, fun _ => rfl⟩
  refine ⟨gm_cnt (gs_G D F) H, D1, E1, μ1, μ2, ν3, cpos, ?_, a1, ?_, ?_, gs_fx_w hs hx kc km, ⟨fun h hh => ?_, ?_, ?_⟩, kc, km⟩
  · refine (gm_cnt_add fun j hj => ?_).symm
    show (decide (D j = -1)).toNat = (decide (D1 j = -1)).toNat + (gs_G D F j).toNat
    rw [hD1 j]
    cases hg : gs_G D F j
    · rw [if_neg (by decide)]; rfl
    · have gD : D j = -1 := by
        by_cases g : D j = -1
        · exact g
        · rw [gs_G0 g] at hg; exact absurd hg (by decide)
      rw [if_pos rfl, decide_eq_true gD, decide_eq_false (by omega)]
      rfl
  · unfold f_X10_letGo
    exact e1
  · unfold f_X12_goRound
    simp only [gq_lit]
    refine Eq.trans b1 ?_
    refine Eq.trans f1 ?_
    exact g1
  · obtain ⟨s1, s2, s3, s4⟩ := hS.1 h hh
    have eG := e2 h (Nat.zero_le h) hh
    have fG := f2 h (Nat.zero_le h) hh
    have gG := g2 h (Nat.zero_le h) hh
    have n232 : ν3.1 232 h = ν2.1 232 h := g3 _ _ (by omega)
    have n233 : ν2.1 233 h = ν.1 233 h := by rw [f3 _ _ (by omega), b3 _ _ (by omega)]
    have n232' : ν1.1 232 h = ν.1 232 h := b3 _ _ (by omega)
    have n85 : μ1.1 85 h = μ.1 85 h := a3 _ _ (by omega)
    cases hg : gs_G D F h
    · have t1 := eG.2 hg
      have t2 := fG.2 hg
      have t3 := gG.2 hg
      rw [hD1 h, hE1 h, hg, if_neg (by decide), if_neg (by decide), t1.1, t1.2, t3, n232, t2, n233, n232', n85]
      exact ⟨rfl, s2, s3, s4⟩
    · have gD : D h = -1 := by
        by_cases g : D h = -1
        · exact g
        · rw [gs_G0 g] at hg; exact absurd hg (by decide)
      have t1 := eG.1 hg
      have t2 := fG.1 hg
      have t3 := gG.1 hg
      rw [hD1 h, hE1 h, hg, if_pos rfl, if_pos rfl, t1.1, t1.2, t3, n232, t2]
      exact ⟨rfl, rfl, Or.inr (by omega), fun _ => ⟨rfl, rfl, (hF h hh gD).1⟩⟩
  · rw [e3 _ _ (by omega), a3 _ _ (by omega)]; exact hS.2.1
  · rw [g3 _ _ (by omega), f3 _ _ (by omega), b3 _ _ (by omega)]; exact hS.2.2
theorem gs_setL {s H : Nat} {v : Nat → Int} (hs : s < 2) (ov : gq_okV v) (hH : v 0 = H) {k : gx_M → Option (Unit × gx_M)} {k2 : gx_M → Option (Bool × gx_M)} : ∀ (d f f2 r : Nat) (D : Nat → Int) (E : Nat → Nat) (μ ν : gx_M), gs_rem D H ≤ d → d < f → d < f2 → r + gs_rem D H ≤ H → gs_fx μ ν s v → gs_S μ ν H r D E → ∃ (r' : Nat) (D' : Nat → Int) (E' : Nat → Nat) (μ' ν' : gx_M), L_X10_settle_17 (22 + 16 * s) k f (gq_I ((H : Int) - gs_rem D H)) (gq_I r) μ = k μ' ∧ L_X12_hasSwap_70 k2 f2 (gq_I (gs_rem D H : Nat)) ν = k2 ν' ∧ gs_fx μ' ν' s v ∧ gs_S μ' ν' H r' D' E' ∧ (∀ h, h < H → D' h ≠ -1) ∧ gs_kc μ μ' ∧ gs_km ν ν'
  | _, 0, _, _, _, _, _, _, _, hf, _, _, _, _ => absurd hf (Nat.not_lt_zero _)
  | _, _, 0, _, _, _, _, _, _, _, hf, _, _, _ => absurd hf (Nat.not_lt_zero _)
  | d, f + 1, f2 + 1, r, D, E, μ, ν, hd, hf, hf2, hr, hx, hS => by
    have o0 := ov.1
    have c0 : μ.1 (22 + 16 * s) 0 = gq_I H := by rw [hx.1.1, hH]
    by_cases R0 : gs_rem D H = 0
    · refine ⟨r, D, E, μ, ν, ?_, ?_, hx, hS, fun h hh c => ?_, gs_kc_r μ, gs_km_r ν⟩
      · rw [L_X10_settle_17.eq_2, c0, R0]
        by_cases r6 : 6 ≤ r
        · simp (disch := omega) only [Int.reduceToNat, gq_lit, gq_neg, gq_add, gq_sub, gq_mul, gq_nat, Int.toNat_natCast, gq_tadd, gq_tmul, gq_lte, gq_br, gq_bd, gq_ck, Bool.false_eq_true, gq_leT, gq_leF, gq_ltT, gq_ltF, gq_eqT, gq_eqF, if_true, if_false]
        · simp (disch := omega) only [Int.reduceToNat, gq_lit, gq_neg, gq_add, gq_sub, gq_mul, gq_nat, Int.toNat_natCast, gq_tadd, gq_tmul, gq_lte, gq_br, gq_bd, gq_ck, Bool.false_eq_true, gq_leT, gq_leF, gq_ltT, gq_ltF, gq_eqT, gq_eqF, if_true, if_false]
      · rw [L_X12_hasSwap_70.eq_2, R0]
        simp (disch := omega) only [Int.reduceToNat, gq_lit, gq_neg, gq_add, gq_sub, gq_mul, gq_nat, Int.toNat_natCast, gq_tadd, gq_tmul, gq_lte, gq_br, gq_bd, gq_ck, Bool.false_eq_true, gq_leT, gq_leF, gq_ltT, gq_ltF, gq_eqT, gq_eqF, if_true, if_false]
      · have := gm_cnt_z R0 hh
        rw [decide_eq_true c] at this
        exact absurd this (by decide)
    · obtain ⟨c, D1, E1, μ1, μ2, ν2, h1, h2, h3, h4, h5, h6, h7, h8, h9⟩ := gs_round hs ov hH (by omega) hx hS (by omega)
      cases d with
      | zero => omega
      | succ d =>
        obtain ⟨r', D', E', μ', ν', i1, i2, i3, i4, i5, i6, i7⟩ := gs_setL hs ov hH (k := k) (k2 := k2) d f f2 (r + 1) D1 E1 (gx_uI μ2 84 3 (gq_I (r + 1 : Nat))) (gx_uI ν2 206 51 (gq_I (r + 1 : Nat))) (by omega) (by omega) (by omega) (by omega) (gs_fx_w hs h6 ⟨fun a ha => gq_urow (by omega), rfl⟩ ⟨fun a j g1 g2 => by rw [gq_uI1, if_neg g1], rfl⟩) ⟨fun h hh => by
          rw [gq_urow (by omega), gq_urow (by omega), gq_urow (by omega), gq_urow (by omega)]
          exact h7.1 h hh, by rw [gq_uI1, if_pos ⟨rfl, rfl⟩], by rw [gq_uI1, if_pos ⟨rfl, rfl⟩]⟩
        have kc1 : gs_kc μ2 (gx_uI μ2 84 3 (gq_I (r + 1 : Nat))) := ⟨fun a ha => gq_urow (by omega), rfl⟩
        have km1 : gs_km ν2 (gx_uI ν2 206 51 (gq_I (r + 1 : Nat))) := ⟨fun a j g1 g2 => by rw [gq_uI1, if_neg g1], rfl⟩
        refine ⟨r', D', E', μ', ν', ?_, ?_, i3, i4, i5, gs_kc_tr (gs_kc_tr h8 kc1) i6, gs_km_tr (gs_km_tr h9 km1) i7⟩
        · have z : μ2.1 84 3 = gq_I r := h7.2.1
          rw [← i1, L_X10_settle_17.eq_2, c0]
          simp (disch := omega) only [Int.reduceToNat, gq_lit, gq_neg, gq_add, gq_sub, gq_mul, gq_nat, Int.toNat_natCast, gq_tadd, gq_tmul, gq_lte, gq_br, gq_bd, gq_ck, Bool.false_eq_true, gq_leT, gq_leF, gq_ltT, gq_ltF, gq_eqT, gq_eqF, if_true, if_false, h3, h4, z]
          rw [show (H : Int) - gs_rem D H + c = (H : Int) - gs_rem D1 H by omega]
          rfl
        · have z : ν2.1 206 51 = gq_I r := h7.2.2
          rw [← i2, L_X12_hasSwap_70.eq_2]
          simp (disch := omega) only [Int.reduceToNat, gq_lit, gq_neg, gq_add, gq_sub, gq_mul, gq_nat, Int.toNat_natCast, gq_tadd, gq_tmul, gq_lte, gq_br, gq_bd, gq_ck, gq_sub, Bool.false_eq_true, gq_leT, gq_leF, gq_ltT, gq_ltF, gq_eqT, gq_eqF, if_true, if_false, h5, z]
          rw [show (gs_rem D H : Int) - c = (gs_rem D1 H : Nat) by omega]
          rfl
theorem gs_h34 {k : gx_M → Option (Bool × gx_M)} : ∀ (d f i : Nat) (ν : gx_M), d < f → i + d = 6 → ∃ ν', L_X12_hasSwap_34 k f (gq_I i) ν = k ν' ∧ (∀ h, i ≤ h → h < 6 → ν'.1 233 h = gq_I (-1)) ∧ (∀ x j, ¬ ((x = 233 ∨ x = 232) ∧ i ≤ j) → ν'.1 x j = ν.1 x j) ∧ ν'.2 = ν.2
  | _, 0, _, _, hf, _ => absurd hf (Nat.not_lt_zero _)
  | 0, f + 1, i, ν, hf, hi => by
    refine ⟨ν, ?_, fun h h1 h2 => absurd h2 (by omega), fun _ _ _ => rfl, rfl⟩
    rw [L_X12_hasSwap_34.eq_2]
    simp (disch := omega) only [Int.reduceToNat, gq_lit, gq_neg, gq_add, gq_sub, gq_mul, gq_nat, Int.toNat_natCast, gq_tadd, gq_tmul, gq_lte, gq_br, gq_bd, gq_ck, Bool.false_eq_true, gq_leT, gq_leF, gq_ltT, gq_ltF, gq_eqT, gq_eqF, if_true, if_false]
  | d + 1, f + 1, i, ν, hf, hi => by
    obtain ⟨ν', e1, e2, e3, e4⟩ := gs_h34 (k := k) d f (i + 1) (gx_uI (gx_uI ν 233 i (gq_I (-1))) 232 i (gq_I i)) (by omega) (by omega)
    refine ⟨ν', ?_, fun h h1 h2 => ?_, fun x j hn => ?_, e4⟩
    · rw [← e1, L_X12_hasSwap_34.eq_2]
      simp (disch := omega) only [Int.reduceToNat, gq_lit, gq_neg, gq_add, gq_sub, gq_mul, gq_nat, Int.toNat_natCast, gq_tadd, gq_tmul, gq_lte, gq_br, gq_bd, gq_ck, Bool.false_eq_true, gq_leT, gq_leF, gq_ltT, gq_ltF, gq_eqT, gq_eqF, if_true, if_false]
      rfl
    · by_cases z : h = i
      · rw [z, e3 233 i (by omega), gq_urow (by omega), gq_uI1, if_pos ⟨rfl, rfl⟩]
      · exact e2 h (by omega) h2
    · rw [e3 x j (by omega), gq_uI1, if_neg (by omega), gq_uI1, if_neg (by omega)]
/-- the opening of a question about swaps: the check settles at once -/
theorem gq_opV {μ : gx_M} (hI : gq_inv μ) {z : Int} (hz : -2147483648 ≤ z ∧ z < 2147483648) : (f_X11_hasSwaps (gq_I z) μ = some false ∧ ∀ ν, gq_sm gq_Pc μ ν → ∃ μ2, f_X12_hasSwap (gq_I z) (gx_uI ν 206 0 (gq_I 0)) = some (false, μ2) ∧ gq_sm gq_Pm ν μ2) ∨ ∃ (s H : Nat) (v : Nat → Int), s < 2 ∧ z = s ∧ gq_okV v ∧ v 0 = H ∧ gq_cV μ (22 + 16 * s) v ∧ f_X11_hasSwaps (gq_I z) μ = some true ∧ ∀ ν, gq_sm gq_Pc μ ν → ∃ (r : Nat) (D : Nat → Int) (E : Nat → Nat) (μ' ν' : gx_M), f_X10_settle (22 + 16 * s) μ = some ((), μ') ∧ f_X12_hasSwap (gq_I z) (gx_uI ν 206 0 (gq_I 0)) = some (true, ν') ∧ gs_fx μ' ν' s v ∧ gs_S μ' ν' H r D E ∧ (∀ h, h < H → D h ≠ -1) ∧ gq_sm gq_Pc μ μ' ∧ gq_sm gq_Pm ν ν' := by
  obtain ⟨⟨tp, n, f, q, N, W, Y, G, V, ok, hc, hm⟩, -, -⟩ := hI
  rw [gq_ad_0] at hc
  have n0 := ok.2.2.1 3 (by omega)
  have c1 : μ.1 2 3 = gq_I (N 3) := hc.2.2.1 3 (by omega)
  have m1 : μ.1 211 3 = gq_I (N 3) := hm.2.2.1 3 (by omega)
  have hs := gq_hasV c1 n0 hz
  have his : ∀ ν, gq_sm gq_Pc μ ν → f_X12_is (gq_I 3) (gq_I z) (gx_uI (gx_uI ν 206 0 (gq_I 0)) 206 49 (gq_I z)) = some (decide (0 ≤ z ∧ z < N 3)) := fun ν hν => by
    have e211 : ν.1 211 = μ.1 211 := (hν 211 (by unfold gq_Pc; omega)).1
    exact gq_is (q := 3) hz (by omega) n0 (by rw [gq_uI1, if_neg (by omega), gq_uI1, if_neg (by omega), e211]; exact m1)
  have sm : ∀ ν, gq_sm gq_Pm ν (gx_uI (gx_uI ν 206 0 (gq_I 0)) 206 49 (gq_I z)) := fun ν => gq_sm_uI gq_Pm206 (gq_sm_uI gq_Pm206 gq_sm_rf)
  by_cases h : 0 ≤ z ∧ z < N 3
  · rw [decide_eq_true h] at hs his
    have ov := ok.2.2.2.2.2.2 z.toNat (by omega)
    have o0 := ov.1
    obtain ⟨s, es⟩ : ∃ s : Nat, s = z.toNat := ⟨_, rfl⟩
    obtain ⟨v, ev⟩ : ∃ v, v = V z.toNat := ⟨_, rfl⟩
    have hcv := hc.2.2.2.2.2.2 z.toNat (by omega)
    rw [← ev] at ov o0 hcv
    rw [← es] at hcv
    rw [show 1 + 21 + 16 * s = 22 + 16 * s by omega] at hcv
    obtain ⟨H, hH⟩ : ∃ H : Nat, v 0 = H := ⟨(v 0).toNat, by omega⟩
    refine Or.inr ⟨s, H, v, by omega, by omega, ov, hH, hcv, hs, fun ν hν => ?_⟩
    have e215 : ν.1 215 = μ.1 215 := (hν 215 (by unfold gq_Pc; omega)).1
    obtain ⟨ν1, hν1⟩ : ∃ ν1, ν1 = gx_uI (gx_uI (gx_uI ν 206 0 (gq_I 0)) 206 49 (gq_I z)) 206 50 (gq_I H) := ⟨_, rfl⟩
    have mv : gq_mV ν s v := fun j hj => by
      have := hm.2.2.2.2.2.2 z.toNat (by omega) j hj
      rw [show 2 * 0 + z.toNat = z.toNat by omega, ← ev, ← es] at this
      rw [e215]
      exact this
    obtain ⟨ν2, b1, b2, b3, b4⟩ := gs_h34 (k := fun (μ14 : gx_M) => gx_lt (gx_uI μ14 206 51 (gq_I 0)) (fun (μ15 : gx_M) => gx_lt (μ15.1 206 50) (fun (x16 : Int32) => L_X12_hasSwap_70 (fun (μ26 : gx_M) => some (true, μ26)) 4000 x16 μ15))) 6 4000 0 ν1 (by omega) (by omega)
    obtain ⟨ν3, hν3⟩ : ∃ ν3, ν3 = gx_uI ν2 206 51 (gq_I 0) := ⟨_, rfl⟩
    have t3 : ∀ a j, a ≠ 206 → a ≠ 232 → a ≠ 233 → ν3.1 a j = ν.1 a j := fun a j g1 g2 g3 => by
      rw [hν3, gq_urow (by omega), b3 a j (by omega), hν1, gq_urow (by omega), gq_urow (by omega), gq_urow (by omega)]
    obtain ⟨μ1, a1, a2, a3, a4⟩ := gp_af (a := 86) (n := 6) (gq_I (-1)) (by omega) μ
    obtain ⟨μ2, hμ2⟩ : ∃ μ2, μ2 = gx_uI μ1 84 3 (gq_I 0) := ⟨_, rfl⟩
    have u2 : ∀ a j, a ≠ 84 → a ≠ 86 → μ2.1 a j = μ.1 a j := fun a j g1 g2 => by rw [hμ2, gq_urow (by omega), a3 a j (by omega)]
    have h50 : ν3.1 206 50 = gq_I H := by
      rw [hν3, gq_uI1, if_neg (by omega), b3 206 50 (by omega), hν1, gq_uI1, if_pos ⟨rfl, rfl⟩]
    have hx : gs_fx μ2 ν3 s v := by
      refine ⟨gq_cV_sm hcv fun i hi => by funext j; exact u2 _ _ (by omega) (by omega), ?_, by rw [hH]; exact h50, fun j hj => ?_⟩
      · rw [hν3, gq_uI1, if_neg (by omega), b3 206 49 (by omega), hν1, gq_uI1, if_neg (by omega), gq_uI1, if_pos ⟨rfl, rfl⟩, es, Int.toNat_of_nonneg h.1]
      · rw [t3 _ _ (by omega) (by omega) (by omega)]; exact mv j hj
    have hS : gs_S μ2 ν3 H 0 (fun _ => -1) (fun _ => 0) := by
      refine ⟨fun h hh => ⟨?_, ?_, Or.inl rfl, fun c => absurd rfl c⟩, ?_, ?_⟩
      · rw [hμ2, gq_urow (by omega)]; exact a2 h (by omega)
      · rw [hν3, gq_urow (by omega)]; exact b2 h (Nat.zero_le h) (by omega)
      · rw [hμ2, gq_uI1, if_pos ⟨rfl, rfl⟩]; rfl
      · rw [hν3, gq_uI1, if_pos ⟨rfl, rfl⟩]; rfl
    have hR : gs_rem (fun _ => -1) H = H := by
      have : ∀ n, gm_cnt (fun _ => decide ((-1 : Int) = -1)) n = n := fun n => by
        induction n with
        | zero => rfl
        | succ n ih =>
          show gm_cnt (fun _ => decide ((-1 : Int) = -1)) n + 1 = n + 1
          rw [ih]
      exact this H
    obtain ⟨r', D', E', μ', ν', i1, i2, i3, i4, i5, i6, i7⟩ := gs_setL (by omega) ov hH (k := fun (μ17 : gx_M) => some ((), μ17)) (k2 := fun (μ26 : gx_M) => some (true, μ26)) H 4000 4000 0 (fun _ => -1) (fun _ => 0) μ2 ν3 (by omega) (by omega) (by omega) (by omega) hx hS
    rw [hR] at i1 i2
    refine ⟨r', D', E', μ', ν', ?_, ?_, i3, i4, i5, fun a ha => ⟨?_, ?_⟩, fun a ha => ⟨?_, ?_⟩⟩
    · unfold f_X10_settle
      simp only [gq_lit, gq_neg]
      rw [a1, gq_bd, gq_lte, ← hμ2]
      rw [show (H : Int) - (H : Nat) = 0 by omega] at i1
      exact i1
    · unfold f_X12_hasSwap
      simp only [gq_lit, gq_lte]
      rw [his ν hν, gq_br, if_pos rfl]
      have e49 : (gx_uI (gx_uI ν 206 0 (gq_I 0)) 206 49 (gq_I z)).1 206 49 = gq_I s := by rw [gq_uI1, if_pos ⟨rfl, rfl⟩, es, Int.toNat_of_nonneg h.1]
      have e37 := mv 0 (by omega)
      rw [e49, gq_mul, gq_ck (by omega), gq_nat (by omega), gq_urow (a := 206) (b := 215) (by omega), gq_urow (a := 206) (b := 215) (by omega), show (37 * (s : Int)).toNat = 37 * s + 0 by omega, e37, hH, ← hν1]
      refine Eq.trans b1 ?_
      simp only [gq_lte]
      rw [← hν3, h50]
      exact i2
    · unfold gq_Pc at ha
      rw [i6.1 a (by omega)]
      funext j
      exact u2 a j (by omega) (by omega)
    · rw [i6.2, hμ2]
      show μ1.2 a = μ.2 a
      rw [a4]
    · unfold gq_Pm at ha
      funext j
      rw [i7.1 a j (by omega) (by omega)]
      exact t3 a j (by omega) (by omega) (by omega)
    · rw [i7.2, hν3]
      show ν2.2 a = ν.2 a
      rw [b4, hν1]
      rfl
  · rw [decide_eq_false h] at hs his
    refine Or.inl ⟨hs, fun ν hν => ⟨_, ?_, sm ν⟩⟩
    unfold f_X12_hasSwap
    simp only [gq_lte, gq_lit]
    rw [his ν hν]
    rfl
