/-! happy: who is content; the call -/
theorem gi_or0 (x : Int32) : x ||| gq_I 0 = x := gi_ext fun j hj => by
  rw [gi_or, gi_0 j hj]
  cases gi_b x j <;> rfl
theorem gs_hasB {μ ν : gx_M} {s H p : Nat} {v : Nat → Int} {E : Nat → Nat} (h : gs_E μ ν s H v E) (hp : p < H) : ∀ (d f i : Nat), d < f → i + d = H → ∃ r : Bool, L_X10_hasBest_2 μ (22 + 16 * s) (gq_I p) (some true) f (gq_I i) = some r ∧ (r = true ↔ ∀ o : Nat, i ≤ o → o < H → gs_W v p o ≤ gs_W v p (E p))
  | _, 0, _, hf, _ => absurd hf (Nat.not_lt_zero _)
  | 0, f + 1, i, hf, hi => by
    have h6 := h.2.2.2
    refine ⟨true, ?_, fun _ o h1 h2 => absurd h2 (by omega), fun _ => rfl⟩
    rw [L_X10_hasBest_2.eq_2, h.1.1]
    simp (disch := omega) only [Int.reduceToNat, gq_lit, gq_neg, gq_add, gq_sub, gq_mul, gq_nat, Int.toNat_natCast, gq_tadd, gq_tmul, gq_lte, gq_br, gq_bd, gq_ck, Bool.false_eq_true, gq_leT, gq_leF, gq_ltT, gq_ltF, gq_eqT, gq_eqF, if_true, if_false]
  | d + 1, f + 1, i, hf, hi => by
    have h6 := h.2.2.2
    obtain ⟨ep, _, ep2⟩ := h.2.1 p hp
    obtain ⟨w1, _, w1a, w1b⟩ := h.2.2.1 p i (by omega) (by omega)
    obtain ⟨w2, _, w2a, w2b⟩ := h.2.2.1 p (E p) (by omega) (by omega)
    obtain ⟨r, r1, r2⟩ := gs_hasB h hp d f (i + 1) (by omega) (by omega)
    by_cases g : gs_W v p i ≤ gs_W v p (E p)
    · refine ⟨r, ?_, r2.trans ⟨fun c o h1 h2 => ?_, fun c o h1 h2 => c o (by omega) h2⟩⟩
      · rw [← r1, L_X10_hasBest_2.eq_2, h.1.1]
        simp (disch := omega) only [Int.reduceToNat, gq_lit, gq_neg, gq_add, gq_sub, gq_mul, gq_nat, Int.toNat_natCast, gq_tadd, gq_tmul, gq_lte, gq_br, gq_bd, gq_ck, Bool.false_eq_true, gq_leT, gq_leF, gq_ltT, gq_ltF, gq_eqT, gq_eqF, if_true, if_false, ep, w1, w2]
        rfl
      · by_cases e : o = i
        · subst e; exact g
        · exact c o (by omega) h2
    · refine ⟨false, ?_, fun c => absurd c (by decide), fun c => absurd (c i (Nat.le_refl _) (by omega)) g⟩
      rw [L_X10_hasBest_2.eq_2, h.1.1]
      simp (disch := omega) only [Int.reduceToNat, gq_lit, gq_neg, gq_add, gq_sub, gq_mul, gq_nat, Int.toNat_natCast, gq_tadd, gq_tmul, gq_lte, gq_br, gq_bd, gq_ck, Bool.false_eq_true, gq_leT, gq_leF, gq_ltT, gq_ltF, gq_eqT, gq_eqF, if_true, if_false, ep, w1, w2]
theorem gs_hasM {μ ν : gx_M} {s H p : Nat} {v : Nat → Int} {E : Nat → Nat} (h : gs_E μ ν s H v E) (hp : p < H) {k : Bool → Option Int32} : ∀ (d f i : Nat) (t : Bool), d < f → i + d = H → ∃ r : Bool, L_X12_happyOnes_17 ν (gq_I p) k f t (gq_I i) = k r ∧ (r = true ↔ t = true ∧ ∀ o : Nat, i ≤ o → o < H → gs_W v p o ≤ gs_W v p (E p))
  | _, 0, _, _, hf, _ => absurd hf (Nat.not_lt_zero _)
  | 0, f + 1, i, t, hf, hi => by
    have h6 := h.2.2.2
    refine ⟨t, ?_, fun c => ⟨c, fun o h1 h2 => absurd h2 (by omega)⟩, fun c => c.1⟩
    rw [L_X12_happyOnes_17.eq_2, h.1.2]
    simp (disch := omega) only [Int.reduceToNat, gq_lit, gq_neg, gq_add, gq_sub, gq_mul, gq_nat, Int.toNat_natCast, gq_tadd, gq_tmul, gq_lte, gq_br, gq_bd, gq_ck, Bool.false_eq_true, gq_leT, gq_leF, gq_ltT, gq_ltF, gq_eqT, gq_eqF, if_true, if_false]
  | d + 1, f + 1, i, t, hf, hi => by
    have h6 := h.2.2.2
    obtain ⟨_, ep, ep2⟩ := h.2.1 p hp
    obtain ⟨_, w1, w1a, w1b⟩ := h.2.2.1 p i (by omega) (by omega)
    obtain ⟨_, w2, w2a, w2b⟩ := h.2.2.1 p (E p) (by omega) (by omega)
    cases t with
    | false =>
      obtain ⟨r, r1, r2⟩ := gs_hasM h hp (k := k) d f (i + 1) false (by omega) (by omega)
      refine ⟨r, ?_, r2.trans ⟨fun c => absurd c.1 (by decide), fun c => absurd c.1 (by decide)⟩⟩
      rw [← r1, L_X12_happyOnes_17.eq_2, h.1.2]
      simp (disch := omega) only [Int.reduceToNat, gq_lit, gq_neg, gq_add, gq_sub, gq_mul, gq_nat, Int.toNat_natCast, gq_tadd, gq_tmul, gq_lte, gq_br, gq_bd, gq_ck, Bool.false_eq_true, gq_leT, gq_leF, gq_ltT, gq_ltF, gq_eqT, gq_eqF, if_true, if_false]
      rfl
    | true =>
      by_cases g : gs_W v p i ≤ gs_W v p (E p)
      · obtain ⟨r, r1, r2⟩ := gs_hasM h hp (k := k) d f (i + 1) true (by omega) (by omega)
        refine ⟨r, ?_, r2.trans ⟨fun c => ⟨rfl, fun o h1 h2 => ?_⟩, fun c => ⟨rfl, fun o h1 h2 => c.2 o (by omega) h2⟩⟩⟩
        · rw [← r1, L_X12_happyOnes_17.eq_2, h.1.2]
          simp (disch := omega) only [Int.reduceToNat, gq_lit, gq_neg, gq_add, gq_sub, gq_mul, gq_nat, Int.toNat_natCast, gq_tadd, gq_tmul, gq_lte, gq_br, gq_bd, gq_ck, Bool.false_eq_true, gq_leT, gq_leF, gq_ltT, gq_ltF, gq_eqT, gq_eqF, if_true, if_false, ep, w1, w2]
          rfl
        · by_cases e : o = i
          · subst e; exact g
          · exact c.2 o (by omega) h2
      · obtain ⟨r, r1, r2⟩ := gs_hasM h hp (k := k) d f (i + 1) false (by omega) (by omega)
        refine ⟨r, ?_, r2.trans ⟨fun c => absurd c.1 (by decide), fun c => absurd (c.2 i (Nat.le_refl _) (by omega)) g⟩⟩
        rw [← r1, L_X12_happyOnes_17.eq_2, h.1.2]
        simp (disch := omega) only [Int.reduceToNat, gq_lit, gq_neg, gq_add, gq_sub, gq_mul, gq_nat, Int.toNat_natCast, gq_tadd, gq_tmul, gq_lte, gq_br, gq_bd, gq_ck, Bool.false_eq_true, gq_leT, gq_leF, gq_ltT, gq_ltF, gq_eqT, gq_eqF, if_true, if_false, ep, w1, w2]
        rfl
theorem gs_conL {μ ν : gx_M} {s H : Nat} {v : Nat → Int} {E : Nat → Nat} (h : gs_E μ ν s H v E) {k k2 : Int32 → Option Int32} : ∀ (d f i : Nat) (z : Int32), d < f → i + d = H → ∃ z', L_X10_contented_4 μ (22 + 16 * s) k f z (gq_I i) = k z' ∧ L_X12_happyOnes_4 ν k2 f z (gq_I i) = k2 z'
  | _, 0, _, _, hf, _ => absurd hf (Nat.not_lt_zero _)
  | 0, f + 1, i, z, hf, hi => by
    have h6 := h.2.2.2
    refine ⟨z, ?_, ?_⟩
    · rw [L_X10_contented_4.eq_2, h.1.1]
      simp (disch := omega) only [Int.reduceToNat, gq_lit, gq_neg, gq_add, gq_sub, gq_mul, gq_nat, Int.toNat_natCast, gq_tadd, gq_tmul, gq_lte, gq_br, gq_bd, gq_ck, Bool.false_eq_true, gq_leT, gq_leF, gq_ltT, gq_ltF, gq_eqT, gq_eqF, if_true, if_false]
    · rw [L_X12_happyOnes_4.eq_2, h.1.2]
      simp (disch := omega) only [Int.reduceToNat, gq_lit, gq_neg, gq_add, gq_sub, gq_mul, gq_nat, Int.toNat_natCast, gq_tadd, gq_tmul, gq_lte, gq_br, gq_bd, gq_ck, Bool.false_eq_true, gq_leT, gq_leF, gq_ltT, gq_ltF, gq_eqT, gq_eqF, if_true, if_false]
  | d + 1, f + 1, i, z, hf, hi => by
    have h6 := h.2.2.2
    obtain ⟨r, r1, r2⟩ := gs_hasB h (p := i) (by omega) H 4000 0 (by omega) (by omega)
    have r1' : f_X10_hasBest (22 + 16 * s) (gq_I i) μ = some r := r1
    obtain ⟨z', i1, i2⟩ := gs_conL h (k := k) (k2 := k2) d f (i + 1) (if r = true then z ||| (gq_I 1 <<< (gq_I i &&& gq_I 31)) else z) (by omega) (by omega)
    obtain ⟨t, t1, t2⟩ := gs_hasM h (p := i) (by omega) (k := fun (x3_18 : Bool) => gx_lt (fun (j0_21 : Int32) => gx_lt (z ||| j0_21) (fun (x22 : Int32) => L_X12_happyOnes_4 ν k2 f x22 (gq_I i + 1))) (fun J19 => if x3_18 = true then J19 ((1 : Int32) <<< (gq_I i &&& 31)) else J19 0)) H 4000 0 true (by omega) (by omega)
    have e : t = r := by
      cases r with
      | true => exact t2.mpr ⟨rfl, r2.mp rfl⟩
      | false =>
        cases t with
        | false => rfl
        | true => exact absurd (r2.mpr (t2.mp rfl).2) (by decide)
    subst e
    refine ⟨z', ?_, ?_⟩
    · rw [← i1, L_X10_contented_4.eq_2, h.1.1]
      simp (disch := omega) only [Int.reduceToNat, gq_lit, gq_neg, gq_add, gq_sub, gq_mul, gq_nat, Int.toNat_natCast, gq_tadd, gq_tmul, gq_lte, gq_br, gq_bd, gq_ck, Bool.false_eq_true, gq_leT, gq_leF, gq_ltT, gq_ltF, gq_eqT, gq_eqF, if_true, if_false, r1']
      cases t <;> rfl
    · rw [← i2, L_X12_happyOnes_4.eq_2, h.1.2]
      refine (if_neg (by rw [gq_le (by omega)]; omega)).trans ?_
      refine t1.trans ?_
      cases t with
      | true =>
        simp only [gq_lit, gq_lte, if_true, gq_add]
        rfl
      | false =>
        simp only [gq_lit, gq_lte, Bool.false_eq_true, if_false, gi_or0, gq_add]
        rfl
theorem gs_E_of {μ ν : gx_M} {s H r : Nat} {v : Nat → Int} {D : Nat → Int} {E : Nat → Nat} (hs : s < 2) (ov : gq_okV v) (hH : v 0 = H) (hx : gs_fx μ ν s v) (hS : gs_S μ ν H r D E) (hD : ∀ h, h < H → D h ≠ -1) : gs_E μ ν s H v E := by
  have o0 := ov.1
  refine ⟨⟨by rw [hx.1.1, hH], by rw [hx.2.2.1, hH]⟩, fun h hh => (hS.1 h hh).2.2.2 (hD h hh), fun p q hp hq => ⟨gs_wc hx.1 hp hq, gs_wm hx.2.1 hs hx.2.2.2 hp hq, ?_⟩, by omega⟩
  have := ov.2 (6 * p + q) (by omega)
  unfold gs_W
  rw [show 1 + (6 * p + q) = 1 + (6 * p + q) from rfl]
  exact this
theorem gs_tl6 {P : Nat → Bool} {H : Nat} (hH : H ≤ 6) (hP : ∀ j, 6 * H ≤ j → j < 36 → P j = false) : gm_cnt P 36 = gm_cnt P (6 * H) := by
  have := gm_cnt_tail (b := P) (i := 6 * H) (n := 36 - 6 * H) fun j h1 h2 => hP j h1 (by omega)
  rw [show 6 * H + (36 - 6 * H) = 36 by omega] at this
  exact this
theorem gq_e_happy {μ : gx_M} (hI : gq_inv μ) (p1 p2 : Int32) : gq_st (f_X11_happy p1 p2) (f_X12_happy p1 p2) μ := by
  obtain ⟨z, hz, rfl⟩ := gq_ex p1
  obtain ⟨x, hxx, rfl⟩ := gq_ex p2
  refine gq_two hI fun ν0 hν => ?_
  rcases gq_opV hI hz with ⟨h1, h2⟩ | ⟨s, H, v, hs, rfl, ov, hH, hc, h1, h2⟩
  · obtain ⟨μ2, a1, a2⟩ := h2 ν0 hν
    refine ⟨gq_I (-1), μ, μ2, ?_, ?_, gq_sm_rf, a2⟩
    · unfold f_X11_happy
      rw [h1]
      rfl
    · unfold f_X12_happy
      rw [gq_lte, gq_lit, a1]
      rfl
  · obtain ⟨r, D, E, μ', ν', a1, a2, hx, hS, hD, a3, a4⟩ := h2 ν0 hν
    have o0 := ov.1
    have hE := gs_E_of hs ov hH hx hS hD
    have fin : ∀ t, f_X11_happy (gq_I s) (gq_I x) μ = some (t, μ') → f_X12_happy (gq_I s) (gq_I x) ν0 = some (t, ν') → ∃ r μ' ν', f_X11_happy (gq_I s) (gq_I x) μ = some (r, μ') ∧ f_X12_happy (gq_I s) (gq_I x) ν0 = some (r, ν') ∧ gq_sm gq_Pc μ μ' ∧ gq_sm gq_Pm ν0 ν' := fun t t1 t2 => ⟨t, μ', ν', t1, t2, a3, a4⟩
    obtain ⟨k, hk⟩ : ∃ k : Int32 → gx_M → Option (Int32 × gx_M), k = fun (x3_52 : Int32) (μ53 : gx_M) => if gq_I x = 0 then gx_br (f_X12_happyOnes μ53) (fun (r55 : Int32) => some (r55, μ53)) else some (x3_52, μ53) := ⟨_, rfl⟩
    have m12 : 0 ≤ x ∧ x ≤ 2 → f_X12_happy (gq_I s) (gq_I x) ν0 = L_X12_happy_29 (gq_I x) k 4000 (gq_I 0) (gq_I 0) ν' := fun g => by
      unfold f_X12_happy
      rw [gq_lte, gq_lit, a2, gq_bd, if_pos rfl, hk]
      simp (disch := omega) only [gq_lit, gq_inT, if_true]
    by_cases x0 : x = 0
    · subst x0
      obtain ⟨y, y1, y2⟩ := gs_conL hE (k := fun x => some x) (k2 := fun x => some x) H 4000 0 (gq_I 0) (by omega) (by omega)
      have z1 : f_X10_contented (22 + 16 * s) μ' = some y := y1
      have z2 : f_X12_happyOnes ν' = some y := y2
      refine fin y ?_ ?_
      · unfold f_X11_happy
        simp (disch := omega) only [Int.reduceToNat, gq_lit, gq_neg, gq_add, gq_sub, gq_mul, gq_nat, Int.toNat_natCast, gq_tadd, gq_tmul, gq_lte, gq_br, gq_bd, gq_ck, Bool.false_eq_true, gq_leT, gq_leF, gq_ltT, gq_ltF, gq_eqT, gq_eqF, if_true, if_false, h1, a1, z1]
      · rw [m12 (by omega)]
        have c := gs_c2 (q := 0) (by omega) hE (k := k) 36 4000 0 (by omega) (by omega)
        refine c.trans ?_
        rw [hk]
        show (if gq_I 0 = 0 then gx_br (f_X12_happyOnes ν') (fun (r55 : Int32) => some (r55, ν')) else _) = _
        rw [if_pos (show gq_I 0 = (0 : Int32) from rfl), z2]
        rfl
    by_cases x1 : x = 1
    · subst x1
      have c1 := gs_pr4 hE (k := fun x => some x) H 4000 0 (by omega) (by omega)
      have z1 : f_X6_pairs (22 + 16 * s) μ' = some (gq_I (gm_cnt (gs_pr v E H) (6 * H) : Nat)) := c1
      refine fin (gq_I (gm_cnt (gs_pr v E H) (6 * H) : Nat)) ?_ ?_
      · unfold f_X11_happy
        simp (disch := omega) only [Int.reduceToNat, gq_lit, gq_neg, gq_add, gq_sub, gq_mul, gq_nat, Int.toNat_natCast, gq_tadd, gq_tmul, gq_lte, gq_br, gq_bd, gq_ck, Bool.false_eq_true, gq_leT, gq_leF, gq_ltT, gq_ltF, gq_eqT, gq_eqF, if_true, if_false, h1, a1, z1]
      · rw [m12 (by omega)]
        have c := gs_c1 (q := 1) rfl hE (k := k) 36 4000 0 (by omega) (by omega)
        refine c.trans ?_
        rw [gs_tl6 (H := H) (by omega) fun j h1 h2 => by
          unfold gs_pr
          exact decide_eq_false fun c => absurd c.1.1 (by omega)]
        rw [hk]
        show (if gq_I 1 = 0 then _ else some (_, ν')) = _
        rw [if_neg (by decide)]
    by_cases x2 : x = 2
    · subst x2
      have c1 := gs_env4 hE (k := fun x => some x) H 4000 0 (by omega) (by omega)
      have z1 : f_X10_envy (22 + 16 * s) μ' = some (gq_I (gm_cnt (gs_en v E H) (6 * H) : Nat)) := c1
      refine fin (gq_I (gm_cnt (gs_en v E H) (6 * H) : Nat)) ?_ ?_
      · unfold f_X11_happy
        simp (disch := omega) only [Int.reduceToNat, gq_lit, gq_neg, gq_add, gq_sub, gq_mul, gq_nat, Int.toNat_natCast, gq_tadd, gq_tmul, gq_lte, gq_br, gq_bd, gq_ck, Bool.false_eq_true, gq_leT, gq_leF, gq_ltT, gq_ltF, gq_eqT, gq_eqF, if_true, if_false, h1, a1, z1]
      · rw [m12 (by omega)]
        have c := gs_c2 (q := 2) (by omega) hE (k := k) 36 4000 0 (by omega) (by omega)
        refine c.trans ?_
        rw [gs_tl6 (H := H) (by omega) fun j h1 h2 => by
          unfold gs_en
          exact decide_eq_false fun c => absurd c.1.1 (by omega)]
        rw [hk]
        show (if gq_I 2 = 0 then _ else some (_, ν')) = _
        rw [if_neg (by decide)]
    · refine fin (gq_I (-1)) ?_ ?_
      · unfold f_X11_happy
        simp (disch := omega) only [Int.reduceToNat, gq_lit, gq_neg, gq_add, gq_sub, gq_mul, gq_nat, Int.toNat_natCast, gq_tadd, gq_tmul, gq_lte, gq_br, gq_bd, gq_ck, Bool.false_eq_true, gq_leT, gq_leF, gq_ltT, gq_ltF, gq_eqT, gq_eqF, if_true, if_false, h1, a1]
      · unfold f_X12_happy
        rw [gq_lte, gq_lit, a2, gq_bd, if_pos rfl]
        simp (disch := omega) only [Int.reduceToNat, gq_lit, gq_neg, gq_add, gq_sub, gq_mul, gq_nat, Int.toNat_natCast, gq_tadd, gq_tmul, gq_lte, gq_br, gq_bd, gq_ck, Bool.false_eq_true, gq_leT, gq_leF, gq_ltT, gq_ltF, gq_eqT, gq_eqF, if_true, if_false, gq_inF]
