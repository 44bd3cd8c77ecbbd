/-! swaps: round after round, on both sides -/
theorem gq_I_inj {a b : Nat} (ha : a < 2147483648) (hb : b < 2147483648) (h : gq_I a = gq_I b) : a = b := by
  rw [gq_eq (by omega)] at h
  omega
theorem gm_cnt_pos {b : Nat → Bool} {p : Nat} : ∀ {n : Nat}, p < n → b p = true → 1 ≤ gm_cnt b n
  | 0, h, _ => absurd h (Nat.not_lt_zero _)
  | n + 1, h, hb => by
    show 1 ≤ gm_cnt b n + (b n).toNat
    by_cases e : p = n
    · rw [← e, hb]
      have : (true).toNat = 1 := rfl
      omega
    · have := gm_cnt_pos (b := b) (n := n) (by omega) hb
      omega
theorem gm_cnt_z {b : Nat → Bool} {n : Nat} (h : gm_cnt b n = 0) {p : Nat} (hp : p < n) : b p = false := by
  cases hb : b p
  · rfl
  · have := gm_cnt_pos hp hb
    omega
theorem gm_cnt_add {a b c : Nat → Bool} : ∀ {n : Nat}, (∀ j, j < n → (a j).toNat = (b j).toNat + (c j).toNat) → gm_cnt a n = gm_cnt b n + gm_cnt c n
  | 0, _ => rfl
  | n + 1, h => by
    have i := gm_cnt_add (n := n) fun j hj => h j (by omega)
    have e := h n (by omega)
    show gm_cnt a n + (a n).toNat = gm_cnt b n + (b n).toNat + (gm_cnt c n + (c n).toNat)
    omega
theorem gs_pA {ν : gx_M} {s H r : Nat} {v : Nat → Int} {D : Nat → Int} {E F : Nat → Nat} (hs : s < 2) (ov : gq_okV v) (hH : v 0 = H) (hF : ∀ h, h < H → D h = -1 → F h < H ∧ f_X12_pointOf (gq_I h) ν = some (gq_I (F h))) {k : gx_M → Option (Unit × gx_M)} : ∀ (d f i : Nat) (μ : gx_M), d < f → i + d = H → gs_fx μ ν s v → gs_S μ ν H r D E → ∃ μ', L_X10_pointAll_2 (22 + 16 * s) k f (gq_I i) μ = k μ' ∧ (∀ h, i ≤ h → h < H → D h = -1 → μ'.1 87 h = gq_I (F h)) ∧ (∀ x j, ¬ (x = 87 ∧ i ≤ j) → μ'.1 x j = μ.1 x j) ∧ μ'.2 = μ.2
  | _, 0, _, _, hf, _, _, _ => absurd hf (Nat.not_lt_zero _)
  | 0, f + 1, i, μ, hf, hi, hx, hS => by
    have o0 := ov.1
    have c0 : μ.1 (22 + 16 * s) 0 = gq_I H := by rw [hx.1.1, hH]
    refine ⟨μ, ?_, fun h h1 h2 => absurd h2 (by omega), fun _ _ _ => rfl, rfl⟩
    rw [L_X10_pointAll_2.eq_2, c0]
    simp (disch := omega) only [Int.reduceToNat, gq_lit, gq_neg, gq_add, gq_sub, gq_mul, gq_nat, Int.toNat_natCast, gq_tadd, gq_tmul, gq_lte, gq_br, gq_bd, gq_ck, Bool.false_eq_true, gq_leT, gq_leF, gq_ltT, gq_ltF, gq_eqT, gq_eqF, if_true, if_false]
  | d + 1, f + 1, i, μ, hf, hi, hx, hS => by
    have o0 := ov.1
    have c0 : μ.1 (22 + 16 * s) 0 = gq_I H := by rw [hx.1.1, hH]
    obtain ⟨d1, d2, d3, d4⟩ := hS.1 i (by omega)
    by_cases gD : D i = -1
    · obtain ⟨F', F1, F2, a1, a2⟩ := gs_fav hs ov hH hx hS (p := i) (by omega) gD
      obtain ⟨h1, h2⟩ := hF i (by omega) gD
      have e : F' = F i := gq_I_inj (by omega) (by omega) (by rw [a2] at h2; exact Option.some.inj h2)
      rw [e] at a1
      obtain ⟨μ', e1, e2, e3, e4⟩ := gs_pA hs ov hH hF (k := k) d f (i + 1) (gx_uI μ 87 i (gq_I (F i))) (by omega) (by omega) ⟨gq_cV_sm hx.1 fun j hj => gq_urow (by omega), hx.2⟩ ⟨fun h hh => by
        rw [gq_urow (by omega), gq_urow (by omega)]
        exact hS.1 h hh, by rw [gq_urow (by omega)]; exact hS.2⟩
      refine ⟨μ', ?_, fun h hh1 hh2 hh3 => ?_, fun x j hn => ?_, e4⟩
      · rw [← e1, L_X10_pointAll_2.eq_2, c0]
        simp (disch := omega) only [Int.reduceToNat, gq_lit, gq_neg, gq_add, gq_sub, gq_mul, gq_nat, Int.toNat_natCast, gq_tadd, gq_tmul, gq_lte, gq_br, gq_bd, gq_ck, Bool.false_eq_true, gq_leT, gq_leF, gq_ltT, gq_ltF, gq_eqT, gq_eqF, if_true, if_false, d1, gD, a1]
        rfl
      · by_cases z : h = i
        · rw [z, e3 87 i (by omega), gq_uI1, if_pos ⟨rfl, rfl⟩]
        · exact e2 h (by omega) hh2 hh3
      · rw [e3 x j (by omega), gq_uI1, if_neg (by omega)]
    · obtain ⟨μ', e1, e2, e3, e4⟩ := gs_pA hs ov hH hF (k := k) d f (i + 1) μ (by omega) (by omega) hx hS
      refine ⟨μ', ?_, fun h hh1 hh2 hh3 => ?_, fun x j hn => e3 x j (by omega), e4⟩
      · rw [← e1, L_X10_pointAll_2.eq_2, c0]
        simp (disch := omega) only [Int.reduceToNat, gq_lit, gq_neg, gq_add, gq_sub, gq_mul, gq_nat, Int.toNat_natCast, gq_tadd, gq_tmul, gq_lte, gq_br, gq_bd, gq_ck, Bool.false_eq_true, gq_leT, gq_leF, gq_ltT, gq_ltF, gq_eqT, gq_eqF, if_true, if_false, d1]
        rfl
      · by_cases z : h = i
        · rw [z] at hh3; exact absurd hh3 gD
        · exact e2 h (by omega) hh2 hh3
theorem gs_pB {μ : gx_M} {s H r : Nat} {v : Nat → Int} {D : Nat → Int} {E F : Nat → Nat} (hs : s < 2) (ov : gq_okV v) (hH : v 0 = H) (hF : ∀ h, h < H → D h = -1 → F h < H ∧ f_X10_favourite (22 + 16 * s) (gq_I h) μ = some (gq_I (F h))) {k : gx_M → Option (Int32 × gx_M)} : ∀ (d f i : Nat) (ν : gx_M), d < f → i + d = H → gs_fx μ ν s v → gs_S μ ν H r D E → ∃ ν', L_X12_goRound_2 k f (gq_I i) ν = k ν' ∧ (∀ h, i ≤ h → h < H → ν'.1 234 h = if D h = -1 then gq_I (F h) else gq_I (-1)) ∧ (∀ x j, ¬ (x = 234 ∧ i ≤ j) → ν'.1 x j = ν.1 x j) ∧ ν'.2 = ν.2
  | _, 0, _, _, hf, _, _, _ => absurd hf (Nat.not_lt_zero _)
  | 0, f + 1, i, ν, hf, hi, hx, hS => by
    have o0 := ov.1
    have m0 : ν.1 206 50 = gq_I H := by rw [hx.2.2.1, hH]
    refine ⟨ν, ?_, fun h h1 h2 => absurd h2 (by omega), fun _ _ _ => rfl, rfl⟩
    rw [L_X12_goRound_2.eq_2, m0]
    simp (disch := omega) only [Int.reduceToNat, gq_lit, gq_neg, gq_add, gq_sub, gq_mul, gq_nat, Int.toNat_natCast, gq_tadd, gq_tmul, gq_lte, gq_br, gq_bd, gq_ck, Bool.false_eq_true, gq_leT, gq_leF, gq_ltT, gq_ltF, gq_eqT, gq_eqF, if_true, if_false]
  | d + 1, f + 1, i, ν, hf, hi, hx, hS => by
    have o0 := ov.1
    have m0 : ν.1 206 50 = gq_I H := by rw [hx.2.2.1, hH]
    obtain ⟨d1, d2, d3, d4⟩ := hS.1 i (by omega)
    have next : ∀ X, ∃ ν', L_X12_goRound_2 k f (gq_I (i + 1 : Nat)) (gx_uI ν 234 i X) = k ν' ∧ (∀ h, i + 1 ≤ h → h < H → ν'.1 234 h = if D h = -1 then gq_I (F h) else gq_I (-1)) ∧ (∀ x j, ¬ (x = 234 ∧ i + 1 ≤ j) → ν'.1 x j = (gx_uI ν 234 i X).1 x j) ∧ ν'.2 = (gx_uI ν 234 i X).2 := fun X =>
      gs_pB hs ov hH hF (k := k) d f (i + 1) (gx_uI ν 234 i X) (by omega) (by omega) ⟨hx.1, by rw [gq_urow (by omega)]; exact hx.2.1, by rw [gq_urow (by omega)]; exact hx.2.2.1, fun j hj => by rw [gq_urow (by omega)]; exact hx.2.2.2 j hj⟩ ⟨fun h hh => by
        rw [gq_urow (by omega), gq_urow (by omega)]
        exact hS.1 h hh, by rw [gq_urow (by omega)]; exact hS.2⟩
    by_cases gD : D i = -1
    · obtain ⟨F', F1, F2, a1, a2⟩ := gs_fav hs ov hH hx hS (p := i) (by omega) gD
      obtain ⟨h1, h2⟩ := hF i (by omega) gD
      have e : F' = F i := gq_I_inj (by omega) (by omega) (by rw [a1] at h2; exact Option.some.inj h2)
      rw [e] at a2
      obtain ⟨ν', e1, e2, e3, e4⟩ := next (gq_I (F i))
      refine ⟨ν', ?_, fun h hh1 hh2 => ?_, fun x j hn => ?_, e4⟩
      · rw [← e1, L_X12_goRound_2.eq_2, m0]
        simp (disch := omega) only [Int.reduceToNat, gq_lit, gq_neg, gq_add, gq_sub, gq_mul, gq_nat, Int.toNat_natCast, gq_tadd, gq_tmul, gq_lte, gq_br, gq_bd, gq_ck, Bool.false_eq_true, gq_leT, gq_leF, gq_ltT, gq_ltF, gq_eqT, gq_eqF, if_true, if_false, d2, gD, a2]
        rfl
      · by_cases z : h = i
        · rw [z, if_pos gD, e3 234 i (by omega), gq_uI1, if_pos ⟨rfl, rfl⟩]
        · exact e2 h (by omega) hh2
      · rw [e3 x j (by omega), gq_uI1, if_neg (by omega)]
    · obtain ⟨ν', e1, e2, e3, e4⟩ := next (gq_I (-1))
      refine ⟨ν', ?_, fun h hh1 hh2 => ?_, fun x j hn => ?_, e4⟩
      · rw [← e1, L_X12_goRound_2.eq_2, m0]
        simp (disch := omega) only [Int.reduceToNat, gq_lit, gq_neg, gq_add, gq_sub, gq_mul, gq_nat, Int.toNat_natCast, gq_tadd, gq_tmul, gq_lte, gq_br, gq_bd, gq_ck, Bool.false_eq_true, gq_leT, gq_leF, gq_ltT, gq_ltF, gq_eqT, gq_eqF, if_true, if_false, d2]
        rfl
      · by_cases z : h = i
        · rw [z, if_neg gD, e3 234 i (by omega), gq_uI1, if_pos ⟨rfl, rfl⟩]
        · exact e2 h (by omega) hh2
      · rw [e3 x j (by omega), gq_uI1, if_neg (by omega)]
/-- whether h goes -/
def gs_G (D : Nat → Int) (F : Nat → Nat) (h : Nat) : Bool := decide (D h = -1) && gs_ring F h 6 (F h)
theorem gs_G1 {D : Nat → Int} {F : Nat → Nat} {h : Nat} (h1 : D h = -1) : gs_G D F h = gs_ring F h 6 (F h) := by
  unfold gs_G
  rw [decide_eq_true h1, Bool.true_and]
theorem gs_G0 {D : Nat → Int} {F : Nat → Nat} {h : Nat} (h1 : ¬ D h = -1) : gs_G D F h = false := by
  unfold gs_G
  rw [decide_eq_false h1, Bool.false_and]
theorem gs_cT {b : Nat → Bool} {n : Nat} (h : b n = true) : (gm_cnt b (n + 1) : Int) = (gm_cnt b n : Nat) + 1 := by rw [gl_cntT h]; omega
theorem gs_lg {ν : gx_M} {a H r : Nat} {D : Nat → Int} {F : Nat → Nat} (hr : r ≤ 5) (hH : H ≤ 6) (ha : ¬ (84 ≤ a ∧ a ≤ 87)) (hD0 : ∀ h, h < H → D h = -1 ∨ (0 ≤ D h ∧ D h ≤ 5)) {k : Int32 → gx_M → Option (Int32 × gx_M)} : ∀ (d f i : Nat) (μ : gx_M), d < f → i + d = H → μ.1 a 0 = gq_I H → (∀ h, h < H → D h = -1 → F h < H ∧ D (F h) = -1 ∧ μ.1 87 h = gq_I (F h) ∧ ν.1 234 h = gq_I (F h)) → (∀ h, i ≤ h → h < H → μ.1 86 h = gq_I (D h)) → ∃ μ', L_X10_letGo_5 a (gq_I r) k f (gq_I (gm_cnt (gs_G D F) i : Nat)) (gq_I i) μ = k (gq_I (gm_cnt (gs_G D F) H : Nat)) μ' ∧ (∀ h, i ≤ h → h < H → (gs_G D F h = true → μ'.1 86 h = gq_I r ∧ μ'.1 85 h = gq_I (F h)) ∧ (gs_G D F h = false → μ'.1 86 h = gq_I (D h) ∧ μ'.1 85 h = μ.1 85 h)) ∧ (∀ x j, ¬ ((x = 85 ∨ x = 86) ∧ i ≤ j) → μ'.1 x j = μ.1 x j) ∧ μ'.2 = μ.2
  | _, 0, _, _, hf, _, _, _, _ => absurd hf (Nat.not_lt_zero _)
  | 0, f + 1, i, μ, hf, hi, c0, hF, hD => by
    refine ⟨μ, ?_, fun h h1 h2 => absurd h2 (by omega), fun _ _ _ => rfl, rfl⟩
    rw [L_X10_letGo_5.eq_2, c0, show i = H by omega]
    simp (disch := omega) only [Int.reduceToNat, gq_lit, gq_neg, gq_add, gq_sub, gq_mul, gq_nat, Int.toNat_natCast, gq_tadd, gq_tmul, gq_lte, gq_br, gq_bd, gq_ck, Bool.false_eq_true, gq_leT, gq_leF, gq_ltT, gq_ltF, gq_eqT, gq_eqF, if_true, if_false]
  | d + 1, f + 1, i, μ, hf, hi, c0, hF, hD => by
    have d1 := hD i (Nat.le_refl i) (by omega)
    have d0 := hD0 i (by omega)
    cases hg : gs_G D F i
    · obtain ⟨μ', e1, e2, e3, e4⟩ := gs_lg (ν := ν) hr hH ha hD0 (k := k) d f (i + 1) μ (by omega) (by omega) c0 hF (fun h h1 h2 => hD h (by omega) h2)
      have ec := gl_cntF hg
      refine ⟨μ', ?_, fun h h1 h2 => ?_, fun x j hn => e3 x j (by omega), e4⟩
      · rw [← e1, ec, L_X10_letGo_5.eq_2, c0]
        by_cases gD : D i = -1
        · have ri := (gs_is hH hF (p := i) (by omega) gD).1
          rw [← gs_G1 gD, hg] at ri
          simp (disch := omega) only [Int.reduceToNat, gq_lit, gq_neg, gq_add, gq_sub, gq_mul, gq_nat, Int.toNat_natCast, gq_tadd, gq_tmul, gq_lte, gq_br, gq_bd, gq_ck, Bool.false_eq_true, gq_leT, gq_leF, gq_ltT, gq_ltF, gq_eqT, gq_eqF, if_true, if_false, d1, gD, ri]
          rfl
        · simp (disch := omega) only [Int.reduceToNat, gq_lit, gq_neg, gq_add, gq_sub, gq_mul, gq_nat, Int.toNat_natCast, gq_tadd, gq_tmul, gq_lte, gq_br, gq_bd, gq_ck, Bool.false_eq_true, gq_leT, gq_leF, gq_ltT, gq_ltF, gq_eqT, gq_eqF, if_true, if_false, d1]
          rfl
      · by_cases z : h = i
        · rw [z, hg]
          refine ⟨fun c => absurd c (by decide), fun _ => ⟨?_, ?_⟩⟩
          · rw [e3 86 i (by omega)]; exact d1
          · rw [e3 85 i (by omega)]
        · exact e2 h (by omega) h2
    · have gD : D i = -1 := by
        by_cases g : D i = -1
        · exact g
        · rw [gs_G0 g] at hg; exact absurd hg (by decide)
      obtain ⟨f1, f2, f3, f4⟩ := hF i (by omega) gD
      obtain ⟨μ', e1, e2, e3, e4⟩ := gs_lg (ν := ν) hr hH ha hD0 (k := k) d f (i + 1) (gx_uI (gx_uI μ 86 i (gq_I r)) 85 i (gq_I (F i))) (by omega) (by omega) (by rw [gq_urow (by omega), gq_urow (by omega)]; exact c0) (fun h h1 h2 => by rw [gq_urow (by omega), gq_urow (by omega)]; exact hF h h1 h2) (fun h h1 h2 => by rw [gq_urow (by omega), gq_uI1, if_neg (by omega)]; exact hD h (by omega) h2)
      have ec := gs_cT hg
      refine ⟨μ', ?_, fun h h1 h2 => ?_, fun x j hn => ?_, e4⟩
      · rw [← e1, ec, L_X10_letGo_5.eq_2, c0]
        have ri := (gs_is hH hF (p := i) (by omega) gD).1
        rw [← gs_G1 gD, hg] at ri
        have u87 : (gx_uI μ 86 i (gq_I r)).1 87 i = gq_I (F i) := by rw [gq_urow (by omega)]; exact f3
        simp (disch := omega) only [Int.reduceToNat, gq_lit, gq_neg, gq_add, gq_sub, gq_mul, gq_nat, Int.toNat_natCast, gq_tadd, gq_tmul, gq_lte, gq_br, gq_bd, gq_ck, Bool.false_eq_true, gq_leT, gq_leF, gq_ltT, gq_ltF, gq_eqT, gq_eqF, if_true, if_false, d1, gD, ri, u87]
        rfl
      · by_cases z : h = i
        · rw [z, hg]
          refine ⟨fun _ => ⟨?_, ?_⟩, fun c => absurd c (by decide)⟩
          · rw [e3 86 i (by omega), gq_urow (by omega), gq_uI1, if_pos ⟨rfl, rfl⟩]
          · rw [e3 85 i (by omega), gq_uI1, if_pos ⟨rfl, rfl⟩]
        · obtain ⟨q1, q2⟩ := e2 h (by omega) h2
          refine ⟨q1, fun c => ⟨(q2 c).1, ?_⟩⟩
          rw [(q2 c).2, gq_uI1, if_neg (by omega), gq_urow (by omega)]
      · rw [e3 x j (by omega), gq_uI1, if_neg (by omega), gq_uI1, if_neg (by omega)]
theorem gs_45 {μ : gx_M} {H : Nat} {D : Nat → Int} {F : Nat → Nat} (hH : H ≤ 6) {k : Int32 → gx_M → Option (Int32 × gx_M)} : ∀ (d f i : Nat) (ν : gx_M), d < f → i + d = H → ν.1 206 50 = gq_I H → (∀ h, h < H → D h = -1 → F h < H ∧ D (F h) = -1 ∧ μ.1 87 h = gq_I (F h) ∧ ν.1 234 h = gq_I (F h)) → (∀ h, h < H → D h ≠ -1 → ν.1 234 h = gq_I (-1)) → ∃ ν', L_X12_goRound_45 k f (gq_I (gm_cnt (gs_G D F) i : Nat)) (gq_I i) ν = k (gq_I (gm_cnt (gs_G D F) H : Nat)) ν' ∧ (∀ h, i ≤ h → h < H → (gs_G D F h = true → ν'.1 232 h = gq_I (F h)) ∧ (gs_G D F h = false → ν'.1 232 h = ν.1 232 h)) ∧ (∀ x j, ¬ (x = 232 ∧ i ≤ j) → ν'.1 x j = ν.1 x j) ∧ ν'.2 = ν.2
  | _, 0, _, _, hf, _, _, _, _ => absurd hf (Nat.not_lt_zero _)
  | 0, f + 1, i, ν, hf, hi, m0, hF, hD => by
    refine ⟨ν, ?_, fun h h1 h2 => absurd h2 (by omega), fun _ _ _ => rfl, rfl⟩
    rw [L_X12_goRound_45.eq_2, m0, show i = H by omega]
    simp (disch := omega) only [Int.reduceToNat, gq_lit, gq_neg, gq_add, gq_sub, gq_mul, gq_nat, Int.toNat_natCast, gq_tadd, gq_tmul, gq_lte, gq_br, gq_bd, gq_ck, Bool.false_eq_true, gq_leT, gq_leF, gq_ltT, gq_ltF, gq_eqT, gq_eqF, if_true, if_false]
  | d + 1, f + 1, i, ν, hf, hi, m0, hF, hD => by
    cases hg : gs_G D F i
    · obtain ⟨ν', e1, e2, e3, e4⟩ := gs_45 (μ := μ) hH (k := k) d f (i + 1) ν (by omega) (by omega) m0 hF hD
      have ec := gl_cntF hg
      refine ⟨ν', ?_, fun h h1 h2 => ?_, fun x j hn => e3 x j (by omega), e4⟩
      · rw [← e1, ec, L_X12_goRound_45.eq_2, m0]
        by_cases gD : D i = -1
        · obtain ⟨f1, f2, f3, f4⟩ := hF i (by omega) gD
          have ri := (gs_is hH hF (p := i) (by omega) gD).2
          rw [← gs_G1 gD, hg] at ri
          simp (disch := omega) only [Int.reduceToNat, gq_lit, gq_neg, gq_add, gq_sub, gq_mul, gq_nat, Int.toNat_natCast, gq_tadd, gq_tmul, gq_lte, gq_br, gq_bd, gq_ck, Bool.false_eq_true, gq_leT, gq_leF, gq_ltT, gq_ltF, gq_eqT, gq_eqF, if_true, if_false, f4, ri]
          rfl
        · have f4 := hD i (by omega) gD
          simp (disch := omega) only [Int.reduceToNat, gq_lit, gq_neg, gq_add, gq_sub, gq_mul, gq_nat, Int.toNat_natCast, gq_tadd, gq_tmul, gq_lte, gq_br, gq_bd, gq_ck, Bool.false_eq_true, gq_leT, gq_leF, gq_ltT, gq_ltF, gq_eqT, gq_eqF, if_true, if_false, f4]
          rfl
      · by_cases z : h = i
        · rw [z, hg]
          refine ⟨fun c => absurd c (by decide), fun _ => ?_⟩
          rw [e3 232 i (by omega)]
        · exact e2 h (by omega) h2
    · have gD : D i = -1 := by
        by_cases g : D i = -1
        · exact g
        · rw [gs_G0 g] at hg; exact absurd hg (by decide)
      obtain ⟨f1, f2, f3, f4⟩ := hF i (by omega) gD
      obtain ⟨ν', e1, e2, e3, e4⟩ := gs_45 (μ := μ) hH (k := k) d f (i + 1) (gx_uI ν 232 i (gq_I (F i))) (by omega) (by omega) (by rw [gq_urow (by omega)]; exact m0) (fun h h1 h2 => by rw [gq_urow (by omega)]; exact hF h h1 h2) (fun h h1 h2 => by rw [gq_urow (by omega)]; exact hD h h1 h2)
      have ec := gs_cT hg
      refine ⟨ν', ?_, fun h h1 h2 => ?_, fun x j hn => ?_, e4⟩
      · rw [← e1, ec, L_X12_goRound_45.eq_2, m0]
        have ri := (gs_is hH hF (p := i) (by omega) gD).2
        rw [← gs_G1 gD, hg] at ri
        simp (disch := omega) only [Int.reduceToNat, gq_lit, gq_neg, gq_add, gq_sub, gq_mul, gq_nat, Int.toNat_natCast, gq_tadd, gq_tmul, gq_lte, gq_br, gq_bd, gq_ck, Bool.false_eq_true, gq_leT, gq_leF, gq_ltT, gq_ltF, gq_eqT, gq_eqF, if_true, if_false, f4, ri]
        rfl
      · by_cases z : h = i
        · rw [z, hg]
          refine ⟨fun _ => ?_, fun c => absurd c (by decide)⟩
          rw [e3 232 i (by omega), gq_uI1, if_pos ⟨rfl, rfl⟩]
        · obtain ⟨q1, q2⟩ := e2 h (by omega) h2
          refine ⟨q1, fun c => ?_⟩
          rw [q2 c, gq_uI1, if_neg (by omega)]
      · rw [e3 x j (by omega), gq_uI1, if_neg (by omega)]
theorem gs_94 {μ : gx_M} {H r : Nat} {D : Nat → Int} {F : Nat → Nat} (hH : H ≤ 6) {k : gx_M → Option (Int32 × gx_M)} : ∀ (d f i : Nat) (ν : gx_M), d < f → i + d = H → ν.1 206 50 = gq_I H → ν.1 206 51 = gq_I r → (∀ h, h < H → D h = -1 → F h < H ∧ D (F h) = -1 ∧ μ.1 87 h = gq_I (F h) ∧ ν.1 234 h = gq_I (F h)) → (∀ h, h < H → D h ≠ -1 → ν.1 234 h = gq_I (-1)) → ∃ ν', L_X12_goRound_94 k f (gq_I i) ν = k ν' ∧ (∀ h, i ≤ h → h < H → (gs_G D F h = true → ν'.1 233 h = gq_I r) ∧ (gs_G D F h = false → ν'.1 233 h = ν.1 233 h)) ∧ (∀ x j, ¬ (x = 233 ∧ i ≤ j) → ν'.1 x j = ν.1 x j) ∧ ν'.2 = ν.2
  | _, 0, _, _, hf, _, _, _, _, _ => absurd hf (Nat.not_lt_zero _)
  | 0, f + 1, i, ν, hf, hi, m0, m1, hF, hD => by
    refine ⟨ν, ?_, fun h h1 h2 => absurd h2 (by omega), fun _ _ _ => rfl, rfl⟩
    rw [L_X12_goRound_94.eq_2, m0]
    simp (disch := omega) only [Int.reduceToNat, gq_lit, gq_neg, gq_add, gq_sub, gq_mul, gq_nat, Int.toNat_natCast, gq_tadd, gq_tmul, gq_lte, gq_br, gq_bd, gq_ck, Bool.false_eq_true, gq_leT, gq_leF, gq_ltT, gq_ltF, gq_eqT, gq_eqF, if_true, if_false]
  | d + 1, f + 1, i, ν, hf, hi, m0, m1, hF, hD => by
    have next : ∀ X, ∃ ν', L_X12_goRound_94 k f (gq_I (i + 1 : Nat)) (gx_uI ν 233 i X) = k ν' ∧ (∀ h, i + 1 ≤ h → h < H → (gs_G D F h = true → ν'.1 233 h = gq_I r) ∧ (gs_G D F h = false → ν'.1 233 h = (gx_uI ν 233 i X).1 233 h)) ∧ (∀ x j, ¬ (x = 233 ∧ i + 1 ≤ j) → ν'.1 x j = (gx_uI ν 233 i X).1 x j) ∧ ν'.2 = (gx_uI ν 233 i X).2 := fun X =>
      gs_94 (μ := μ) hH (k := k) d f (i + 1) (gx_uI ν 233 i X) (by omega) (by omega) (by rw [gq_urow (by omega)]; exact m0) (by rw [gq_urow (by omega)]; exact m1) (fun h h1 h2 => by rw [gq_urow (by omega)]; exact hF h h1 h2) (fun h h1 h2 => by rw [gq_urow (by omega)]; exact hD h h1 h2)
    cases hg : gs_G D F i
    · obtain ⟨ν', e1, e2, e3, e4⟩ := next (ν.1 233 i)
      refine ⟨ν', ?_, fun h h1 h2 => ?_, fun x j hn => ?_, e4⟩
      · rw [← e1, L_X12_goRound_94.eq_2, m0]
        by_cases gD : D i = -1
        · obtain ⟨f1, f2, f3, f4⟩ := hF i (by omega) gD
          have ri := (gs_is hH hF (p := i) (by omega) gD).2
          rw [← gs_G1 gD, hg] at ri
          simp (disch := omega) only [Int.reduceToNat, gq_lit, gq_neg, gq_add, gq_sub, gq_mul, gq_nat, Int.toNat_natCast, gq_tadd, gq_tmul, gq_lte, gq_br, gq_bd, gq_ck, Bool.false_eq_true, gq_leT, gq_leF, gq_ltT, gq_ltF, gq_eqT, gq_eqF, if_true, if_false, f4, ri]
          rfl
        · have f4 := hD i (by omega) gD
          simp (disch := omega) only [Int.reduceToNat, gq_lit, gq_neg, gq_add, gq_sub, gq_mul, gq_nat, Int.toNat_natCast, gq_tadd, gq_tmul, gq_lte, gq_br, gq_bd, gq_ck, Bool.false_eq_true, gq_leT, gq_leF, gq_ltT, gq_ltF, gq_eqT, gq_eqF, if_true, if_false, f4]
          rfl
      · by_cases z : h = i
        · rw [z, hg]
          refine ⟨fun c => absurd c (by decide), fun _ => ?_⟩
          rw [e3 233 i (by omega), gq_uI1, if_pos ⟨rfl, rfl⟩]
        · obtain ⟨q1, q2⟩ := e2 h (by omega) h2
          refine ⟨q1, fun c => ?_⟩
          rw [q2 c, gq_uI1, if_neg (by omega)]
      · by_cases z : x = 233 ∧ j = i
        · rw [e3 x j (by omega), z.1, z.2, gq_uI1, if_pos ⟨rfl, rfl⟩]
        · rw [e3 x j (by omega), gq_uI1, if_neg z]
    · have gD : D i = -1 := by
        by_cases g : D i = -1
        · exact g
        · rw [gs_G0 g] at hg; exact absurd hg (by decide)
      obtain ⟨f1, f2, f3, f4⟩ := hF i (by omega) gD
      obtain ⟨ν', e1, e2, e3, e4⟩ := next (gq_I r)
      refine ⟨ν', ?_, fun h h1 h2 => ?_, fun x j hn => ?_, e4⟩
      · rw [← e1, L_X12_goRound_94.eq_2, m0]
        have ri := (gs_is hH hF (p := i) (by omega) gD).2
        rw [← gs_G1 gD, hg] at ri
        simp (disch := omega) only [Int.reduceToNat, gq_lit, gq_neg, gq_add, gq_sub, gq_mul, gq_nat, Int.toNat_natCast, gq_tadd, gq_tmul, gq_lte, gq_br, gq_bd, gq_ck, Bool.false_eq_true, gq_leT, gq_leF, gq_ltT, gq_ltF, gq_eqT, gq_eqF, if_true, if_false, f4, ri, m1]
        rfl
      · by_cases z : h = i
        · rw [z, hg]
          refine ⟨fun _ => ?_, fun c => absurd c (by decide)⟩
          rw [e3 233 i (by omega), gq_uI1, if_pos ⟨rfl, rfl⟩]
        · obtain ⟨q1, q2⟩ := e2 h (by omega) h2
          refine ⟨q1, fun c => ?_⟩
          rw [q2 c, gq_uI1, if_neg (by omega)]
      · rw [e3 x j (by omega), gq_uI1, if_neg (by omega)]
