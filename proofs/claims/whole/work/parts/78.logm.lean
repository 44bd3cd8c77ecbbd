/-! the check's row of what fits -/
def gl_M (φ : Nat → Bool) (n : Nat) (ν : gx_M) : Prop := ν.1 206 48 = gq_I (gm_cnt φ n : Nat) ∧ ∀ j, j < n → φ j = true → ν.1 231 (gm_cnt φ j) = gq_I j
theorem gl_ed {n : Nat} (hn : n < 1600) : gq_I n / gq_I 40 = gq_I (n / 40 : Nat) := by
  rw [gq_div (by omega)]
  exact congrArg gq_I (by omega)
theorem gl_em {n : Nat} (hn : n < 1600) : gq_I n - gq_I n / gq_I 40 * gq_I 40 = gq_I (n % 40 : Nat) := by
  rw [gq_div (by omega), gq_mul, gq_sub]
  exact congrArg gq_I (by omega)
theorem gl_50 {ν : gx_M} {y n : Nat} {g : Nat → Int} (og : gq_okG g) (hy : y < 8) (h46 : ν.1 206 46 = gq_I y) (hm : gq_mG ν y g) (hn : n < 1600) {k : Bool → gx_M → Option (Bool × gx_M)} : ∀ (d f i : Nat) (v : Bool), d < f → (i : Int) + d = g 0 → ∃ r : Bool, L_X12_layLog_50 (gq_I n) k f v (gq_I i) ν = k r ν ∧ (r = true ↔ v = true ∧ ∀ q : Nat, i ≤ q → (q : Int) < g 0 → (g (1 + 2 * q) = 1 ↔ gl_in g n q))
  | _, 0, _, _, hf, _ => absurd hf (Nat.not_lt_zero _)
  | 0, f + 1, i, v, hf, hi => by
    have o0 := og.1
    have e := gq_facts h46 hy hm
    refine ⟨v, ?_, ⟨fun h => ⟨h, fun q q1 q2 => absurd q2 (by omega)⟩, fun h => h.1⟩⟩
    rw [L_X12_layLog_50.eq_2, e]
    simp (disch := omega) only [Int.reduceToNat, gq_lit, gq_neg, gq_add, gq_sub, gq_mul, gq_nat, Int.toNat_natCast, gq_tadd, gq_tmul, gq_lte, gq_br, gq_bd, gq_ck, Bool.false_eq_true, gq_leT, gq_leF, gq_ltT, gq_ltF, gq_eqT, gq_eqF, if_true, if_false]
  | d + 1, f + 1, i, v, hf, hi => by
    have o0 := og.1
    have e := gq_facts h46 hy hm
    cases v with
    | false =>
      refine ⟨false, ?_, ⟨fun h => absurd h (by decide), fun h => absurd h.1 (by decide)⟩⟩
      rw [L_X12_layLog_50.eq_2, e]
      simp (disch := omega) only [Int.reduceToNat, gq_lit, gq_neg, gq_add, gq_sub, gq_mul, gq_nat, Int.toNat_natCast, gq_tadd, gq_tmul, gq_lte, gq_br, gq_bd, gq_ck, Bool.false_eq_true, gq_leT, gq_leF, gq_ltT, gq_ltF, gq_eqT, gq_eqF, if_true, if_false]
    | true =>
      obtain ⟨o1, o2⟩ := og.2 i (by omega)
      have e1 := gq_factOf h46 hy hm (k := i) (x := 1) (by omega)
      have e2 := gq_factOf h46 hy hm (k := i) (x := 0) (by omega)
      rw [Int.toNat_natCast, show 1 + 2 * i + (1 : Int).toNat = 2 + 2 * i by rw [show (1 : Int).toNat = 1 from rfl]; omega] at e1
      rw [Int.toNat_natCast, show 1 + 2 * i + (0 : Int).toNat = 1 + 2 * i from rfl] at e2
      have ein := gq_in (a := g (2 + 2 * i)) (b := (n / 40 : Nat)) (c := (n % 40 : Nat)) (by omega)
      obtain ⟨t, ht⟩ : ∃ t : Bool, t = f_X12_in (gq_I (g (2 + 2 * i))) (gq_I (n / 40 : Nat)) (gq_I (n % 40 : Nat)) := ⟨_, rfl⟩
      have ht2 : t = true ↔ gl_in g n i := by rw [ht, ein]; rfl
      have tail : ∀ r : Bool, (r = true ↔ (g (1 + 2 * i) = 1 ↔ gl_in g n i) ∧ ∀ q : Nat, i + 1 ≤ q → (q : Int) < g 0 → (g (1 + 2 * q) = 1 ↔ gl_in g n q)) → (r = true ↔ true = true ∧ ∀ q : Nat, i ≤ q → (q : Int) < g 0 → (g (1 + 2 * q) = 1 ↔ gl_in g n q)) := fun r h => by
        rw [h]
        constructor
        · rintro ⟨h1, h2⟩
          refine ⟨rfl, fun q q1 q2 => ?_⟩
          by_cases z : q = i
          · rw [z]; exact h1
          · exact h2 q (by omega) q2
        · rintro ⟨_, h2⟩
          exact ⟨h2 i (Nat.le_refl i) (by omega), fun q q1 q2 => h2 q (by omega) q2⟩
      by_cases g1 : g (1 + 2 * i) = 1
      · obtain ⟨r, r1, r2⟩ := gl_50 og hy h46 hm hn (k := k) d f (i + 1) t (by omega) (by omega)
        refine ⟨r, ?_, tail r ?_⟩
        · rw [← r1, L_X12_layLog_50.eq_2, e, show (40 : Int32) = gq_I 40 from rfl, gl_em hn, gl_ed hn]
          simp (disch := omega) only [Int.reduceToNat, gq_lit, gq_neg, gq_add, gq_sub, gq_mul, gq_nat, Int.toNat_natCast, gq_tadd, gq_tmul, gq_lte, gq_br, gq_bd, gq_ck, Bool.false_eq_true, gq_leT, gq_leF, gq_ltT, gq_ltF, gq_eqT, gq_eqF, if_true, if_false, e1, e2]
          rw [← ht]
          cases t
          · simp (disch := omega) only [Int.reduceToNat, gq_lit, gq_neg, gq_add, gq_sub, gq_mul, gq_nat, Int.toNat_natCast, gq_tadd, gq_tmul, gq_lte, gq_br, gq_bd, gq_ck, Bool.false_eq_true, gq_leT, gq_leF, gq_ltT, gq_ltF, gq_eqT, gq_eqF, if_true, if_false, gq_biT, gq_biF]; rfl
          · simp (disch := omega) only [Int.reduceToNat, gq_lit, gq_neg, gq_add, gq_sub, gq_mul, gq_nat, Int.toNat_natCast, gq_tadd, gq_tmul, gq_lte, gq_br, gq_bd, gq_ck, Bool.false_eq_true, gq_leT, gq_leF, gq_ltT, gq_ltF, gq_eqT, gq_eqF, if_true, if_false, gq_biT, gq_biF]; rfl
        · rw [r2, ht2]
          exact ⟨fun h => ⟨⟨fun _ => h.1, fun _ => g1⟩, h.2⟩, fun h => ⟨h.1.mp g1, h.2⟩⟩
      · obtain ⟨r, r1, r2⟩ := gl_50 og hy h46 hm hn (k := k) d f (i + 1) (!t) (by omega) (by omega)
        refine ⟨r, ?_, tail r ?_⟩
        · rw [← r1, L_X12_layLog_50.eq_2, e, show (40 : Int32) = gq_I 40 from rfl, gl_em hn, gl_ed hn]
          simp (disch := omega) only [Int.reduceToNat, gq_lit, gq_neg, gq_add, gq_sub, gq_mul, gq_nat, Int.toNat_natCast, gq_tadd, gq_tmul, gq_lte, gq_br, gq_bd, gq_ck, Bool.false_eq_true, gq_leT, gq_leF, gq_ltT, gq_ltF, gq_eqT, gq_eqF, if_true, if_false, e1, e2]
          rw [← ht]
          cases t
          · simp (disch := omega) only [Int.reduceToNat, gq_lit, gq_neg, gq_add, gq_sub, gq_mul, gq_nat, Int.toNat_natCast, gq_tadd, gq_tmul, gq_lte, gq_br, gq_bd, gq_ck, Bool.false_eq_true, gq_leT, gq_leF, gq_ltT, gq_ltF, gq_eqT, gq_eqF, if_true, if_false, gq_biT, gq_biF]; rfl
          · simp (disch := omega) only [Int.reduceToNat, gq_lit, gq_neg, gq_add, gq_sub, gq_mul, gq_nat, Int.toNat_natCast, gq_tadd, gq_tmul, gq_lte, gq_br, gq_bd, gq_ck, Bool.false_eq_true, gq_leT, gq_leF, gq_ltT, gq_ltF, gq_eqT, gq_eqF, if_true, if_false, gq_biT, gq_biF]; rfl
        · rw [r2]
          have : (!t) = true ↔ ¬ gl_in g n i := by
            rw [← ht2]
            cases t
            · exact ⟨fun _ => by decide, fun _ => rfl⟩
            · exact ⟨fun h => absurd h (by decide), fun h => absurd rfl h⟩
          rw [this]
          exact ⟨fun h => ⟨⟨fun c => absurd c g1, fun c => absurd c h.1⟩, h.2⟩, fun h => ⟨fun c => g1 (h.1.mpr c), h.2⟩⟩
theorem gl_23 {y : Nat} {g : Nat → Int} {φ : Nat → Bool} (og : gq_okG g) (hφ : ∀ j, φ j = true ↔ gl_ok g j) (hy : y < 8) {k : gx_M → Option (Bool × gx_M)} : ∀ (d f n : Nat) (ν : gx_M), d < f → n + d = 1600 → gl_M φ n ν → ν.1 206 46 = gq_I y → gq_mG ν y g → ∃ ν', L_X12_layLog_23 k f (gq_I n) ν = k ν' ∧ gl_M φ 1600 ν' ∧ (∀ r, r ≠ 206 → r ≠ 231 → ν'.1 r = ν.1 r) ∧ ν'.2 = ν.2
  | _, 0, _, _, hf, _, _, _, _ => absurd hf (Nat.not_lt_zero _)
  | 0, f + 1, n, ν, hf, hn, hM, h46, hm => by
    refine ⟨ν, ?_, ?_, fun _ _ _ => rfl, rfl⟩
    · rw [L_X12_layLog_23.eq_2]
      simp (disch := omega) only [Int.reduceToNat, gq_lit, gq_neg, gq_add, gq_sub, gq_mul, gq_nat, Int.toNat_natCast, gq_tadd, gq_tmul, gq_lte, gq_br, gq_bd, gq_ck, Bool.false_eq_true, gq_leT, gq_leF, gq_ltT, gq_ltF, gq_eqT, gq_eqF, if_true, if_false]
    · rw [show 1600 = n by omega]; exact hM
  | d + 1, f + 1, n, ν, hf, hn, hM, h46, hm => by
    have o0 := og.1
    obtain ⟨v, hv⟩ : ∃ v : Bool, v = decide (n / 40 ≤ n % 40) := ⟨_, rfl⟩
    obtain ⟨r, r1, r2⟩ := gl_50 og hy h46 hm (n := n) (by omega) (k := fun (x3_32 : Bool) (μ33 : gx_M) => gx_lt (fun (μ39 : gx_M) => L_X12_layLog_23 k f (gq_I (n + 1 : Nat)) μ39) (fun J34 => if x3_32 = true then gx_ck (gx_ix (μ33.1 206 48) 820 = true) (gx_lt (gx_uI μ33 231 (μ33.1 206 48).toNatClampNeg (gq_I n)) (fun (μ37 : gx_M) => gx_lt (gx_uI μ37 206 48 ((μ37.1 206 48) + gq_I 1)) (fun (μ38 : gx_M) => J34 μ38))) else J34 μ33)) (g 0).toNat 4000 0 v (by omega) (by omega)
    have step : L_X12_layLog_23 k (f + 1) (gq_I n) ν = L_X12_layLog_50 (gq_I n) (fun (x3_32 : Bool) (μ33 : gx_M) => gx_lt (fun (μ39 : gx_M) => L_X12_layLog_23 k f (gq_I (n + 1 : Nat)) μ39) (fun J34 => if x3_32 = true then gx_ck (gx_ix (μ33.1 206 48) 820 = true) (gx_lt (gx_uI μ33 231 (μ33.1 206 48).toNatClampNeg (gq_I n)) (fun (μ37 : gx_M) => gx_lt (gx_uI μ37 206 48 ((μ37.1 206 48) + gq_I 1)) (fun (μ38 : gx_M) => J34 μ38))) else J34 μ33)) 4000 v (gq_I (0 : Nat)) ν := by
      rw [L_X12_layLog_23.eq_2]
      rw [show (1600 : Int32) = gq_I 1600 from rfl, if_neg (c := gq_I 1600 ≤ gq_I n) (by rw [gq_le (by omega)]; omega), gq_lte, show (40 : Int32) = gq_I 40 from rfl, gl_em (by omega), gl_ed (by omega)]
      by_cases g1 : n / 40 ≤ n % 40
      · rw [decide_eq_true g1] at hv
        rw [hv, if_neg (c := gq_I (n % 40 : Nat) < gq_I (n / 40 : Nat)) (by rw [gq_lt (by omega)]; omega)]
        simp only [gq_lte, gq_lit, gq_add]
        rfl
      · rw [decide_eq_false g1] at hv
        rw [hv, if_pos (c := gq_I (n % 40 : Nat) < gq_I (n / 40 : Nat)) (by rw [gq_lt (by omega)]; omega)]
        simp only [gq_lte, gq_lit, gq_add]
        rfl
    have hr : r = true ↔ φ n = true := by
      rw [r2, hφ, hv, decide_eq_true_iff]
      exact ⟨fun h => ⟨h.1, fun k hk => h.2 k (Nat.zero_le k) hk⟩, fun h => ⟨h.1, fun k _ hk => h.2 k hk⟩⟩
    cases hp : φ n
    · have r0 : r = false := by
        cases r
        · rfl
        · rw [hr.mp rfl] at hp; exact absurd hp (by decide)
      rw [r0] at r1
      have hM2 : gl_M φ (n + 1) ν := by
        refine ⟨by rw [gl_cntF hp]; exact hM.1, fun j hj h => ?_⟩
        by_cases z : j = n
        · rw [z, hp] at h; exact absurd h (by decide)
        · exact hM.2 j (by omega) h
      obtain ⟨ν', i1, i2, i3, i4⟩ := gl_23 og hφ hy (k := k) d f (n + 1) ν (by omega) (by omega) hM2 h46 hm
      exact ⟨ν', step.trans (r1.trans i1), i2, i3, i4⟩
    · have r0 := hr.mpr hp
      rw [r0] at r1
      have lt := gl_lt hφ (n := n) (by omega) hp
      obtain ⟨ν1, hν1⟩ : ∃ ν1, ν1 = gx_uI (gx_uI ν 231 (gm_cnt φ n) (gq_I n)) 206 48 (gq_I (gm_cnt φ n + 1 : Nat)) := ⟨_, rfl⟩
      have hM2 : gl_M φ (n + 1) ν1 := by
        refine ⟨by rw [hν1, gq_uI1, if_pos ⟨rfl, rfl⟩, gl_cntT hp], fun j hj h => ?_⟩
        rw [hν1, gq_uI1, if_neg (by omega), gq_uI1]
        by_cases z : j = n
        · rw [z, if_pos ⟨rfl, rfl⟩]
        · have a := gl_mono (φ := φ) (i := j + 1) (n := n) (by omega)
          rw [gl_cntT h] at a
          rw [if_neg (by omega)]
          exact hM.2 j (by omega) h
      obtain ⟨ν', i1, i2, i3, i4⟩ := gl_23 og hφ hy (k := k) d f (n + 1) ν1 (by omega) (by omega) hM2 (by rw [hν1, gq_uI1, if_neg (by omega), gq_uI1, if_neg (by omega)]; exact h46) (gq_mG_w hm (by rw [hν1, gq_urow (by omega), gq_urow (by omega)]))
      refine ⟨ν', step.trans (r1.trans ?_), i2, fun r h1 h2 => ?_, by rw [i4, hν1]; rfl⟩
      · rw [← i1, hν1]
        have e48 : ν.1 206 48 = gq_I (gm_cnt φ n : Nat) := hM.1
        simp (disch := omega) only [gq_lte, if_true, e48, gq_ck, gq_nat, Int.toNat_natCast, gq_uI1, Nat.reduceEqDiff, false_and, and_false, and_true, true_and, if_false, gq_ifF, gq_add]
        rfl
      · rw [i3 r h1 h2, hν1, gq_urow (by omega), gq_urow (by omega)]
/-- the row's numbers -/
theorem gl_sur {φ : Nat → Bool} {i : Nat} : ∀ n, i < gm_cnt φ n → ∃ j, j < n ∧ φ j = true ∧ gm_cnt φ j = i
  | 0, h => absurd h (Nat.not_lt_zero _)
  | n + 1, h => by
    cases hp : φ n
    · rw [gl_cntF hp] at h
      obtain ⟨j, j1, j2⟩ := gl_sur n h
      exact ⟨j, by omega, j2⟩
    · rw [gl_cntT hp] at h
      by_cases z : i = gm_cnt φ n
      · exact ⟨n, by omega, hp, z.symm⟩
      · obtain ⟨j, j1, j2⟩ := gl_sur n (show i < gm_cnt φ n by omega)
        exact ⟨j, by omega, j2⟩
theorem gl_e {g : Nat → Int} {φ : Nat → Bool} {ν : gx_M} (hφ : ∀ j, φ j = true ↔ gl_ok g j) (h : gl_M φ 1600 ν) : ∃ e : Nat → Nat, (∀ i, i < gm_cnt φ 1600 → ν.1 231 i = gq_I (e i) ∧ e i < 1600 ∧ e i / 40 ≤ e i % 40) ∧ ∀ j, j < 1600 → φ j = true → e (gm_cnt φ j) = j := by
  refine ⟨fun i => (ν.1 231 i).toInt.toNat, fun i hi => ?_, fun j hj hp => ?_⟩
  · obtain ⟨j, j1, j2, j3⟩ := gl_sur 1600 hi
    have e := h.2 j j1 j2
    rw [j3] at e
    have z : (ν.1 231 i).toInt.toNat = j := by rw [e, gq_toInt (by omega)]; omega
    show ν.1 231 i = gq_I ((ν.1 231 i).toInt.toNat : Nat) ∧ (ν.1 231 i).toInt.toNat < 1600 ∧ (ν.1 231 i).toInt.toNat / 40 ≤ (ν.1 231 i).toInt.toNat % 40
    rw [z]
    exact ⟨e, j1, ((hφ j).mp j2).1⟩
  · show (ν.1 231 (gm_cnt φ j)).toInt.toNat = j
    rw [h.2 j hj hp, gq_toInt (by omega)]
    omega
/-- the opening of a question about a log -/
theorem gq_opG {μ : gx_M} (hI : gq_inv μ) {z : Int} (hz : -2147483648 ≤ z ∧ z < 2147483648) : (f_X11_hasLog (gq_I z) μ = some false ∧ ∀ ν, gq_sm gq_Pc μ ν → ∃ μ2, f_X12_layLog (gq_I z) (gx_uI ν 206 0 (gq_I 0)) = some (false, μ2) ∧ gq_sm gq_Pm ν μ2) ∨ ∃ (y : Nat) (g : Nat → Int) (φ : Nat → Bool), y < 2 ∧ z = y ∧ gq_okG g ∧ (∀ j, φ j = true ↔ gl_ok g j) ∧ gq_cG μ (19 + 16 * y) g ∧ f_X11_hasLog (gq_I z) μ = some true ∧ ∀ ν, gq_sm gq_Pc μ ν → ∃ μ2, f_X12_layLog (gq_I z) (gx_uI ν 206 0 (gq_I 0)) = some (true, μ2) ∧ gl_M φ 1600 μ2 ∧ gq_sm gq_Pm ν μ2 := by
  obtain ⟨⟨tp, n, f, q, N, W, Y, G, V, ok, hc, hm⟩, -, -⟩ := hI
  rw [gq_ad_0] at hc
  have n0 := ok.2.2.1 2 (by omega)
  have c1 : μ.1 2 2 = gq_I (N 2) := hc.2.2.1 2 (by omega)
  have m1 : μ.1 211 2 = gq_I (N 2) := hm.2.2.1 2 (by omega)
  have hs := gq_hasG c1 n0 hz
  have his : ∀ ν, gq_sm gq_Pc μ ν → f_X12_is (gq_I 2) (gq_I z) (gx_uI (gx_uI ν 206 0 (gq_I 0)) 206 46 (gq_I z)) = some (decide (0 ≤ z ∧ z < N 2)) := fun ν hν => by
    have e211 : ν.1 211 = μ.1 211 := (hν 211 (by unfold gq_Pc; omega)).1
    exact gq_is (q := 2) hz (by omega) n0 (by rw [gq_uI1, if_neg (by omega), gq_uI1, if_neg (by omega), e211]; exact m1)
  have sm : ∀ ν, gq_sm gq_Pm ν (gx_uI (gx_uI ν 206 0 (gq_I 0)) 206 46 (gq_I z)) := fun ν => gq_sm_uI gq_Pm206 (gq_sm_uI gq_Pm206 gq_sm_rf)
  by_cases h : 0 ≤ z ∧ z < N 2
  · rw [decide_eq_true h] at hs his
    obtain ⟨φ, hφ⟩ := gl_dec (G z.toNat)
    have og := ok.2.2.2.2.2.1 z.toNat (by omega)
    refine Or.inr ⟨z.toNat, G z.toNat, φ, by omega, by omega, og, hφ, hc.2.2.2.2.2.1 _ (by omega), hs, fun ν hν => ?_⟩
    have e214 : ν.1 214 = μ.1 214 := (hν 214 (by unfold gq_Pc; omega)).1
    obtain ⟨ν1, hν1⟩ : ∃ ν1, ν1 = gx_uI (gx_uI (gx_uI ν 206 0 (gq_I 0)) 206 46 (gq_I z)) 206 48 (gq_I 0) := ⟨_, rfl⟩
    have m3 : gq_mG ν1 z.toNat (G z.toNat) := by
      have := hm.2.2.2.2.2.1 z.toNat (by omega)
      rw [show 2 * 0 + z.toNat = z.toNat by omega] at this
      exact gq_mG_w this (by rw [hν1, gq_urow (by omega), gq_urow (by omega), gq_urow (by omega), e214])
    have h46 : ν1.1 206 46 = gq_I z.toNat := by
      rw [hν1, gq_uI1, if_neg (by omega), gq_uI1, if_pos ⟨rfl, rfl⟩, Int.toNat_of_nonneg h.1]
    have hM : gl_M φ 0 ν1 := ⟨by rw [hν1, gq_uI1, if_pos ⟨rfl, rfl⟩]; rfl, fun j hj => absurd hj (by omega)⟩
    obtain ⟨μ2, a1, a2, a3, a4⟩ := gl_23 og hφ (y := z.toNat) (by omega) (k := fun (μ41 : gx_M) => some (true, μ41)) 1600 4000 0 ν1 (by omega) (by omega) hM h46 m3
    refine ⟨μ2, ?_, a2, fun a ha => ⟨?_, ?_⟩⟩
    · unfold f_X12_layLog
      simp only [gq_lte, gq_lit]
      rw [his ν hν, gq_br, if_pos rfl, ← hν1]
      exact a1
    · unfold gq_Pm at ha
      rw [a3 a (by omega) (by omega), hν1, gq_urow (by omega), gq_urow (by omega), gq_urow (by omega)]
    · rw [a4, hν1]; rfl
  · rw [decide_eq_false h] at hs his
    refine Or.inl ⟨hs, fun ν hν => ⟨_, ?_, sm ν⟩⟩
    unfold f_X12_layLog
    simp only [gq_lte, gq_lit]
    rw [his ν hν]
    rfl
