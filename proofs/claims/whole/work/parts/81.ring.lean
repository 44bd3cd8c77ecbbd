/-! swaps: who points to whom, rings -/
theorem gs_wc {μ : gx_M} {a p q : Nat} {v : Nat → Int} (hc : gq_cV μ a v) (hp : p < 6) (hq : q < 6) : f_X6_worthTo a (gq_I p) (gq_I q) μ = some (gq_I (v (1 + (6 * p + q)))) := by
  have e := hc.2 (6 * p + q) (by omega)
  unfold f_X6_worthTo
  simp (disch := omega) only [Int.reduceToNat, gq_lit, gq_neg, gq_add, gq_sub, gq_mul, gq_nat, Int.toNat_natCast, gq_tadd, gq_tmul, gq_lte, gq_br, gq_bd, gq_ck, Int.reduceToNat]
  rw [show p * 6 + q = 6 * p + q by omega, e]
theorem gs_wm {ν : gx_M} {s p q : Nat} {v : Nat → Int} (h : ν.1 206 49 = gq_I s) (hs : s < 2) (hm : gq_mV ν s v) (hp : p < 6) (hq : q < 6) : f_X12_worthTo (gq_I p) (gq_I q) ν = some (gq_I (v (1 + (6 * p + q)))) := by
  have e := hm (1 + (6 * p + q)) (by omega)
  unfold f_X12_worthTo
  rw [h]
  simp (disch := omega) only [Int.reduceToNat, gq_lit, gq_neg, gq_add, gq_sub, gq_mul, gq_nat, Int.toNat_natCast, gq_tadd, gq_tmul, gq_lte, gq_br, gq_bd, gq_ck, Int.reduceToNat]
  rw [show 37 * s + 1 + 6 * p + q = 37 * s + (1 + (6 * p + q)) by omega, e]
theorem gs_pig : ∀ (n : Nat) (g : Nat → Nat), (∀ i, i ≤ n → g i < n) → ∃ i j, i < j ∧ j ≤ n ∧ g i = g j
  | 0, g, h => absurd (h 0 (Nat.le_refl 0)) (Nat.not_lt_zero _)
  | n + 1, g, h => by
    by_cases c : ∃ i, i ≤ n ∧ g i = g (n + 1)
    · obtain ⟨i, i1, i2⟩ := c
      exact ⟨i, n + 1, by omega, Nat.le_refl _, i2⟩
    · have hn := h (n + 1) (Nat.le_refl _)
      obtain ⟨i, j, h1, h2, h3⟩ := gs_pig n (fun i => if g (n + 1) < g i then g i - 1 else g i) fun i hi => by
        have a := h i (by omega)
        have b : g i ≠ g (n + 1) := fun e => c ⟨i, hi, e⟩
        show (if g (n + 1) < g i then g i - 1 else g i) < n
        split <;> omega
      have a : g i ≠ g (n + 1) := fun e => c ⟨i, by omega, e⟩
      have b : g j ≠ g (n + 1) := fun e => c ⟨j, by omega, e⟩
      have h4 : (if g (n + 1) < g i then g i - 1 else g i) = if g (n + 1) < g j then g j - 1 else g j := h3
      refine ⟨i, j, h1, by omega, ?_⟩
      split at h4 <;> split at h4 <;> omega
def gs_ring (F : Nat → Nat) (p : Nat) : Nat → Nat → Bool
  | 0, x => decide (x = p)
  | n + 1, x => if x = p then true else gs_ring F p n (F x)
def gs_pw (F : Nat → Nat) (x : Nat) : Nat → Nat
  | 0 => x
  | t + 1 => F (gs_pw F x t)
theorem gs_pw_s (F : Nat → Nat) (x : Nat) : ∀ t, gs_pw F (F x) t = gs_pw F x (t + 1)
  | 0 => rfl
  | t + 1 => congrArg F (gs_pw_s F x t)
theorem gs_pw_a (F : Nat → Nat) (x i : Nat) : ∀ t, gs_pw F (gs_pw F x i) t = gs_pw F x (i + t)
  | 0 => rfl
  | t + 1 => congrArg F (gs_pw_a F x i t)
theorem gs_ring_pw {F : Nat → Nat} {p : Nat} : ∀ (n x t : Nat), t ≤ n → gs_pw F x t = p → gs_ring F p n x = true
  | 0, x, t, h, e => by
    have : t = 0 := by omega
    subst this
    exact decide_eq_true e
  | n + 1, x, t, h, e => by
    unfold gs_ring
    by_cases g : x = p
    · rw [if_pos g]
    · rw [if_neg g]
      cases t with
      | zero => exact absurd e g
      | succ t => exact gs_ring_pw n (F x) t (by omega) (by rw [gs_pw_s]; exact e)
/-- among those still there some one is in a ring -/
theorem gs_some {F : Nat → Nat} {P : Nat → Prop} {x : Nat} (hx : P x) (hF : ∀ i, P i → P (F i)) (h6 : ∀ i, P i → i < 6) : ∃ p, P p ∧ gs_ring F p 6 (F p) = true := by
  have all : ∀ t, P (gs_pw F x t) := fun t => by
    induction t with
    | zero => exact hx
    | succ t ih => exact hF _ ih
  obtain ⟨i, j, h1, h2, h3⟩ := gs_pig 6 (gs_pw F x) fun i _ => h6 _ (all i)
  refine ⟨gs_pw F x i, all i, gs_ring_pw 6 _ (j - i - 1) (by omega) ?_⟩
  rw [gs_pw_s, gs_pw_a, h3]
  congr 1
  omega
/-- what holds between both, with who is gone (D) and what each has (E) -/
def gs_fx (μ ν : gx_M) (s : Nat) (v : Nat → Int) : Prop := gq_cV μ (22 + 16 * s) v ∧ ν.1 206 49 = gq_I s ∧ ν.1 206 50 = gq_I (v 0) ∧ gq_mV ν s v
def gs_S (μ ν : gx_M) (H r : Nat) (D : Nat → Int) (E : Nat → Nat) : Prop := (∀ h, h < H → μ.1 86 h = gq_I (D h) ∧ ν.1 233 h = gq_I (D h) ∧ (D h = -1 ∨ (0 ≤ D h ∧ D h ≤ 5)) ∧ (D h ≠ -1 → μ.1 85 h = gq_I (E h) ∧ ν.1 232 h = gq_I (E h) ∧ E h < H)) ∧ μ.1 84 3 = gq_I r ∧ ν.1 206 51 = gq_I r
/-- rows that a settling changes -/
def gs_kc (μ μ' : gx_M) : Prop := (∀ a, ¬ (84 ≤ a ∧ a ≤ 87) → μ'.1 a = μ.1 a) ∧ μ'.2 = μ.2
def gs_km (ν ν' : gx_M) : Prop := (∀ a j, ¬ (a = 206 ∧ j = 51) → ¬ (232 ≤ a ∧ a ≤ 234) → ν'.1 a j = ν.1 a j) ∧ ν'.2 = ν.2
theorem gs_kc_r (μ : gx_M) : gs_kc μ μ := ⟨fun _ _ => rfl, rfl⟩
theorem gs_km_r (μ : gx_M) : gs_km μ μ := ⟨fun _ _ _ _ => rfl, rfl⟩
theorem gs_kc_tr {a b c : gx_M} (h : gs_kc a b) (h2 : gs_kc b c) : gs_kc a c := ⟨fun x h3 => (h2.1 x h3).trans (h.1 x h3), h2.2.trans h.2⟩
theorem gs_km_tr {a b c : gx_M} (h : gs_km a b) (h2 : gs_km b c) : gs_km a c := ⟨fun x j h3 h4 => (h2.1 x j h3 h4).trans (h.1 x j h3 h4), h2.2.trans h.2⟩
theorem gs_fx_w {μ ν μ' ν' : gx_M} {s : Nat} {v : Nat → Int} (hs : s < 2) (h : gs_fx μ ν s v) (hc : gs_kc μ μ') (hm : gs_km ν ν') : gs_fx μ' ν' s v := by
  obtain ⟨h1, h2, h3, h4⟩ := h
  refine ⟨gq_cV_sm h1 fun i hi => hc.1 _ (by omega), ?_, ?_, fun j hj => ?_⟩
  · rw [hm.1 _ _ (by omega) (by omega)]; exact h2
  · rw [hm.1 _ _ (by omega) (by omega)]; exact h3
  · rw [hm.1 _ _ (by omega) (by omega)]; exact h4 j hj
/-- whom one points to -/
theorem gs_favL {μ ν : gx_M} {s H r p : Nat} {v : Nat → Int} {D : Nat → Int} {E : Nat → Nat} (hs : s < 2) (ov : gq_okV v) (hH : v 0 = H) (hx : gs_fx μ ν s v) (hS : gs_S μ ν H r D E) (hp : p < H) {k k2 : Int32 → Option Int32} : ∀ (d f i : Nat) (x b y : Int), d < f → i + d = H → ((x = p ∧ b = -1 ∧ y = -1 ∧ (∀ j, j < i → D j ≠ -1)) ∨ (∃ q : Nat, q < H ∧ D q = -1 ∧ x = q ∧ y = q ∧ b = v (1 + (6 * p + q)))) → D p = -1 → ∃ F : Nat, F < H ∧ D F = -1 ∧ L_X10_favourite_8 μ (22 + 16 * s) (gq_I p) k f (gq_I x) (gq_I b) (gq_I i) = k (gq_I F) ∧ L_X12_pointOf_4 ν (gq_I p) k2 f (gq_I y) (gq_I i) = k2 (gq_I F)
  | _, 0, _, _, _, _, hf, _, _, _ => absurd hf (Nat.not_lt_zero _)
  | 0, f + 1, i, x, b, y, hf, hi, hst, hDp => by
    have o0 := ov.1
    have c0 : μ.1 (22 + 16 * s) 0 = gq_I H := by rw [hx.1.1, hH]
    have m0 : ν.1 206 50 = gq_I H := by rw [hx.2.2.1, hH]
    rcases hst with ⟨_, _, _, h4⟩ | ⟨q, q1, q2, q3, q4, q5⟩
    · exact absurd hDp (h4 p (by omega))
    · refine ⟨q, q1, q2, ?_, ?_⟩
      · rw [L_X10_favourite_8.eq_2, c0, q3]
        simp (disch := omega) only [Int.reduceToNat, gq_lit, gq_neg, gq_add, gq_sub, gq_mul, gq_nat, Int.toNat_natCast, gq_tadd, gq_tmul, gq_lte, gq_br, gq_bd, gq_ck, Bool.false_eq_true, gq_leT, gq_leF, gq_ltT, gq_ltF, gq_eqT, gq_eqF, if_true, if_false]
      · rw [L_X12_pointOf_4.eq_2, m0, q4]
        simp (disch := omega) only [Int.reduceToNat, gq_lit, gq_neg, gq_add, gq_sub, gq_mul, gq_nat, Int.toNat_natCast, gq_tadd, gq_tmul, gq_lte, gq_br, gq_bd, gq_ck, Bool.false_eq_true, gq_leT, gq_leF, gq_ltT, gq_ltF, gq_eqT, gq_eqF, if_true, if_false]
  | d + 1, f + 1, i, x, b, y, hf, hi, hst, hDp => by
    have o0 := ov.1
    have c0 : μ.1 (22 + 16 * s) 0 = gq_I H := by rw [hx.1.1, hH]
    have m0 : ν.1 206 50 = gq_I H := by rw [hx.2.2.1, hH]
    obtain ⟨d1, d2, d3, d4⟩ := hS.1 i (by omega)
    have wc := gs_wc (p := p) (q := i) hx.1 (by omega) (by omega)
    have wm := gs_wm (p := p) (q := i) hx.2.1 hs hx.2.2.2 (by omega) (by omega)
    have bw := ov.2 (6 * p + i) (by omega)
    by_cases gD : D i = -1
    · rcases hst with ⟨h1, h2, h3, h4⟩ | ⟨q, q1, q2, q3, q4, q5⟩
      · obtain ⟨F, F1, F2, i1, i2⟩ := gs_favL hs ov hH hx hS hp (k := k) (k2 := k2) d f (i + 1) i (v (1 + (6 * p + i))) i (by omega) (by omega) (Or.inr ⟨i, by omega, gD, rfl, rfl, rfl⟩) hDp
        refine ⟨F, F1, F2, ?_, ?_⟩
        · rw [← i1, L_X10_favourite_8.eq_2, c0, h2]
          simp (disch := omega) only [Int.reduceToNat, gq_lit, gq_neg, gq_add, gq_sub, gq_mul, gq_nat, Int.toNat_natCast, gq_tadd, gq_tmul, gq_lte, gq_br, gq_bd, gq_ck, Bool.false_eq_true, gq_leT, gq_leF, gq_ltT, gq_ltF, gq_eqT, gq_eqF, if_true, if_false, d1, gD, wc]
          rfl
        · rw [← i2, L_X12_pointOf_4.eq_2, m0, h3]
          simp (disch := omega) only [Int.reduceToNat, gq_lit, gq_neg, gq_add, gq_sub, gq_mul, gq_nat, Int.toNat_natCast, gq_tadd, gq_tmul, gq_lte, gq_br, gq_bd, gq_ck, Bool.false_eq_true, gq_leT, gq_leF, gq_ltT, gq_ltF, gq_eqT, gq_eqF, if_true, if_false, d2, gD]
          rfl
      · have wm2 := gs_wm (p := p) (q := q) hx.2.1 hs hx.2.2.2 (by omega) (by omega)
        have bq := ov.2 (6 * p + q) (by omega)
        by_cases gw : v (1 + (6 * p + i)) ≤ v (1 + (6 * p + q))
        · obtain ⟨F, F1, F2, i1, i2⟩ := gs_favL hs ov hH hx hS hp (k := k) (k2 := k2) d f (i + 1) x b y (by omega) (by omega) (Or.inr ⟨q, q1, q2, q3, q4, q5⟩) hDp
          refine ⟨F, F1, F2, ?_, ?_⟩
          · rw [← i1, L_X10_favourite_8.eq_2, c0, q5]
            simp (disch := omega) only [Int.reduceToNat, gq_lit, gq_neg, gq_add, gq_sub, gq_mul, gq_nat, Int.toNat_natCast, gq_tadd, gq_tmul, gq_lte, gq_br, gq_bd, gq_ck, Bool.false_eq_true, gq_leT, gq_leF, gq_ltT, gq_ltF, gq_eqT, gq_eqF, if_true, if_false, d1, gD, wc]
            rfl
          · rw [← i2, L_X12_pointOf_4.eq_2, m0, q4]
            simp (disch := omega) only [Int.reduceToNat, gq_lit, gq_neg, gq_add, gq_sub, gq_mul, gq_nat, Int.toNat_natCast, gq_tadd, gq_tmul, gq_lte, gq_br, gq_bd, gq_ck, Bool.false_eq_true, gq_leT, gq_leF, gq_ltT, gq_ltF, gq_eqT, gq_eqF, if_true, if_false, d2, gD, wm, wm2]
            rfl
        · obtain ⟨F, F1, F2, i1, i2⟩ := gs_favL hs ov hH hx hS hp (k := k) (k2 := k2) d f (i + 1) i (v (1 + (6 * p + i))) i (by omega) (by omega) (Or.inr ⟨i, by omega, gD, rfl, rfl, rfl⟩) hDp
          refine ⟨F, F1, F2, ?_, ?_⟩
          · rw [← i1, L_X10_favourite_8.eq_2, c0, q5]
            simp (disch := omega) only [Int.reduceToNat, gq_lit, gq_neg, gq_add, gq_sub, gq_mul, gq_nat, Int.toNat_natCast, gq_tadd, gq_tmul, gq_lte, gq_br, gq_bd, gq_ck, Bool.false_eq_true, gq_leT, gq_leF, gq_ltT, gq_ltF, gq_eqT, gq_eqF, if_true, if_false, d1, gD, wc]
            rfl
          · rw [← i2, L_X12_pointOf_4.eq_2, m0, q4]
            simp (disch := omega) only [Int.reduceToNat, gq_lit, gq_neg, gq_add, gq_sub, gq_mul, gq_nat, Int.toNat_natCast, gq_tadd, gq_tmul, gq_lte, gq_br, gq_bd, gq_ck, Bool.false_eq_true, gq_leT, gq_leF, gq_ltT, gq_ltF, gq_eqT, gq_eqF, if_true, if_false, d2, gD, wm, wm2]
            rfl
    · obtain ⟨F, F1, F2, i1, i2⟩ := gs_favL hs ov hH hx hS hp (k := k) (k2 := k2) d f (i + 1) x b y (by omega) (by omega) (by
        rcases hst with ⟨h1, h2, h3, h4⟩ | h
        · refine Or.inl ⟨h1, h2, h3, fun j hj => ?_⟩
          by_cases e : j = i
          · rw [e]; exact gD
          · exact h4 j (by omega)
        · exact Or.inr h) hDp
      refine ⟨F, F1, F2, ?_, ?_⟩
      · rw [← i1, L_X10_favourite_8.eq_2, c0]
        simp (disch := omega) only [Int.reduceToNat, gq_lit, gq_neg, gq_add, gq_sub, gq_mul, gq_nat, Int.toNat_natCast, gq_tadd, gq_tmul, gq_lte, gq_br, gq_bd, gq_ck, Bool.false_eq_true, gq_leT, gq_leF, gq_ltT, gq_ltF, gq_eqT, gq_eqF, if_true, if_false, d1]
        rfl
      · rw [← i2, L_X12_pointOf_4.eq_2, m0]
        simp (disch := omega) only [Int.reduceToNat, gq_lit, gq_neg, gq_add, gq_sub, gq_mul, gq_nat, Int.toNat_natCast, gq_tadd, gq_tmul, gq_lte, gq_br, gq_bd, gq_ck, Bool.false_eq_true, gq_leT, gq_leF, gq_ltT, gq_ltF, gq_eqT, gq_eqF, if_true, if_false, d2]
        rfl
theorem gs_fav {μ ν : gx_M} {s H r p : Nat} {v : Nat → Int} {D : Nat → Int} {E : Nat → Nat} (hs : s < 2) (ov : gq_okV v) (hH : v 0 = H) (hx : gs_fx μ ν s v) (hS : gs_S μ ν H r D E) (hp : p < H) (hDp : D p = -1) : ∃ F : Nat, F < H ∧ D F = -1 ∧ f_X10_favourite (22 + 16 * s) (gq_I p) μ = some (gq_I F) ∧ f_X12_pointOf (gq_I p) ν = some (gq_I F) := by
  have o0 := ov.1
  unfold f_X10_favourite f_X12_pointOf
  simp only [gq_lit, gq_neg]
  exact gs_favL hs ov hH hx hS hp (k := fun (x3_15 : Int32) => some x3_15) (k2 := fun (x2_15 : Int32) => some x2_15) H 4000 0 p (-1) (-1) (by omega) (by omega) (Or.inl ⟨rfl, rfl, rfl, fun j hj => absurd hj (Nat.not_lt_zero _)⟩) hDp
/-- a ring, on both sides -/
theorem gs_isL {μ ν : gx_M} {H p : Nat} {D : Nat → Int} {F : Nat → Nat} (hH : H ≤ 6) (hF : ∀ h, h < H → D h = -1 → F h < H ∧ D (F h) = -1 ∧ μ.1 87 h = gq_I (F h) ∧ ν.1 234 h = gq_I (F h)) (hp : p < H) : ∀ (d f i x : Nat), d < f → i + d = 6 → x < H → D x = -1 → L_X10_isInRing_9 (gq_I p) μ (fun (x2_11 : Int32) => if x2_11 = gq_I p then some true else some false) f (gq_I x) (gq_I i) = some (gs_ring F p d x) ∧ L_X12_isInRing_9 (gq_I p) ν (fun (x2_11 : Int32) => if x2_11 = gq_I p then some true else some false) f (gq_I x) (gq_I i) = some (gs_ring F p d x)
  | _, 0, _, _, hf, _, _, _ => absurd hf (Nat.not_lt_zero _)
  | 0, f + 1, i, x, hf, hi, hx, hD => by
    rw [L_X10_isInRing_9.eq_2, L_X12_isInRing_9.eq_2]
    simp (disch := omega) only [Int.reduceToNat, gq_lit, gq_neg, gq_add, gq_sub, gq_mul, gq_nat, Int.toNat_natCast, gq_tadd, gq_tmul, gq_lte, gq_br, gq_bd, gq_ck, Bool.false_eq_true, gq_leT, gq_leF, gq_ltT, gq_ltF, gq_eqT, gq_eqF, if_true, if_false]
    unfold gs_ring
    by_cases g : x = p
    · rw [decide_eq_true g, g, if_pos rfl]; exact ⟨rfl, rfl⟩
    · rw [decide_eq_false g, if_neg (by rw [gq_eq (by omega)]; omega)]; exact ⟨rfl, rfl⟩
  | d + 1, f + 1, i, x, hf, hi, hx, hD => by
    obtain ⟨f1, f2, f3, f4⟩ := hF x hx hD
    obtain ⟨i1, i2⟩ := gs_isL hH hF hp d f (i + 1) (F x) (by omega) (by omega) f1 f2
    rw [L_X10_isInRing_9.eq_2, L_X12_isInRing_9.eq_2]
    unfold gs_ring
    by_cases g : x = p
    · rw [if_pos g]
      simp (disch := omega) only [Int.reduceToNat, gq_lit, gq_neg, gq_add, gq_sub, gq_mul, gq_nat, Int.toNat_natCast, gq_tadd, gq_tmul, gq_lte, gq_br, gq_bd, gq_ck, Bool.false_eq_true, gq_leT, gq_leF, gq_ltT, gq_ltF, gq_eqT, gq_eqF, if_true, if_false]
      exact ⟨trivial, trivial⟩
    · rw [if_neg g]
      simp (disch := omega) only [Int.reduceToNat, gq_lit, gq_neg, gq_add, gq_sub, gq_mul, gq_nat, Int.toNat_natCast, gq_tadd, gq_tmul, gq_lte, gq_br, gq_bd, gq_ck, Bool.false_eq_true, gq_leT, gq_leF, gq_ltT, gq_ltF, gq_eqT, gq_eqF, if_true, if_false, f3, f4]
      exact ⟨i1, i2⟩
theorem gs_is {μ ν : gx_M} {H p : Nat} {D : Nat → Int} {F : Nat → Nat} (hH : H ≤ 6) (hF : ∀ h, h < H → D h = -1 → F h < H ∧ D (F h) = -1 ∧ μ.1 87 h = gq_I (F h) ∧ ν.1 234 h = gq_I (F h)) (hp : p < H) (hD : D p = -1) : f_X10_isInRing (gq_I p) μ = some (gs_ring F p 6 (F p)) ∧ f_X12_isInRing (gq_I p) ν = some (gs_ring F p 6 (F p)) := by
  obtain ⟨f1, f2, f3, f4⟩ := hF p hp hD
  have e := gs_isL hH hF hp 6 4000 0 (F p) (by omega) (by omega) f1 f2
  unfold f_X10_isInRing f_X12_isInRing
  simp (disch := omega) only [Int.reduceToNat, gq_lit, gq_neg, gq_add, gq_sub, gq_mul, gq_nat, Int.toNat_natCast, gq_tadd, gq_tmul, gq_lte, gq_br, gq_bd, gq_ck, f3, f4]
  exact e
