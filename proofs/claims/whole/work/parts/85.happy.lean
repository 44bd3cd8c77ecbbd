/-! happy -/
abbrev gs_W (v : Nat → Int) (p q : Nat) : Int := v (1 + (6 * p + q))
abbrev gs_prP (v : Nat → Int) (_ : Nat → Nat) (H a b : Nat) : Prop := (a < H ∧ b < H) ∧ a < b ∧ gs_W v a a < gs_W v a b ∧ gs_W v b b < gs_W v b a
abbrev gs_enP (v : Nat → Int) (E : Nat → Nat) (H a b : Nat) : Prop := (a < H ∧ b < H) ∧ gs_W v a (E a) < gs_W v a (E b)
def gs_pr (v : Nat → Int) (E : Nat → Nat) (H j : Nat) : Bool := decide (gs_prP v E H (j / 6) (j % 6))
def gs_en (v : Nat → Int) (E : Nat → Nat) (H j : Nat) : Bool := decide (gs_enP v E H (j / 6) (j % 6))
theorem gs_prj {v : Nat → Int} {E : Nat → Nat} {H a b : Nat} (hb : b < 6) : gs_pr v E H (6 * a + b) = decide (gs_prP v E H a b) := by
  unfold gs_pr
  rw [show (6 * a + b) / 6 = a by omega, show (6 * a + b) % 6 = b by omega]
theorem gs_enj {v : Nat → Int} {E : Nat → Nat} {H a b : Nat} (hb : b < 6) : gs_en v E H (6 * a + b) = decide (gs_enP v E H a b) := by
  unfold gs_en
  rw [show (6 * a + b) / 6 = a by omega, show (6 * a + b) % 6 = b by omega]
/-- what is read of a settled swap -/
def gs_E (μ ν : gx_M) (s H : Nat) (v : Nat → Int) (E : Nat → Nat) : Prop := (μ.1 (22 + 16 * s) 0 = gq_I H ∧ ν.1 206 50 = gq_I H) ∧ (∀ h : Nat, h < H → μ.1 85 h = gq_I (E h) ∧ ν.1 232 h = gq_I (E h) ∧ E h < H) ∧ (∀ p q : Nat, p < 6 → q < 6 → f_X6_worthTo (22 + 16 * s) (gq_I p) (gq_I q) μ = some (gq_I (gs_W v p q)) ∧ f_X12_worthTo (gq_I p) (gq_I q) ν = some (gq_I (gs_W v p q)) ∧ 0 ≤ gs_W v p q ∧ gs_W v p q ≤ 9) ∧ H ≤ 6
theorem gs_envL {μ ν : gx_M} {s H a : Nat} {v : Nat → Int} {E : Nat → Nat} (h : gs_E μ ν s H v E) (ha : a < H) {k : Int32 → Option Int32} : ∀ (d f b : Nat), d < f → b + d = H → L_X10_envy_15 μ (22 + 16 * s) (gq_I a) k f (gq_I (gm_cnt (gs_en v E H) (6 * a + b) : Nat)) (gq_I b) = k (gq_I (gm_cnt (gs_en v E H) (6 * a + H) : Nat))
  | _, 0, _, hf, _ => absurd hf (Nat.not_lt_zero _)
  | 0, f + 1, b, hf, hb => by
    have h6 := h.2.2.2
    rw [L_X10_envy_15.eq_2, h.1.1, show b = H by omega]
    simp (disch := omega) only [Int.reduceToNat, gq_lit, gq_neg, gq_add, gq_sub, gq_mul, gq_nat, Int.toNat_natCast, gq_tadd, gq_tmul, gq_lte, gq_br, gq_bd, gq_ck, Bool.false_eq_true, gq_leT, gq_leF, gq_ltT, gq_ltF, gq_eqT, gq_eqF, if_true, if_false]
  | d + 1, f + 1, b, hf, hb => by
    have h6 := h.2.2.2
    obtain ⟨ea, _, ea2⟩ := h.2.1 a ha
    obtain ⟨eb, _, eb2⟩ := h.2.1 b (by omega)
    obtain ⟨w1, _, w1a, w1b⟩ := h.2.2.1 a (E b) (by omega) (by omega)
    obtain ⟨w2, _, w2a, w2b⟩ := h.2.2.1 a (E a) (by omega) (by omega)
    have ej := gs_enj (v := v) (E := E) (H := H) (a := a) (b := b) (by omega)
    rw [← gs_envL h ha (k := k) d f (b + 1) (by omega) (by omega), L_X10_envy_15.eq_2, h.1.1, show 6 * a + (b + 1) = 6 * a + b + 1 by omega]
    by_cases g : gs_W v a (E b) ≤ gs_W v a (E a)
    · rw [gl_cntF (by rw [ej]; exact decide_eq_false fun c => absurd c.2 (by omega))]
      simp (disch := omega) only [Int.reduceToNat, gq_lit, gq_neg, gq_add, gq_sub, gq_mul, gq_nat, Int.toNat_natCast, gq_tadd, gq_tmul, gq_lte, gq_br, gq_bd, gq_ck, Bool.false_eq_true, gq_leT, gq_leF, gq_ltT, gq_ltF, gq_eqT, gq_eqF, if_true, if_false, ea, eb, w1, w2]
      rfl
    · rw [gl_cntT (by rw [ej]; exact decide_eq_true ⟨⟨ha, by omega⟩, by omega⟩)]
      simp (disch := omega) only [Int.reduceToNat, gq_lit, gq_neg, gq_add, gq_sub, gq_mul, gq_nat, Int.toNat_natCast, gq_tadd, gq_tmul, gq_lte, gq_br, gq_bd, gq_ck, Bool.false_eq_true, gq_leT, gq_leF, gq_ltT, gq_ltF, gq_eqT, gq_eqF, if_true, if_false, ea, eb, w1, w2]
      rfl
theorem gs_tl {P : Nat → Bool} {a H : Nat} (hH : H ≤ 6) (hP : ∀ b, H ≤ b → b < 6 → P (6 * a + b) = false) : gm_cnt P (6 * (a + 1)) = gm_cnt P (6 * a + H) := by
  have := gm_cnt_tail (b := P) (i := 6 * a + H) (n := 6 - H) fun j h1 h2 => by
    have := hP (j - 6 * a) (by omega) (by omega)
    rw [show 6 * a + (j - 6 * a) = j by omega] at this
    exact this
  rw [show 6 * a + H + (6 - H) = 6 * (a + 1) by omega] at this
  exact this
theorem gs_env4 {μ ν : gx_M} {s H : Nat} {v : Nat → Int} {E : Nat → Nat} (h : gs_E μ ν s H v E) {k : Int32 → Option Int32} : ∀ (d f a : Nat), d < f → a + d = H → L_X10_envy_4 μ (22 + 16 * s) k f (gq_I (gm_cnt (gs_en v E H) (6 * a) : Nat)) (gq_I a) = k (gq_I (gm_cnt (gs_en v E H) (6 * H) : Nat))
  | _, 0, _, hf, _ => absurd hf (Nat.not_lt_zero _)
  | 0, f + 1, a, hf, ha => by
    have h6 := h.2.2.2
    rw [L_X10_envy_4.eq_2, h.1.1, show a = H by omega]
    simp (disch := omega) only [Int.reduceToNat, gq_lit, gq_neg, gq_add, gq_sub, gq_mul, gq_nat, Int.toNat_natCast, gq_tadd, gq_tmul, gq_lte, gq_br, gq_bd, gq_ck, Bool.false_eq_true, gq_leT, gq_leF, gq_ltT, gq_ltF, gq_eqT, gq_eqF, if_true, if_false]
  | d + 1, f + 1, a, hf, ha => by
    have h6 := h.2.2.2
    have i1 := gs_envL h (a := a) (by omega) (k := fun (x2_17 : Int32) => L_X10_envy_4 μ (22 + 16 * s) k f x2_17 (gq_I (a + 1 : Nat))) H 4000 0 (by omega) (by omega)
    have tl := gs_tl (P := gs_en v E H) (a := a) (H := H) h6 fun b h1 h2 => by
      rw [gs_enj h2]
      exact decide_eq_false fun c => absurd c.1.2 (by omega)
    rw [← gs_env4 h (k := k) d f (a + 1) (by omega) (by omega), L_X10_envy_4.eq_2, h.1.1, tl]
    simp (disch := omega) only [Int.reduceToNat, gq_lit, gq_neg, gq_add, gq_sub, gq_mul, gq_nat, Int.toNat_natCast, gq_tadd, gq_tmul, gq_lte, gq_br, gq_bd, gq_ck, Bool.false_eq_true, gq_leT, gq_leF, gq_ltT, gq_ltF, gq_eqT, gq_eqF, if_true, if_false]
    exact i1
theorem gs_prL {μ ν : gx_M} {s H a : Nat} {v : Nat → Int} {E : Nat → Nat} (h : gs_E μ ν s H v E) (ha : a < H) {k : Int32 → Option Int32} : ∀ (d f b : Nat), d < f → b + d = H → a < b → L_X6_pairs_16 μ (22 + 16 * s) (gq_I a) k f (gq_I (gm_cnt (gs_pr v E H) (6 * a + b) : Nat)) (gq_I b) = k (gq_I (gm_cnt (gs_pr v E H) (6 * a + H) : Nat))
  | _, 0, _, hf, _, _ => absurd hf (Nat.not_lt_zero _)
  | 0, f + 1, b, hf, hb, hab => by
    have h6 := h.2.2.2
    rw [L_X6_pairs_16.eq_2, h.1.1, show b = H by omega]
    simp (disch := omega) only [Int.reduceToNat, gq_lit, gq_neg, gq_add, gq_sub, gq_mul, gq_nat, Int.toNat_natCast, gq_tadd, gq_tmul, gq_lte, gq_br, gq_bd, gq_ck, Bool.false_eq_true, gq_leT, gq_leF, gq_ltT, gq_ltF, gq_eqT, gq_eqF, if_true, if_false]
  | d + 1, f + 1, b, hf, hb, hab => by
    have h6 := h.2.2.2
    obtain ⟨w1, _, w1a, w1b⟩ := h.2.2.1 a b (by omega) (by omega)
    obtain ⟨w2, _, w2a, w2b⟩ := h.2.2.1 a a (by omega) (by omega)
    obtain ⟨w3, _, w3a, w3b⟩ := h.2.2.1 b a (by omega) (by omega)
    obtain ⟨w4, _, w4a, w4b⟩ := h.2.2.1 b b (by omega) (by omega)
    have ej := gs_prj (v := v) (E := E) (H := H) (a := a) (b := b) (by omega)
    rw [← gs_prL h ha (k := k) d f (b + 1) (by omega) (by omega) (by omega), L_X6_pairs_16.eq_2, h.1.1, show 6 * a + (b + 1) = 6 * a + b + 1 by omega]
    by_cases g : gs_W v a b ≤ gs_W v a a
    · rw [gl_cntF (by rw [ej]; exact decide_eq_false fun c => absurd c.2.2.1 (by omega))]
      simp (disch := omega) only [Int.reduceToNat, gq_lit, gq_neg, gq_add, gq_sub, gq_mul, gq_nat, Int.toNat_natCast, gq_tadd, gq_tmul, gq_lte, gq_br, gq_bd, gq_ck, Bool.false_eq_true, gq_leT, gq_leF, gq_ltT, gq_ltF, gq_eqT, gq_eqF, if_true, if_false, w1, w2]
      rfl
    · by_cases g2 : gs_W v b a ≤ gs_W v b b
      · rw [gl_cntF (by rw [ej]; exact decide_eq_false fun c => absurd c.2.2.2 (by omega))]
        simp (disch := omega) only [Int.reduceToNat, gq_lit, gq_neg, gq_add, gq_sub, gq_mul, gq_nat, Int.toNat_natCast, gq_tadd, gq_tmul, gq_lte, gq_br, gq_bd, gq_ck, Bool.false_eq_true, gq_leT, gq_leF, gq_ltT, gq_ltF, gq_eqT, gq_eqF, if_true, if_false, w1, w2, w3, w4]
        rfl
      · rw [gl_cntT (by rw [ej]; exact decide_eq_true ⟨⟨ha, by omega⟩, hab, by omega, by omega⟩)]
        simp (disch := omega) only [Int.reduceToNat, gq_lit, gq_neg, gq_add, gq_sub, gq_mul, gq_nat, Int.toNat_natCast, gq_tadd, gq_tmul, gq_lte, gq_br, gq_bd, gq_ck, Bool.false_eq_true, gq_leT, gq_leF, gq_ltT, gq_ltF, gq_eqT, gq_eqF, if_true, if_false, w1, w2, w3, w4]
        rfl
theorem gs_hd0 {P : Nat → Bool} {a : Nat} (ha : a < 6) (hP : ∀ b, b ≤ a → P (6 * a + b) = false) : gm_cnt P (6 * a + (a + 1)) = gm_cnt P (6 * a) :=
  gm_cnt_tail (b := P) (i := 6 * a) (n := a + 1) fun j h1 h2 => by
    have := hP (j - 6 * a) (by omega)
    rw [show 6 * a + (j - 6 * a) = j by omega] at this
    exact this
theorem gs_pr4 {μ ν : gx_M} {s H : Nat} {v : Nat → Int} {E : Nat → Nat} (h : gs_E μ ν s H v E) {k : Int32 → Option Int32} : ∀ (d f a : Nat), d < f → a + d = H → L_X6_pairs_4 μ (22 + 16 * s) k f (gq_I (gm_cnt (gs_pr v E H) (6 * a) : Nat)) (gq_I a) = k (gq_I (gm_cnt (gs_pr v E H) (6 * H) : Nat))
  | _, 0, _, hf, _ => absurd hf (Nat.not_lt_zero _)
  | 0, f + 1, a, hf, ha => by
    have h6 := h.2.2.2
    rw [L_X6_pairs_4.eq_2, h.1.1, show a = H by omega]
    simp (disch := omega) only [Int.reduceToNat, gq_lit, gq_neg, gq_add, gq_sub, gq_mul, gq_nat, Int.toNat_natCast, gq_tadd, gq_tmul, gq_lte, gq_br, gq_bd, gq_ck, Bool.false_eq_true, gq_leT, gq_leF, gq_ltT, gq_ltF, gq_eqT, gq_eqF, if_true, if_false]
  | d + 1, f + 1, a, hf, ha => by
    have h6 := h.2.2.2
    have i1 := gs_prL h (a := a) (by omega) (k := fun (x1_19 : Int32) => L_X6_pairs_4 μ (22 + 16 * s) k f x1_19 (gq_I (a + 1 : Nat))) (H - (a + 1)) 4000 (a + 1) (by omega) (by omega) (by omega)
    have tl := gs_tl (P := gs_pr v E H) (a := a) (H := H) h6 fun b h1 h2 => by
      rw [gs_prj h2]
      exact decide_eq_false fun c => absurd c.1.2 (by omega)
    have hd := gs_hd0 (P := gs_pr v E H) (a := a) (by omega) fun b h1 => by
      rw [gs_prj (by omega)]
      exact decide_eq_false fun c => absurd c.2.1 (by omega)
    rw [hd] at i1
    rw [← gs_pr4 h (k := k) d f (a + 1) (by omega) (by omega), L_X6_pairs_4.eq_2, h.1.1, tl]
    simp (disch := omega) only [Int.reduceToNat, gq_lit, gq_neg, gq_add, gq_sub, gq_mul, gq_nat, Int.toNat_natCast, gq_tadd, gq_tmul, gq_lte, gq_br, gq_bd, gq_ck, Bool.false_eq_true, gq_leT, gq_leF, gq_ltT, gq_ltF, gq_eqT, gq_eqF, if_true, if_false]
    exact i1
/-- the check's step, cut small -/
def gs_b3 (next : Int32 → gx_M → Option (Int32 × gx_M)) (v3_6 p2 : Int32) (j0_27 j0_35 : Bool) (μ36 : gx_M) : Option (Int32 × gx_M) := gx_lt (fun (j0_45 : Bool) (μ46 : gx_M) => gx_lt (v3_6 + (gx_bi j0_45)) (fun (x47 : Int32) => next x47 μ46)) (fun J37 => gx_lt (fun (μ44 : gx_M) => J37 false μ44) (fun J39 => gx_lt (fun (μ43 : gx_M) => J37 true μ43) (fun J38 => if p2 = 1 then if j0_27 = true then J38 μ36 else J39 μ36 else if j0_35 = true then J38 μ36 else J39 μ36)))
def gs_b2 (next : Int32 → gx_M → Option (Int32 × gx_M)) (v3_6 p2 x11 x12 : Int32) (j0_27 : Bool) (μ28 : gx_M) : Option (Int32 × gx_M) := gx_ck (gx_ix x12 6 = true) (gx_br (f_X12_worthTo x11 (μ28.1 232 x12.toNatClampNeg) μ28) (fun (r30 : Int32) => gx_ck (gx_ix x11 6 = true) (gx_br (f_X12_worthTo x11 (μ28.1 232 x11.toNatClampNeg) μ28) (fun (r32 : Int32) => if r30 ≤ r32 then gs_b3 next v3_6 p2 j0_27 false μ28 else gs_b3 next v3_6 p2 j0_27 true μ28))))
theorem gs_b1 (p2 : Int32) (k9 : Int32 → gx_M → Option (Int32 × gx_M)) (n : Nat) (v3_6 v4_7 : Int32) (μ8 : gx_M) : L_X12_happy_29 p2 k9 (n + 1) v3_6 v4_7 μ8 = if 36 ≤ v4_7 then k9 v3_6 μ8 else gx_lt (v4_7 / 6) (fun (x11 : Int32) => gx_lt (v4_7 - v4_7 / 6 * 6) (fun (x12 : Int32) => if (μ8.1 206 50) ≤ x11 then L_X12_happy_29 p2 k9 n v3_6 (v4_7 + 1) μ8 else if (μ8.1 206 50) ≤ x12 then L_X12_happy_29 p2 k9 n v3_6 (v4_7 + 1) μ8 else if x11 = x12 then L_X12_happy_29 p2 k9 n v3_6 (v4_7 + 1) μ8 else if x12 ≤ x11 then gs_b2 (fun x m => L_X12_happy_29 p2 k9 n x (v4_7 + 1) m) v3_6 p2 x11 x12 false μ8 else gx_br (f_X12_worthTo x11 x12 μ8) (fun (r20 : Int32) => gx_br (f_X12_worthTo x11 x11 μ8) (fun (r21 : Int32) => if r20 ≤ r21 then gs_b2 (fun x m => L_X12_happy_29 p2 k9 n x (v4_7 + 1) m) v3_6 p2 x11 x12 false μ8 else gx_br (f_X12_worthTo x12 x11 μ8) (fun (r23 : Int32) => gx_br (f_X12_worthTo x12 x12 μ8) (fun (r24 : Int32) => if r23 ≤ r24 then gs_b2 (fun x m => L_X12_happy_29 p2 k9 n x (v4_7 + 1) m) v3_6 p2 x11 x12 false μ8 else gs_b2 (fun x m => L_X12_happy_29 p2 k9 n x (v4_7 + 1) m) v3_6 p2 x11 x12 true μ8)))))) := rfl
theorem gs_b3e (next : Int32 → gx_M → Option (Int32 × gx_M)) (v3 p2 : Int32) (x y : Bool) (μ : gx_M) : gs_b3 next v3 p2 x y μ = next (v3 + gx_bi (if p2 = 1 then x else y)) μ := by
  unfold gs_b3
  simp only [gq_lte]
  by_cases g : p2 = 1
  · rw [if_pos g, if_pos g]
    cases x <;> rfl
  · rw [if_neg g, if_neg g]
    cases y <;> rfl
theorem gs_b2e {μ ν : gx_M} {s H a b : Nat} {v : Nat → Int} {E : Nat → Nat} (h : gs_E μ ν s H v E) (ha : a < H) (hb : b < H) (next : Int32 → gx_M → Option (Int32 × gx_M)) (v3 p2 : Int32) (x : Bool) : gs_b2 next v3 p2 (gq_I a) (gq_I b) x ν = next (v3 + gx_bi (if p2 = 1 then x else decide (gs_W v a (E a) < gs_W v a (E b)))) ν := by
  have h6 := h.2.2.2
  obtain ⟨_, ea, ea2⟩ := h.2.1 a ha
  obtain ⟨_, eb, eb2⟩ := h.2.1 b hb
  obtain ⟨_, w5, w5a, w5b⟩ := h.2.2.1 a (E b) (by omega) (by omega)
  obtain ⟨_, w6, w6a, w6b⟩ := h.2.2.1 a (E a) (by omega) (by omega)
  unfold gs_b2
  rw [gq_ck (by omega), gq_nat (by omega), Int.toNat_natCast, eb, w5, gq_br, gq_ck (by omega), gq_nat (by omega), Int.toNat_natCast, ea, w6, gq_br, gs_b3e, gs_b3e]
  by_cases g : gs_W v a (E a) < gs_W v a (E b)
  · rw [if_neg (by rw [gq_le (by omega)]; omega), decide_eq_true g]
  · rw [if_pos (by rw [gq_le (by omega)]; omega), decide_eq_false g]
theorem gs_c1 {μ ν : gx_M} {s H : Nat} {v : Nat → Int} {E : Nat → Nat} {q : Int} (hq : q = 1) (h : gs_E μ ν s H v E) {k : Int32 → gx_M → Option (Int32 × gx_M)} : ∀ (d f i : Nat), d < f → i + d = 36 → L_X12_happy_29 (gq_I q) k f (gq_I (gm_cnt (gs_pr v E H) i : Nat)) (gq_I i) ν = k (gq_I (gm_cnt (gs_pr v E H) 36 : Nat)) ν
  | _, 0, _, hf, _ => absurd hf (Nat.not_lt_zero _)
  | 0, f + 1, i, hf, hi => by
    rw [gs_b1, show i = 36 by omega]
    simp (disch := omega) only [gq_lit, Bool.false_eq_true, gq_leT, gq_leF, gq_ltT, gq_ltF, gq_eqT, gq_eqF, if_true, if_false]
  | d + 1, f + 1, i, hf, hi => by
    have h6 := h.2.2.2
    obtain ⟨a, ha⟩ : ∃ a, a = i / 6 := ⟨_, rfl⟩
    obtain ⟨b, hb⟩ : ∃ b, b = i % 6 := ⟨_, rfl⟩
    have hi6 : 6 * a + b = i := by omega
    have e1 : gq_I i / gq_I 6 = gq_I a := by rw [gq_div (by omega)]; exact congrArg gq_I (by omega)
    have e2 : gq_I i - gq_I a * gq_I 6 = gq_I b := by rw [gq_mul, gq_sub]; exact congrArg gq_I (by omega)
    have ej := gs_prj (v := v) (E := E) (H := H) (a := a) (b := b) (by omega)
    rw [hi6] at ej
    rw [← gs_c1 hq h (k := k) d f (i + 1) (by omega) (by omega), gs_b1]
    have skip : gs_pr v E H i = false → gq_I (gm_cnt (gs_pr v E H) (i + 1) : Nat) = gq_I (gm_cnt (gs_pr v E H) i : Nat) := fun g => by rw [gl_cntF g]
    have nx : gq_I i + gq_I 1 = gq_I (i + 1 : Nat) := by rw [gq_add]; rfl
    have fin : ∀ t : Bool, (gs_pr v E H i = t) → gq_I (gm_cnt (gs_pr v E H) i : Nat) + gx_bi t = gq_I (gm_cnt (gs_pr v E H) (i + 1) : Nat) := fun t g => by
      cases t
      · rw [gl_cntF g, gq_biF, gq_add, Int.add_zero]
      · rw [gl_cntT g, gq_biT, gq_add]; rfl
    simp (disch := omega) only [gq_lit, gq_lte, e1, e2, Bool.false_eq_true, gq_leT, gq_leF, gq_ltT, gq_ltF, gq_eqT, gq_eqF, if_true, if_false, h.1.2, nx]
    by_cases g1 : H ≤ a
    · rw [if_pos (by rw [gq_le (by omega)]; omega), skip (by rw [ej]; exact decide_eq_false fun c => absurd c.1.1 (by omega))]
    by_cases g2 : H ≤ b
    · rw [if_neg (by rw [gq_le (by omega)]; omega), if_pos (by rw [gq_le (by omega)]; omega), skip (by rw [ej]; exact decide_eq_false fun c => absurd c.1.2 (by omega))]
    rw [if_neg (by rw [gq_le (by omega)]; omega), if_neg (by rw [gq_le (by omega)]; omega)]
    by_cases g3 : a = b
    · rw [if_pos (by rw [g3]), skip (by rw [ej]; exact decide_eq_false fun c => absurd c.2.1 (by omega))]
    rw [if_neg (by rw [gq_eq (by omega)]; omega)]
    obtain ⟨_, w1, w1a, w1b⟩ := h.2.2.1 a b (by omega) (by omega)
    obtain ⟨_, w2, w2a, w2b⟩ := h.2.2.1 a a (by omega) (by omega)
    obtain ⟨_, w3, w3a, w3b⟩ := h.2.2.1 b a (by omega) (by omega)
    obtain ⟨_, w4, w4a, w4b⟩ := h.2.2.1 b b (by omega) (by omega)
    rw [gs_b2e h (by omega) (by omega), gs_b2e h (by omega) (by omega), w1, w2, w3, w4, gq_br, gq_br, gq_br, gq_br]
    have hq1 : gq_I q = 1 := by rw [hq]; rfl
    rw [if_pos hq1, if_pos hq1]
    by_cases g4 : b ≤ a
    · rw [if_pos (by rw [gq_le (by omega)]; omega), fin false (by rw [ej]; exact decide_eq_false fun c => absurd c.2.1 (by omega))]
    rw [if_neg (by rw [gq_le (by omega)]; omega)]
    by_cases g5 : gs_W v a b ≤ gs_W v a a
    · rw [if_pos (by rw [gq_le (by omega)]; omega), fin false (by rw [ej]; exact decide_eq_false fun c => absurd c.2.2.1 (by omega))]
    rw [if_neg (by rw [gq_le (by omega)]; omega)]
    by_cases g6 : gs_W v b a ≤ gs_W v b b
    · rw [if_pos (by rw [gq_le (by omega)]; omega), fin false (by rw [ej]; exact decide_eq_false fun c => absurd c.2.2.2 (by omega))]
    rw [if_neg (by rw [gq_le (by omega)]; omega), fin true (by rw [ej]; exact decide_eq_true ⟨⟨by omega, by omega⟩, by omega, by omega, by omega⟩)]
theorem gs_c2 {μ ν : gx_M} {s H : Nat} {v : Nat → Int} {E : Nat → Nat} {q : Int} (hq : q ≠ 1 ∧ -5 ≤ q ∧ q ≤ 5) (h : gs_E μ ν s H v E) {k : Int32 → gx_M → Option (Int32 × gx_M)} : ∀ (d f i : Nat), d < f → i + d = 36 → L_X12_happy_29 (gq_I q) k f (gq_I (gm_cnt (gs_en v E H) i : Nat)) (gq_I i) ν = k (gq_I (gm_cnt (gs_en v E H) 36 : Nat)) ν
  | _, 0, _, hf, _ => absurd hf (Nat.not_lt_zero _)
  | 0, f + 1, i, hf, hi => by
    rw [gs_b1, show i = 36 by omega]
    simp (disch := omega) only [gq_lit, Bool.false_eq_true, gq_leT, gq_leF, gq_ltT, gq_ltF, gq_eqT, gq_eqF, if_true, if_false]
  | d + 1, f + 1, i, hf, hi => by
    have h6 := h.2.2.2
    obtain ⟨a, ha⟩ : ∃ a, a = i / 6 := ⟨_, rfl⟩
    obtain ⟨b, hb⟩ : ∃ b, b = i % 6 := ⟨_, rfl⟩
    have hi6 : 6 * a + b = i := by omega
    have e1 : gq_I i / gq_I 6 = gq_I a := by rw [gq_div (by omega)]; exact congrArg gq_I (by omega)
    have e2 : gq_I i - gq_I a * gq_I 6 = gq_I b := by rw [gq_mul, gq_sub]; exact congrArg gq_I (by omega)
    have ej := gs_enj (v := v) (E := E) (H := H) (a := a) (b := b) (by omega)
    rw [hi6] at ej
    rw [← gs_c2 hq h (k := k) d f (i + 1) (by omega) (by omega), gs_b1]
    have skip : gs_en v E H i = false → gq_I (gm_cnt (gs_en v E H) (i + 1) : Nat) = gq_I (gm_cnt (gs_en v E H) i : Nat) := fun g => by rw [gl_cntF g]
    have nx : gq_I i + gq_I 1 = gq_I (i + 1 : Nat) := by rw [gq_add]; rfl
    have fin : ∀ t : Bool, (gs_en v E H i = t) → gq_I (gm_cnt (gs_en v E H) i : Nat) + gx_bi t = gq_I (gm_cnt (gs_en v E H) (i + 1) : Nat) := fun t g => by
      cases t
      · rw [gl_cntF g, gq_biF, gq_add, Int.add_zero]
      · rw [gl_cntT g, gq_biT, gq_add]; rfl
    simp (disch := omega) only [gq_lit, gq_lte, e1, e2, Bool.false_eq_true, gq_leT, gq_leF, gq_ltT, gq_ltF, gq_eqT, gq_eqF, if_true, if_false, h.1.2, nx]
    by_cases g1 : H ≤ a
    · rw [if_pos (by rw [gq_le (by omega)]; omega), skip (by rw [ej]; exact decide_eq_false fun c => absurd c.1.1 (by omega))]
    by_cases g2 : H ≤ b
    · rw [if_neg (by rw [gq_le (by omega)]; omega), if_pos (by rw [gq_le (by omega)]; omega), skip (by rw [ej]; exact decide_eq_false fun c => absurd c.1.2 (by omega))]
    rw [if_neg (by rw [gq_le (by omega)]; omega), if_neg (by rw [gq_le (by omega)]; omega)]
    by_cases g3 : a = b
    · rw [if_pos (by rw [g3]), skip (by rw [ej, g3]; exact decide_eq_false fun c => absurd c.2 (by omega))]
    rw [if_neg (by rw [gq_eq (by omega)]; omega)]
    obtain ⟨_, w1, w1a, w1b⟩ := h.2.2.1 a b (by omega) (by omega)
    obtain ⟨_, w2, w2a, w2b⟩ := h.2.2.1 a a (by omega) (by omega)
    obtain ⟨_, w3, w3a, w3b⟩ := h.2.2.1 b a (by omega) (by omega)
    obtain ⟨_, w4, w4a, w4b⟩ := h.2.2.1 b b (by omega) (by omega)
    rw [gs_b2e h (by omega) (by omega), gs_b2e h (by omega) (by omega), w1, w2, w3, w4, gq_br, gq_br, gq_br, gq_br]
    have hq1 : ¬ gq_I q = 1 := by rw [show (1 : Int32) = gq_I 1 from rfl, gq_eq (by omega)]; exact hq.1
    rw [if_neg hq1, if_neg hq1]
    have ef : gs_en v E H i = decide (gs_W v a (E a) < gs_W v a (E b)) := by
      rw [ej]
      by_cases g7 : gs_W v a (E a) < gs_W v a (E b)
      · rw [decide_eq_true g7]; exact decide_eq_true ⟨⟨by omega, by omega⟩, g7⟩
      · rw [decide_eq_false g7]; exact decide_eq_false fun c => g7 c.2
    rw [fin _ ef]
    split
    · rfl
    · split
      · rfl
      · split <;> rfl
