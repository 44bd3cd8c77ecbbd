/-! the check's table of least costs -/
theorem gd_runsL {s L T : Nat} {w O B : Nat → Int} {p g : Int} {φ : Nat → Nat → Bool} (ok : gq_okS w) (hs : s < 8) (hO : gc_okK O B g) (hφ : gc_al w B g φ) (hT2 : w 2 = T) (hL : w 0 = L) (hp : -1 ≤ p ∧ p ≤ 4) {k : gx_M → Option (Unit × gx_M)} : ∀ (d f i : Nat) (ν : gx_M), d < f → i + d = 40 * T → gc_K ν s w O B g → ∃ ν', L_X12_findCosts_2 (gq_I p) k f (gq_I i) ν = k ν' ∧ (∀ j, i ≤ j → j < 40 * T → ν'.1 227 j = gq_I (ga_R φ (gk_c w O p) (j / 40) (j % 40))) ∧ (∀ y j, ¬ (y = 227 ∧ i ≤ j) → ν'.1 y j = ν.1 y j) ∧ ν'.2 = ν.2
  | _, 0, _, _, hf, _, _ => absurd hf (Nat.not_lt_zero _)
  | 0, f + 1, i, ν, hf, hi, hK => by
    have o2 := ok.2.2.1
    refine ⟨ν, ?_, fun j h1 h2 => absurd h2 (by omega), fun _ _ _ => rfl, rfl⟩
    rw [L_X12_findCosts_2.eq_2, hK.1.1.2.2.2, hT2]
    simp (disch := omega) only [Int.reduceToNat, gq_lit, gq_neg, gq_add, gq_sub, gq_mul, gq_nat, Int.toNat_natCast, gq_tadd, gq_tmul, gq_lte, gq_br, gq_bd, gq_ck, Bool.false_eq_true, gq_leT, gq_leF, gq_ltT, gq_ltF, gq_eqT, gq_eqF, if_true, if_false]
  | d + 1, f + 1, i, ν, hf, hi, hK => by
    have o0 := ok.1
    have o2 := ok.2.2.1
    have e1 : gq_I i / gq_I 40 = gq_I (i / 40 : Nat) := by rw [gq_div (by omega)]; rfl
    have e2 : gq_I ((i : Int) - ((i / 40 : Nat) : Int) * 40) = gq_I (i % 40 : Nat) := congrArg gq_I (by omega)
    obtain ⟨ν', a1, a2, a3, a4⟩ := gd_runsL ok hs hO hφ hT2 hL hp (k := k) d f (i + 1) (gx_uI ν 227 i (gq_I (ga_R φ (gk_c w O p) (i / 40) (i % 40)))) (by omega) (by omega) (gc_K_w hK fun a j h1 h2 => by rw [gq_uI1, if_neg fun c => h2 c.1])
    refine ⟨ν', ?_, fun j h1 h2 => ?_, fun y j h1 => ?_, a4⟩
    · rw [← a1, L_X12_findCosts_2.eq_2, hK.1.1.2.2.2, hT2, hK.1.1.2.1, hL]
      by_cases g1 : L ≤ i % 40
      · have hn : ¬ φ (i / 40) (i % 40) = true := fun c => by
          obtain ⟨c1, c2, _⟩ := (hφ _ _).mp c
          have := gk_lt ok c1 c2
          have := (ok.2.2.2.2.1 _ c1).1
          omega
        have eR : ga_R φ (gk_c w O p) (i / 40) (i % 40) = 1000000 := if_neg hn
        rw [eR]
        simp (disch := omega) only [Int.reduceToNat, gq_lit, gq_neg, gq_add, gq_sub, gq_mul, gq_nat, Int.toNat_natCast, gq_tadd, gq_tmul, gq_lte, gq_br, gq_bd, gq_ck, Bool.false_eq_true, gq_leT, gq_leF, gq_ltT, gq_ltF, gq_eqT, gq_eqF, if_true, if_false, e1, e2]
        rfl
      · have er := gc_rc ok hs hK hO hφ (b := i / 40) (m := i % 40) (by omega) hp (by omega)
        simp (disch := omega) only [Int.reduceToNat, gq_lit, gq_neg, gq_add, gq_sub, gq_mul, gq_nat, Int.toNat_natCast, gq_tadd, gq_tmul, gq_lte, gq_br, gq_bd, gq_ck, Bool.false_eq_true, gq_leT, gq_leF, gq_ltT, gq_ltF, gq_eqT, gq_eqF, if_true, if_false, e1, e2, er]
        rfl
    · by_cases e : j = i
      · subst e
        rw [a3 227 j (by omega), gq_uI1, if_pos ⟨rfl, rfl⟩]
      · exact a2 j (by omega) h2
    · rw [a3 y j (by omega), gq_uI1, if_neg (by omega)]
/-- one place of the table -/
def gd_at (ν : gx_M) (w : Nat → Int) (φ : Nat → Nat → Bool) (c : Nat → Nat → Int) (L : Nat) (t : Nat → Nat → Int) (m x : Nat) : Prop := ν.1 226 (64 * m + x) = gq_I (t m x) ∧ (0 ≤ t m x ∧ t m x ≤ 1000000) ∧ ga_min φ (ga_l w) c x m L 1000000 (t m x)
/-- the check's runs -/
def gd_ctx (w : Nat → Int) (φ : Nat → Nat → Bool) (c : Nat → Nat → Int) : Prop := ∀ b m, φ b m = true → ((b : Int) < w 2 ∧ (m : Int) + w (7 + b) ≤ w 0) ∧ 0 ≤ c b m ∧ c b m ≤ 81
theorem gd_inL {ν : gx_M} {s L T m x : Nat} {w O B : Nat → Int} {g : Int} {φ : Nat → Nat → Bool} {c : Nat → Nat → Int} {t : Nat → Nat → Int} (ok : gq_okS w) (hs : s < 8) (hK : gc_K ν s w O B g) (hT2 : w 2 = T) (hL : w 0 = L) (hcx : gd_ctx w φ c) (hm : m < L) (hx : x < 2 ^ T) (hR : ∀ j, j < 40 * T → ν.1 227 j = gq_I (ga_R φ c (j / 40) (j % 40))) (ht : ∀ m' y, m < m' → m' ≤ L → y < 2 ^ T → gd_at ν w φ c L t m' y) {k : Int32 → gx_M → Option (Unit × gx_M)} : ∀ (d f i : Nat) (v : Int), d < f → i + d = T → (0 ≤ v ∧ v ≤ 1000000) → (v < 1000000 → ∃ S, ga_arr φ (ga_l w) x m L S ∧ ga_v c x S = v) → ∃ v', L_X12_findCosts_116 (gq_I m) (gq_I x) k f (gq_I v) (gq_I i) ν = k (gq_I v') ν ∧ (0 ≤ v' ∧ v' ≤ v) ∧ (v' < 1000000 → ∃ S, ga_arr φ (ga_l w) x m L S ∧ ga_v c x S = v') ∧ ∀ b, i ≤ b → b < T → ga_h x b = true → φ b m = true → v' ≤ c b m + t (m + ga_l w b) (x - 2 ^ b)
  | _, 0, _, _, hf, _, _, _ => absurd hf (Nat.not_lt_zero _)
  | 0, f + 1, i, v, hf, hi, hv, hS => by
    have o2 := ok.2.2.1
    refine ⟨v, ?_, ⟨hv.1, Int.le_refl _⟩, hS, fun b h1 h2 => absurd h2 (by omega)⟩
    rw [L_X12_findCosts_116.eq_2, hK.1.1.2.2.2, hT2]
    simp (disch := omega) only [Int.reduceToNat, gq_lit, gq_neg, gq_add, gq_sub, gq_mul, gq_nat, Int.toNat_natCast, gq_tadd, gq_tmul, gq_lte, gq_br, gq_bd, gq_ck, Bool.false_eq_true, gq_leT, gq_leF, gq_ltT, gq_ltF, gq_eqT, gq_eqF, if_true, if_false]
  | d + 1, f + 1, i, v, hf, hi, hv, hS => by
    have o0 := ok.1
    have o2 := ok.2.2.1
    have p2 := ga_2T T (by omega)
    have hb : (i : Int) < w 2 := by omega
    obtain ⟨l1, ⟨f1, f2, f3⟩, _⟩ := ok.2.2.2.2.1 i hb
    have eh := ga_hasX (x := x) (b := i) (by omega) (by omega)
    have eR := hR (40 * i + m) (by omega)
    rw [show (40 * i + m) / 40 = i by omega, show (40 * i + m) % 40 = m by omega] at eR
    by_cases g1 : ga_h x i = true
    · by_cases g2 : φ i m = true
      · obtain ⟨⟨_, r2⟩, r3, r4⟩ := hcx i m g2
        have eR1 : ga_R φ c i m = c i m := if_pos g2
        rw [eR1] at eR
        obtain ⟨i1, i2⟩ := ga_rm_ins x (by omega) i (by omega) g1
        have xlt : x - 2 ^ i < 2 ^ T := Nat.lt_of_le_of_lt (Nat.sub_le _ _) hx
        have lb : 1 ≤ ga_l w i ∧ ga_l w i ≤ 9 ∧ m + ga_l w i ≤ L := by unfold ga_l; omega
        obtain ⟨t1, t2, t3, t4⟩ := ht (m + ga_l w i) (x - 2 ^ i) (by omega) (by omega) xlt
        have erm := ga_rmI x (by omega) i (by omega) g1
        obtain ⟨u, hu⟩ : ∃ u, u = c i m + t (m + ga_l w i) (x - 2 ^ i) := ⟨_, rfl⟩
        obtain ⟨v1, hv1⟩ : ∃ v1, v1 = if u ≤ v then u else v := ⟨_, rfl⟩
        have sS : v1 < 1000000 → ∃ S, ga_arr φ (ga_l w) x m L S ∧ ga_v c x S = v1 := fun h => by
          by_cases g3 : u ≤ v
          · rw [if_pos g3] at hv1
            obtain ⟨S, s1, s2⟩ := t3 (by omega)
            exact ⟨ga_up S i m, ga_pre i1 g2 lb.2.2 s1, by rw [ga_v_up i1, s2, hv1, hu]; omega⟩
          · rw [if_neg g3] at hv1
            rw [hv1] at h ⊢
            exact hS h
        obtain ⟨v', e1, e2, e3, e4⟩ := gd_inL ok hs hK hT2 hL hcx hm hx hR ht (k := k) d f (i + 1) v1 (by omega) (by omega) (by rw [hv1]; split <;> omega) sS
        refine ⟨v', ?_, ⟨e2.1, by have := e2.2; rw [hv1] at this; split at this <;> omega⟩, e3, fun b h1 h2 h3 h4 => ?_⟩
        · rw [← e1, L_X12_findCosts_116.eq_2, hK.1.1.2.2.2, hT2, hK.1.1.2.1, hL, hv1, hu]
          simp (disch := omega) only [Int.reduceToNat, gq_lit, gq_neg, gq_add, gq_sub, gq_mul, gq_nat, Int.toNat_natCast, gq_tadd, gq_tmul, gq_lte, gq_br, gq_bd, gq_ck, Bool.false_eq_true, gq_leT, gq_leF, gq_ltT, gq_ltF, gq_eqT, gq_eqF, if_true, if_false, eh, g1, eR, gc_len ok hs hK.1 hb, erm, t1, gp_ls]
          rfl
        · by_cases e : b = i
          · subst e
            rw [← hu]
            have := e2.2
            rw [hv1] at this
            split at this <;> omega
          · exact e4 b (by omega) h2 h3 h4
      · have eR1 : ga_R φ c i m = 1000000 := if_neg g2
        rw [eR1] at eR
        obtain ⟨v', e1, e2, e3, e4⟩ := gd_inL ok hs hK hT2 hL hcx hm hx hR ht (k := k) d f (i + 1) v (by omega) (by omega) hv hS
        refine ⟨v', ?_, e2, e3, fun b h1 h2 h3 h4 => ?_⟩
        · rw [← e1, L_X12_findCosts_116.eq_2, hK.1.1.2.2.2, hT2, hK.1.1.2.1, hL]
          simp (disch := omega) only [Int.reduceToNat, gq_lit, gq_neg, gq_add, gq_sub, gq_mul, gq_nat, Int.toNat_natCast, gq_tadd, gq_tmul, gq_lte, gq_br, gq_bd, gq_ck, Bool.false_eq_true, gq_leT, gq_leF, gq_ltT, gq_ltF, gq_eqT, gq_eqF, if_true, if_false, eh, g1, eR]
          rfl
        · by_cases e : b = i
          · subst e
            exact absurd h4 g2
          · exact e4 b (by omega) h2 h3 h4
    · obtain ⟨v', e1, e2, e3, e4⟩ := gd_inL ok hs hK hT2 hL hcx hm hx hR ht (k := k) d f (i + 1) v (by omega) (by omega) hv hS
      refine ⟨v', ?_, e2, e3, fun b h1 h2 h3 h4 => ?_⟩
      · rw [← e1, L_X12_findCosts_116.eq_2, hK.1.1.2.2.2, hT2, hK.1.1.2.1, hL]
        have g1' : ga_h x i = false := by
          cases h : ga_h x i
          · rfl
          · exact absurd h g1
        simp (disch := omega) only [Int.reduceToNat, gq_lit, gq_neg, gq_add, gq_sub, gq_mul, gq_nat, Int.toNat_natCast, gq_tadd, gq_tmul, gq_lte, gq_br, gq_bd, gq_ck, Bool.false_eq_true, gq_leT, gq_leF, gq_ltT, gq_ltF, gq_eqT, gq_eqF, if_true, if_false, eh, g1']
        rfl
      · by_cases e : b = i
        · subst e
          exact absurd h3 g1
        · exact e4 b (by omega) h2 h3 h4
theorem gd_hl {w : Nat → Int} {T x : Nat} (ok : gq_okS w) (hT2 : w 2 = T) (hx : x < 2 ^ T) : ∀ b, b < 6 → ga_h x b = true → 1 ≤ ga_l w b := fun b hb h => by
  have o2 := ok.2.2.1
  have hbT := ga_h_lt T (by omega) x hx b hb h
  have := (ok.2.2.2.2.1 b (by omega)).1
  unfold ga_l
  omega
theorem ga_some {x : Nat} (hx : x < 64) (h0 : x ≠ 0) : ∃ b, b < 6 ∧ ga_h x b = true := by
  by_cases g : ∃ b, b < 6 ∧ ga_h x b = true
  · exact g
  · refine absurd (ga_no x hx fun b hb => ?_) h0
    cases h : ga_h x b
    · rfl
    · exact absurd ⟨b, hb, h⟩ g
/-- a row of the table -/
theorem gd_rowL {s L T m : Nat} {w O B : Nat → Int} {g : Int} {φ : Nat → Nat → Bool} {c : Nat → Nat → Int} (ok : gq_okS w) (hs : s < 8) (hT2 : w 2 = T) (hL : w 0 = L) (hcx : gd_ctx w φ c) (hm : m ≤ L) {k : gx_M → Option (Unit × gx_M)} : ∀ (d f i : Nat) (ν : gx_M) (t : Nat → Nat → Int), d < f → i + d = 2 ^ T → gc_K ν s w O B g → (∀ j, j < 40 * T → ν.1 227 j = gq_I (ga_R φ c (j / 40) (j % 40))) → (∀ m' y, m < m' → m' ≤ L → y < 2 ^ T → gd_at ν w φ c L t m' y) → (∀ y, y < i → gd_at ν w φ c L t m y) → ∃ ν' t', L_X12_findCosts_66 (gq_I m) k f (gq_I i) ν = k ν' ∧ (∀ m' y, m ≤ m' → m' ≤ L → y < 2 ^ T → gd_at ν' w φ c L t' m' y) ∧ (∀ y j, y ≠ 226 → ν'.1 y j = ν.1 y j) ∧ ν'.2 = ν.2
  | _, 0, _, _, _, hf, _, _, _, _, _ => absurd hf (Nat.not_lt_zero _)
  | 0, f + 1, i, ν, t, hf, hi, hK, hR, ht, hr => by
    have o2 := ok.2.2.1
    have p2 := ga_2T T (by omega)
    refine ⟨ν, t, ?_, fun m' y h1 h2 h3 => ?_, fun _ _ _ => rfl, rfl⟩
    · rw [L_X12_findCosts_66.eq_2, hK.1.1.2.2.2, hT2]
      simp only [gq_lit]
      rw [ga_subI T (by omega)]
      exact if_pos (by rw [gq_le (by omega)]; omega)
    · by_cases e : m' = m
      · subst e; exact hr y (by omega)
      · exact ht m' y (by omega) h2 h3
  | d + 1, f + 1, i, ν, t, hf, hi, hK, hR, ht, hr => by
    have o0 := ok.1
    have o2 := ok.2.2.1
    have p2 := ga_2T T (by omega)
    have hl := gd_hl (x := i) ok hT2 (by omega)
    obtain ⟨v0, hv0⟩ : ∃ v0, v0 = if i = 0 then 0 else if m = L then 1000000 else t (m + 1) i := ⟨_, rfl⟩
    have v0b : 0 ≤ v0 ∧ v0 ≤ 1000000 := by
      rw [hv0]
      by_cases g1 : i = 0
      · rw [if_pos g1]; omega
      · rw [if_neg g1]
        by_cases g2 : m = L
        · rw [if_pos g2]; omega
        · rw [if_neg g2]
          exact (ht (m + 1) i (by omega) (by omega) (by omega)).2.1
    have v0s : v0 < 1000000 → ∃ S, ga_arr φ (ga_l w) i m L S ∧ ga_v c i S = v0 := fun h => by
      rw [hv0] at h ⊢
      by_cases g1 : i = 0
      · rw [if_pos g1, g1]
        exact ⟨fun _ => 0, ga_arr_0, ga_v_0⟩
      · rw [if_neg g1] at h ⊢
        by_cases g2 : m = L
        · rw [if_pos g2] at h; omega
        · rw [if_neg g2] at h ⊢
          obtain ⟨S, s1, s2⟩ := (ht (m + 1) i (by omega) (by omega) (by omega)).2.2.1 h
          exact ⟨S, ga_mono s1 (by omega) (Nat.le_refl _), s2⟩
    have v0c : ∀ S, ga_arr φ (ga_l w) i (m + 1) L S → v0 ≤ ga_v c i S := fun S h => by
      rw [hv0]
      by_cases g1 : i = 0
      · rw [if_pos g1, g1, ga_v_0]; omega
      · rw [if_neg g1]
        by_cases g2 : m = L
        · obtain ⟨b, hb, h1⟩ := ga_some (by omega) g1
          have := h.1 b hb h1
          have := hl b hb h1
          omega
        · rw [if_neg g2]
          exact (ht (m + 1) i (by omega) (by omega) (by omega)).2.2.2 S h
    -- the value of this place
    have val : ∀ k : Int32 → gx_M → Option (Unit × gx_M), ∃ v', L_X12_findCosts_116 (gq_I m) (gq_I i) k 4000 (gq_I v0) (gq_I 0) ν = k (gq_I v') ν ∧ (0 ≤ v' ∧ v' ≤ 1000000) ∧ ga_min φ (ga_l w) c i m L 1000000 v' := fun k => by
      by_cases g2 : m = L
      · refine ⟨v0, ?_, v0b, v0s, fun S h => ?_⟩
        · rw [L_X12_findCosts_116.eq_2, hK.1.1.2.2.2, hT2, hK.1.1.2.1, hL, g2]
          by_cases g3 : T = 0
          · exact if_pos (by rw [gq_le (by omega)]; omega)
          · refine (if_neg (by rw [gq_le (by omega)]; omega)).trans ?_
            exact if_pos (by rw [gq_le (by omega)]; omega)
        · by_cases g1 : i = 0
          · rw [hv0, if_pos g1, g1, ga_v_0]; omega
          · obtain ⟨b, hb, h1⟩ := ga_some (by omega) g1
            have := h.1 b hb h1
            have := hl b hb h1
            omega
      · obtain ⟨v', e1, e2, e3, e4⟩ := gd_inL ok hs hK hT2 hL hcx (m := m) (x := i) (by omega) (by omega) hR ht (k := k) T 4000 0 v0 (by omega) (by omega) v0b v0s
        refine ⟨v', e1, ⟨e2.1, by omega⟩, e3, fun S h => ?_⟩
        rcases ga_first hl h with h1 | ⟨b, hb, h1, h2, h3⟩
        · exact Int.le_trans e2.2 (v0c S h1)
        · obtain ⟨i1, i2⟩ := ga_rm_ins i (by omega) b hb h1
          have hbT := ga_h_lt T (by omega) i (by omega) b hb h1
          have a := h.1 b hb h1
          rw [h2] at a
          have l1 := hl b hb h1
          have x1 := e4 b (by omega) hbT h1 a.1
          have x2 := (ht (m + ga_l w b) (i - 2 ^ b) (by omega) a.2.2 (Nat.lt_of_le_of_lt (Nat.sub_le _ _) (by omega))).2.2.2 S (h3 _ i1)
          rw [ga_v_ins i1 S, h2]
          omega
    obtain ⟨v', e1, e2, e3⟩ := val (fun (x4_48 : Int32) (μ49 : gx_M) => gx_ck (gx_ix ((gq_I 64 * gq_I m) + gq_I i) 2624 = true) (gx_lt (gx_uI μ49 226 ((gq_I 64 * gq_I m) + gq_I i).toNatClampNeg (f_X12_lesser x4_48 (gq_I 1000000))) (fun (μ51 : gx_M) => L_X12_findCosts_66 (gq_I m) k f (gq_I i + gq_I 1) μ51)))
    obtain ⟨t1, ht1⟩ : ∃ t1 : Nat → Nat → Int, t1 = fun m' y => if m' = m ∧ y = i then v' else t m' y := ⟨_, rfl⟩
    have t1n : ∀ m' y, ¬ (m' = m ∧ y = i) → t1 m' y = t m' y := fun m' y h => by rw [ht1]; exact if_neg h
    have t1i : t1 m i = v' := by rw [ht1]; exact if_pos ⟨rfl, rfl⟩
    have old : ∀ m' y, y < 64 → ¬ (m' = m ∧ y = i) → gd_at ν w φ c L t m' y → gd_at (gx_uI ν 226 (64 * m + i) (gq_I v')) w φ c L t1 m' y := fun m' y hy hn h => by
      unfold gd_at at h ⊢
      rw [t1n m' y hn, gq_uI1, if_neg (by omega)]
      exact h
    obtain ⟨ν', t', b1, b2, b3, b4⟩ := gd_rowL ok hs hT2 hL hcx hm (k := k) d f (i + 1) (gx_uI ν 226 (64 * m + i) (gq_I v')) t1 (by omega) (by omega) (gc_K_w hK fun a j h1 h2 => by rw [gq_uI1, if_neg fun c => h1 c.1]) (fun j hj => by rw [gq_uI1, if_neg (by omega)]; exact hR j hj) (fun m' y h1 h2 h3 => old m' y (by omega) (by omega) (ht m' y h1 h2 h3)) (fun y hy => by
      by_cases e : y = i
      · subst e
        refine ⟨?_, ?_, ?_⟩
        · rw [gq_uI1, if_pos ⟨rfl, rfl⟩, t1i]
        · rw [t1i]; exact e2
        · rw [t1i]; exact e3
      · exact old m y (by omega) (by omega) (hr y (by omega)))
    refine ⟨ν', t', ?_, b2, fun y j hy => by rw [b3 y j hy, gq_uI1, if_neg fun c => hy c.1], b4⟩
    rw [← b1, L_X12_findCosts_66.eq_2, hK.1.1.2.2.2, hT2, hK.1.1.2.1, hL]
    simp only [gq_lit]
    rw [ga_subI T (by omega)]
    refine (if_neg (by rw [gq_le (by omega)]; omega)).trans ?_
    have fin : L_X12_findCosts_116 (gq_I m) (gq_I i) (fun (x4_48 : Int32) (μ49 : gx_M) => gx_ck (gx_ix ((gq_I 64 * gq_I m) + gq_I i) 2624 = true) (gx_lt (gx_uI μ49 226 ((gq_I 64 * gq_I m) + gq_I i).toNatClampNeg (f_X12_lesser x4_48 (gq_I 1000000))) (fun (μ51 : gx_M) => L_X12_findCosts_66 (gq_I m) k f (gq_I i + gq_I 1) μ51))) 4000 (gq_I v0) (gq_I 0) ν = L_X12_findCosts_66 (gq_I m) k f (gq_I (i + 1 : Nat)) (gx_uI ν 226 (64 * m + i) (gq_I v')) := by
      rw [e1]
      simp (disch := omega) only [Int.reduceToNat, gq_lit, gq_neg, gq_add, gq_sub, gq_mul, gq_nat, Int.toNat_natCast, gq_tadd, gq_tmul, gq_lte, gq_br, gq_bd, gq_ck, gp_ls]
      rw [show (if 1000000 ≤ v' then 1000000 else v') = v' by split <;> omega]
      rfl
    by_cases g1 : i = 0
    · rw [if_pos g1] at hv0
      rw [hv0] at fin
      refine Eq.trans (if_pos (by rw [g1]; rfl)) ?_
      exact fin
    · rw [if_neg g1] at hv0
      refine Eq.trans (if_neg (by rw [gq_eq (by omega)]; omega)) ?_
      by_cases g2 : m = L
      · rw [if_pos g2] at hv0
        rw [hv0] at fin
        refine Eq.trans (if_pos (by rw [g2])) ?_
        exact fin
      · rw [if_neg g2] at hv0
        rw [hv0] at fin
        refine Eq.trans (if_neg (by rw [gq_eq (by omega)]; omega)) ?_
        have et := (ht (m + 1) i (by omega) (by omega) (by omega)).1
        have ex : (gq_I 64 * (gq_I m + gq_I 1)) + gq_I i = gq_I (64 * (m + 1) + i : Nat) := by rw [gq_add, gq_mul, gq_add]; rfl
        rw [ex, gq_ck (by omega), gq_nat (by omega), Int.toNat_natCast, et]
        exact fin
theorem gd_tabL {s L T : Nat} {w O B : Nat → Int} {g : Int} {φ : Nat → Nat → Bool} {c : Nat → Nat → Int} (ok : gq_okS w) (hs : s < 8) (hT2 : w 2 = T) (hL : w 0 = L) (hcx : gd_ctx w φ c) {k : gx_M → Option (Unit × gx_M)} : ∀ (d f : Nat) (ν : gx_M) (t : Nat → Nat → Int), d < f → d ≤ L + 1 → gc_K ν s w O B g → (∀ j, j < 40 * T → ν.1 227 j = gq_I (ga_R φ c (j / 40) (j % 40))) → (∀ m' y, d ≤ m' → m' ≤ L → y < 2 ^ T → gd_at ν w φ c L t m' y) → ∃ ν' t', L_X12_findCosts_60 k f (gq_I ((d : Int) - 1)) ν = k ν' ∧ (∀ m' y, m' ≤ L → y < 2 ^ T → gd_at ν' w φ c L t' m' y) ∧ (∀ y j, y ≠ 226 → ν'.1 y j = ν.1 y j) ∧ ν'.2 = ν.2
  | _, 0, _, _, hf, _, _, _, _ => absurd hf (Nat.not_lt_zero _)
  | 0, f + 1, ν, t, hf, hd, hK, hR, ht => by
    refine ⟨ν, t, ?_, fun m' y h2 h3 => ht m' y (by omega) h2 h3, fun _ _ _ => rfl, rfl⟩
    rw [L_X12_findCosts_60.eq_2]
    simp (disch := omega) only [gq_lit, Bool.false_eq_true, gq_leT, gq_leF, gq_ltT, gq_ltF, gq_eqT, gq_eqF, if_true, if_false]
  | d + 1, f + 1, ν, t, hf, hd, hK, hR, ht => by
    have o0 := ok.1
    have o2 := ok.2.2.1
    have em : ((d + 1 : Nat) : Int) - 1 = d := by omega
    rw [em]
    obtain ⟨ν1, t1, a1, a2, a3, a4⟩ := gd_rowL (m := d) ok hs hT2 hL hcx (by omega) (k := fun (μ53 : gx_M) => L_X12_findCosts_60 k f (gq_I d + gq_I (-1)) μ53) (2 ^ T) 4000 0 ν t (by have := ga_2T T (by omega); omega) (by omega) hK hR (fun m' y h1 h2 h3 => ht m' y (by omega) h2 h3) (fun y hy => absurd hy (Nat.not_lt_zero _))
    obtain ⟨ν', t', b1, b2, b3, b4⟩ := gd_tabL ok hs hT2 hL hcx (k := k) d f ν1 t1 (by omega) (by omega) (gc_K_w hK fun a j h1 h2 => a3 a j h1) (fun j hj => by rw [a3 227 j (by omega)]; exact hR j hj) a2
    refine ⟨ν', t', ?_, b2, fun y j hy => (b3 y j hy).trans (a3 y j hy), b4.trans a4⟩
    rw [← b1, L_X12_findCosts_60.eq_2]
    simp only [gq_lit, gq_neg]
    refine (if_neg (by rw [gq_lt (by omega)]; omega)).trans ?_
    refine a1.trans ?_
    rw [gq_add]
    rfl
theorem gd_ctx_of {w O B : Nat → Int} {p g : Int} {φ : Nat → Nat → Bool} (ok : gq_okS w) (hφ : gc_al w B g φ) : gd_ctx w φ (gk_c w O p) := fun b m h => by
  have o0 := ok.1
  obtain ⟨h1, h2, _⟩ := (hφ b m).mp h
  have lt := gk_lt ok h1 h2
  exact ⟨⟨h1, lt⟩, gk_c_b ok h1 (by omega)⟩
theorem gd_find {ν : gx_M} {s L T : Nat} {w O B : Nat → Int} {p g : Int} {φ : Nat → Nat → Bool} (ok : gq_okS w) (hs : s < 8) (hO : gc_okK O B g) (hφ : gc_al w B g φ) (hT2 : w 2 = T) (hL : w 0 = L) (hp : -1 ≤ p ∧ p ≤ 4) (hK : gc_K ν s w O B g) : ∃ ν' t, f_X12_findCosts (gq_I p) ν = some ((), ν') ∧ (∀ m y, m ≤ L → y < 2 ^ T → gd_at ν' w φ (gk_c w O p) L t m y) ∧ (∀ y j, y ≠ 226 → y ≠ 227 → ν'.1 y j = ν.1 y j) ∧ ν'.2 = ν.2 := by
  have o0 := ok.1
  have o2 := ok.2.2.1
  obtain ⟨ν1, a1, a2, a3, a4⟩ := gd_runsL ok hs hO hφ hT2 hL hp (k := fun (μ13 : gx_M) => gx_lt (μ13.1 206 25) (fun (x14 : Int32) => L_X12_findCosts_60 (fun (μ55 : gx_M) => some ((), μ55)) 4000 x14 μ13)) (40 * T) 4000 0 ν (by omega) (by omega) hK
  have hK1 : gc_K ν1 s w O B g := gc_K_w hK fun a j h1 h2 => a3 a j fun c => h2 c.1
  obtain ⟨ν', t', b1, b2, b3, b4⟩ := gd_tabL ok hs hT2 hL (gd_ctx_of ok hφ) (k := fun (μ55 : gx_M) => some ((), μ55)) (L + 1) 4000 ν1 (fun _ _ => 0) (by omega) (by omega) hK1 (fun j hj => a2 j (by omega) hj) (fun m' y h1 h2 => absurd h2 (by omega))
  refine ⟨ν', t', ?_, b2, fun y j h1 h2 => (b3 y j h1).trans (a3 y j fun c => h2 c.1), b4.trans a4⟩
  unfold f_X12_findCosts
  simp only [gq_lit]
  refine a1.trans ?_
  rw [gq_lte, hK1.1.1.2.1, hL, show (L : Int) = ((L + 1 : Nat) : Int) - 1 by omega]
  exact b1
theorem gd_costOf {ν : gx_M} {s L T x : Nat} {w O B : Nat → Int} {p g : Int} {φ : Nat → Nat → Bool} (ok : gq_okS w) (hs : s < 8) (hO : gc_okK O B g) (hφ : gc_al w B g φ) (hT2 : w 2 = T) (hL : w 0 = L) (hp : -1 ≤ p ∧ p ≤ 4) (hK : gc_K ν s w O B g) (hx : x < 2 ^ T) : ∃ ν' C, f_X12_costOf (gq_I p) (gq_I x) ν = some (gq_I C, ν') ∧ (0 ≤ C ∧ C ≤ 1000000) ∧ ga_min φ (ga_l w) (gk_c w O p) x 0 L 1000000 C ∧ (∀ y j, y ≠ 226 → y ≠ 227 → ν'.1 y j = ν.1 y j) ∧ ν'.2 = ν.2 := by
  have o2 := ok.2.2.1
  have p2 := ga_2T T (by omega)
  obtain ⟨ν', t, a1, a2, a3, a4⟩ := gd_find ok hs hO hφ hT2 hL hp hK
  obtain ⟨b1, b2, b3⟩ := a2 0 x (Nat.zero_le _) hx
  rw [show 64 * 0 + x = x by omega] at b1
  refine ⟨ν', t 0 x, ?_, b2, b3, a3, a4⟩
  unfold f_X12_costOf
  rw [a1, gq_bd, gq_ck (by omega), gq_nat (by omega), Int.toNat_natCast, b1]
