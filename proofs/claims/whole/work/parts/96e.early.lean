/-! early: the check's table of last minutes -/
def gz_al (w : Nat → Int) (y : Int64) (φ : Nat → Nat → Bool) : Prop := ∀ b m : Nat, φ b m = true ↔ (b : Int) < w 2 ∧ gk_in w y b m
theorem gz_al_ex (w : Nat → Int) (y : Int64) : ∃ φ, gz_al w y φ := ⟨fun b m => @decide _ (Classical.propDecidable ((b : Int) < w 2 ∧ gk_in w y b m)), fun b m => @decide_eq_true_iff _ (Classical.propDecidable _)⟩
theorem gz_ctx {w O : Nat → Int} {y : Int64} {p : Int} {φ : Nat → Nat → Bool} (ok : gq_okS w) (hφ : gz_al w y φ) : gd_ctx w φ (gk_c w O p) := fun b m h => by
  have o0 := ok.1
  obtain ⟨h1, h2⟩ := (hφ b m).mp h
  have lt := gk_lt ok h1 h2.1
  exact ⟨⟨h1, lt⟩, gk_c_b ok h1 (by omega)⟩
/-- one place of the table -/
def gz_at (ν : gx_M) (w : Nat → Int) (φ : Nat → Nat → Bool) (E : Nat → Nat → Int) (m x : Nat) : Prop := ν.1 226 (64 * m + x) = gq_I (E m x) ∧ (0 ≤ E m x ∧ E m x ≤ 1000000) ∧ ∀ k : Nat, k < 1000000 → (E m x ≤ k ↔ ∃ S, ga_arr φ (ga_l w) x m (k + 1) S)
theorem gq_lay_w {ν ν' : gx_M} {s : Nat} {w : Nat → Int} (h : gq_lay ν s w) (e : ∀ a j, a ≠ 226 → ν'.1 a j = ν.1 a j) : gq_lay ν' s w := by
  obtain ⟨⟨h1, h2, h3, h4⟩, h5⟩ := h
  refine ⟨⟨?_, ?_, ?_, ?_⟩, gq_mS_w h5 ?_⟩
  · rw [e _ _ (by omega)]; exact h1
  · rw [e _ _ (by omega)]; exact h2
  · rw [e _ _ (by omega)]; exact h3
  · rw [e _ _ (by omega)]; exact h4
  · funext j; exact e _ _ (by omega)
theorem gz_inL {ν : gx_M} {s L T m x : Nat} {w : Nat → Int} {y : Int64} {φ : Nat → Nat → Bool} {E : Nat → Nat → Int} (ok : gq_okS w) (hs : s < 8) (hl : gq_lay ν s w) (hT2 : w 2 = T) (hL : w 0 = L) (hφ : gz_al w y φ) (hm : m < L) (hx : x < 2 ^ T) (ht : ∀ m' z, m < m' → m' ≤ L → z < 2 ^ T → gz_at ν w φ E m' z) {k : Int32 → gx_M → Option (Int32 × gx_M)} : ∀ (d f i : Nat) (v : Int), d < f → i + d = T → (0 ≤ v ∧ v ≤ 1000000) → ∃ v', L_X12_early_107 (gq_I m) (gq_I x) y k f (gq_I v) (gq_I i) ν = k (gq_I v') ν ∧ (0 ≤ v' ∧ v' ≤ v) ∧ ∀ j : Int, v' ≤ j ↔ v ≤ j ∨ ∃ b, i ≤ b ∧ b < T ∧ ga_h x b = true ∧ φ b m = true ∧ (m : Int) + ga_l w b - 1 ≤ j ∧ E (m + ga_l w b) (x - 2 ^ b) ≤ j
  | _, 0, _, _, hf, _, _ => absurd hf (Nat.not_lt_zero _)
  | 0, f + 1, i, v, hf, hi, hv => by
    have o2 := ok.2.2.1
    refine ⟨v, ?_, ⟨hv.1, Int.le_refl _⟩, fun j => ⟨Or.inl, fun h => h.elim (fun h => h) fun ⟨b, h1, h2, _⟩ => absurd h2 (by omega)⟩⟩
    rw [L_X12_early_107.eq_2, hl.1.2.2.2, hT2]
    simp (disch := omega) only [Int.reduceToNat, gq_lit, gq_neg, gq_add, gq_sub, gq_mul, gq_nat, Int.toNat_natCast, gq_tadd, gq_tmul, gq_lte, gq_br, gq_bd, gq_ck, Bool.false_eq_true, gq_leT, gq_leF, gq_ltT, gq_ltF, gq_eqT, gq_eqF, if_true, if_false]
  | d + 1, f + 1, i, v, hf, hi, hv => by
    have o0 := ok.1
    have o2 := ok.2.2.1
    have p2 := ga_2T T (by omega)
    have hb : (i : Int) < w 2 := by omega
    obtain ⟨l1, ⟨f1, f2, f3⟩, _⟩ := ok.2.2.2.2.1 i hb
    have eh := ga_hasX (x := x) (b := i) (by omega) (by omega)
    have em := gq_mayR ok hs hl hb (m := m) (by omega)
    have er := gq_runB ok hs hl hb (m := m) (by omega)
    have skip : (¬ (ga_h x i = true ∧ φ i m = true)) → L_X12_early_107 (gq_I m) (gq_I x) y k (f + 1) (gq_I v) (gq_I i) ν = L_X12_early_107 (gq_I m) (gq_I x) y k f (gq_I v) (gq_I (i + 1 : Nat)) ν → ∃ v', L_X12_early_107 (gq_I m) (gq_I x) y k (f + 1) (gq_I v) (gq_I i) ν = k (gq_I v') ν ∧ (0 ≤ v' ∧ v' ≤ v) ∧ ∀ j : Int, v' ≤ j ↔ v ≤ j ∨ ∃ b, i ≤ b ∧ b < T ∧ ga_h x b = true ∧ φ b m = true ∧ (m : Int) + ga_l w b - 1 ≤ j ∧ E (m + ga_l w b) (x - 2 ^ b) ≤ j := fun hn he => by
      obtain ⟨v', e1, e2, e3⟩ := gz_inL ok hs hl hT2 hL hφ hm hx ht (k := k) d f (i + 1) v (by omega) (by omega) hv
      refine ⟨v', he.trans e1, e2, fun j => (e3 j).trans ⟨fun h => h.elim Or.inl fun ⟨b, h1, h2, h3⟩ => Or.inr ⟨b, by omega, h2, h3⟩, fun h => h.elim Or.inl fun ⟨b, h1, h2, h3, h4, h5⟩ => Or.inr ⟨b, ?_, h2, h3, h4, h5⟩⟩⟩
      by_cases e : b = i
      · subst e
        exact absurd ⟨h3, h4⟩ hn
      · omega
    by_cases g1 : ga_h x i = true
    · rw [g1] at eh
      by_cases g2 : gk_run w i m
      · rw [decide_eq_true g2] at em
        have lt := gk_lt ok hb g2
        have lb : 1 ≤ ga_l w i ∧ ga_l w i ≤ 9 ∧ m + ga_l w i ≤ L := by unfold ga_l; omega
        obtain ⟨n, hn⟩ : ∃ n : Nat, w (7 + i) = n := ⟨(w (7 + i)).toNat, by omega⟩
        have nl : n = ga_l w i := by unfold ga_l; omega
        have e := gm_in (x := y) (n := n) (i := m) (by omega) (by omega) (by omega)
        by_cases g3 : ∀ j : Nat, m ≤ j → (j : Int) < m + w (7 + i) → gm_b y j = true
        · have hy : φ i m = true := (hφ i m).mpr ⟨hb, g2, g3⟩
          have e2 := e.2 fun j a b => g3 j (by omega) (by omega)
          obtain ⟨i1, i2⟩ := ga_rm_ins x (by omega) i (by omega) g1
          have xlt : x - 2 ^ i < 2 ^ T := Nat.lt_of_le_of_lt (Nat.sub_le _ _) hx
          obtain ⟨t1, t2, t3⟩ := ht (m + ga_l w i) (x - 2 ^ i) (by omega) (by omega) xlt
          have erm := ga_rmI x (by omega) i (by omega) g1
          obtain ⟨u, hu⟩ : ∃ u, u = if (m : Int) + ga_l w i - 1 ≤ E (m + ga_l w i) (x - 2 ^ i) then E (m + ga_l w i) (x - 2 ^ i) else (m : Int) + ga_l w i - 1 := ⟨_, rfl⟩
          have ub : 0 ≤ u ∧ u ≤ 1000000 := by rw [hu]; split <;> omega
          obtain ⟨v1, hv1⟩ : ∃ v1, v1 = if u ≤ v then u else v := ⟨_, rfl⟩
          obtain ⟨v', e3, e4, e5⟩ := gz_inL ok hs hl hT2 hL hφ hm hx ht (k := k) d f (i + 1) v1 (by omega) (by omega) (by rw [hv1]; split <;> omega)
          have uj : ∀ j : Int, u ≤ j ↔ (m : Int) + ga_l w i - 1 ≤ j ∧ E (m + ga_l w i) (x - 2 ^ i) ≤ j := fun j => by
            rw [hu]
            split <;> omega
          refine ⟨v', ?_, ⟨e4.1, by have := e4.2; rw [hv1] at this; split at this <;> omega⟩, fun j => (e5 j).trans ⟨fun h => ?_, fun h => ?_⟩⟩
          · rw [← e3, L_X12_early_107.eq_2, hl.1.2.2.2, hT2, hl.1.2.1, hL, hv1, hu]
            simp (disch := omega) only [Int.reduceToNat, gq_lit, gq_neg, gq_add, gq_sub, gq_mul, gq_nat, Int.toNat_natCast, gq_tadd, gq_tmul, gq_lte, gq_br, gq_bd, gq_ck, Bool.false_eq_true, gq_leT, gq_leF, gq_ltT, gq_ltF, gq_eqT, gq_eqF, if_true, if_false, eh, em, er, hn, gq_Llit, gq_Lneg, gc_len ok hs hl hb, erm, t1, gp_ls, gp_gr, gq_sub]
            rw [if_pos e2]
            rw [← hu]
            rfl
          · rcases h with h | ⟨b, h1, h2, h3⟩
            · by_cases g4 : u ≤ v
              · rw [hv1, if_pos g4] at h
                exact Or.inr ⟨i, Nat.le_refl _, by omega, g1, hy, (uj j).mp h⟩
              · rw [hv1, if_neg g4] at h
                exact Or.inl h
            · exact Or.inr ⟨b, by omega, h2, h3⟩
          · rcases h with h | ⟨b, h1, h2, h3, h4, h5⟩
            · left
              rw [hv1]
              split <;> omega
            · by_cases g5 : b = i
              · left
                rw [g5] at h5
                have := (uj j).mpr h5
                rw [hv1]
                split <;> omega
              · exact Or.inr ⟨b, by omega, h2, h3, h4, h5⟩
        · refine skip (fun c => g3 ((hφ i m).mp c.2).2.2) ?_
          have e2 := fun c => g3 fun j a b => (e.1 c) j (by omega) (by omega)
          rw [L_X12_early_107.eq_2, hl.1.2.2.2, hT2, hl.1.2.1, hL]
          simp (disch := omega) only [Int.reduceToNat, gq_lit, gq_neg, gq_add, gq_sub, gq_mul, gq_nat, Int.toNat_natCast, gq_tadd, gq_tmul, gq_lte, gq_br, gq_bd, gq_ck, Bool.false_eq_true, gq_leT, gq_leF, gq_ltT, gq_ltF, gq_eqT, gq_eqF, if_true, if_false, eh, em, er, hn, gq_Llit, gq_Lneg]
          rw [if_neg e2]
          rfl
      · refine skip (fun c => g2 ((hφ i m).mp c.2).2.1) ?_
        rw [decide_eq_false g2] at em
        rw [L_X12_early_107.eq_2, hl.1.2.2.2, hT2, hl.1.2.1, hL]
        simp (disch := omega) only [Int.reduceToNat, gq_lit, gq_neg, gq_add, gq_sub, gq_mul, gq_nat, Int.toNat_natCast, gq_tadd, gq_tmul, gq_lte, gq_br, gq_bd, gq_ck, Bool.false_eq_true, gq_leT, gq_leF, gq_ltT, gq_ltF, gq_eqT, gq_eqF, if_true, if_false, eh, em]
        rfl
    · refine skip (fun c => g1 c.1) ?_
      have g1' : ga_h x i = false := by
        cases h : ga_h x i
        · rfl
        · exact absurd h g1
      rw [g1'] at eh
      rw [L_X12_early_107.eq_2, hl.1.2.2.2, hT2, hl.1.2.1, hL]
      simp (disch := omega) only [Int.reduceToNat, gq_lit, gq_neg, gq_add, gq_sub, gq_mul, gq_nat, Int.toNat_natCast, gq_tadd, gq_tmul, gq_lte, gq_br, gq_bd, gq_ck, Bool.false_eq_true, gq_leT, gq_leF, gq_ltT, gq_ltF, gq_eqT, gq_eqF, if_true, if_false, eh]
      rfl
theorem gz_hi {w : Nat → Int} {y : Int64} {φ : Nat → Nat → Bool} {x m hi L : Nat} {S : Nat → Nat} (ok : gq_okS w) (hL : w 0 = L) (hφ : gz_al w y φ) (h : ga_arr φ (ga_l w) x m hi S) : ga_arr φ (ga_l w) x m L S := by
  refine ⟨fun b hb hx => ?_, h.2⟩
  obtain ⟨a1, a2, a3⟩ := h.1 b hb hx
  obtain ⟨c1, c2⟩ := (hφ b (S b)).mp a1
  have := gk_lt ok c1 c2.1
  have := (ok.2.2.2.2.1 b c1).1
  exact ⟨a1, a2, by unfold ga_l; omega⟩
theorem gz_rowL {s L T m : Nat} {w : Nat → Int} {y : Int64} {φ : Nat → Nat → Bool} (ok : gq_okS w) (hs : s < 8) (hT2 : w 2 = T) (hL : w 0 = L) (hφ : gz_al w y φ) (hm : m ≤ L) {k : gx_M → Option (Int32 × gx_M)} : ∀ (d f i : Nat) (ν : gx_M) (E : Nat → Nat → Int), d < f → i + d = 2 ^ T → gq_lay ν s w → (∀ m' z, m < m' → m' ≤ L → z < 2 ^ T → gz_at ν w φ E m' z) → (∀ z, z < i → gz_at ν w φ E m z) → ∃ ν' E', L_X12_early_52 (gq_I m) y k f (gq_I i) ν = k ν' ∧ (∀ m' z, m ≤ m' → m' ≤ L → z < 2 ^ T → gz_at ν' w φ E' m' z) ∧ (∀ y j, y ≠ 226 → ν'.1 y j = ν.1 y j) ∧ ν'.2 = ν.2
  | _, 0, _, _, _, hf, _, _, _, _ => absurd hf (Nat.not_lt_zero _)
  | 0, f + 1, i, ν, E, hf, hi, hl, ht, hr => by
    have o2 := ok.2.2.1
    have p2 := ga_2T T (by omega)
    refine ⟨ν, E, ?_, fun m' z h1 h2 h3 => ?_, fun _ _ _ => rfl, rfl⟩
    · rw [L_X12_early_52.eq_2, hl.1.2.2.2, hT2]
      simp only [gq_lit]
      rw [ga_subI T (by omega)]
      exact if_pos (by rw [gq_le (by omega)]; omega)
    · by_cases e : m' = m
      · subst e; exact hr z (by omega)
      · exact ht m' z (by omega) h2 h3
  | d + 1, f + 1, i, ν, E, hf, hi, hl, ht, hr => by
    have o0 := ok.1
    have o2 := ok.2.2.1
    have p2 := ga_2T T (by omega)
    have hll := gd_hl (x := i) ok hT2 (by omega)
    obtain ⟨v0, hv0⟩ : ∃ v0, v0 = if i = 0 then 0 else if m = L then 1000000 else E (m + 1) i := ⟨_, rfl⟩
    have v0b : 0 ≤ v0 ∧ v0 ≤ 1000000 := by
      rw [hv0]
      by_cases g1 : i = 0
      · rw [if_pos g1]; omega
      · rw [if_neg g1]
        by_cases g2 : m = L
        · rw [if_pos g2]; omega
        · rw [if_neg g2]
          exact (ht (m + 1) i (by omega) (by omega) (by omega)).2.1
    have val : ∀ k : Int32 → gx_M → Option (Int32 × gx_M), ∃ v', L_X12_early_107 (gq_I m) (gq_I i) y k 4000 (gq_I v0) (gq_I 0) ν = k (gq_I v') ν ∧ (0 ≤ v' ∧ v' ≤ 1000000) ∧ ∀ j : Nat, j < 1000000 → (v' ≤ j ↔ ∃ S, ga_arr φ (ga_l w) i m (j + 1) S) := fun k => by
      by_cases g2 : m = L
      · refine ⟨v0, ?_, v0b, fun j hj => ?_⟩
        · rw [L_X12_early_107.eq_2, hl.1.2.2.2, hT2, hl.1.2.1, hL, g2]
          by_cases g3 : T = 0
          · exact if_pos (by rw [gq_le (by omega)]; omega)
          · refine (if_neg (by rw [gq_le (by omega)]; omega)).trans ?_
            exact if_pos (by rw [gq_le (by omega)]; omega)
        · by_cases g1 : i = 0
          · rw [hv0, if_pos g1, g1]
            exact ⟨fun _ => ⟨fun _ => 0, ga_arr_0⟩, fun _ => by omega⟩
          · rw [hv0, if_neg g1, if_pos g2]
            refine ⟨fun h => absurd h (by omega), fun ⟨S, h⟩ => ?_⟩
            obtain ⟨b, hb, h1⟩ := ga_some (by omega) g1
            have := (gz_hi ok hL hφ h).1 b hb h1
            have := hll b hb h1
            omega
      · obtain ⟨v', e1, e2, e3⟩ := gz_inL ok hs hl hT2 hL hφ (m := m) (x := i) (by omega) (by omega) ht (k := k) T 4000 0 v0 (by omega) (by omega) v0b
        refine ⟨v', e1, ⟨e2.1, by omega⟩, fun j hj => (e3 j).trans ⟨fun h => ?_, fun ⟨S, h⟩ => ?_⟩⟩
        · rcases h with h | ⟨b, h1, h2, h3, h4, h5, h6⟩
          · by_cases g1 : i = 0
            · rw [g1]
              exact ⟨fun _ => 0, ga_arr_0⟩
            · rw [hv0, if_neg g1, if_neg g2] at h
              obtain ⟨S, s1⟩ := ((ht (m + 1) i (by omega) (by omega) (by omega)).2.2 j hj).mp h
              exact ⟨S, ga_mono s1 (by omega) (Nat.le_refl _)⟩
          · obtain ⟨i1, i2⟩ := ga_rm_ins i (by omega) b (by omega) h3
            obtain ⟨c1, c2⟩ := (hφ b m).mp h4
            have lt := gk_lt ok c1 c2.1
            have l1 := (ok.2.2.2.2.1 b c1).1
            have lL : m + ga_l w b ≤ L ∧ 1 ≤ ga_l w b := by unfold ga_l; omega
            obtain ⟨S, s1⟩ := ((ht (m + ga_l w b) (i - 2 ^ b) (by omega) lL.1 (Nat.lt_of_le_of_lt (Nat.sub_le _ _) (by omega))).2.2 j hj).mp h6
            exact ⟨ga_up S b m, ga_pre i1 h4 (by omega) s1⟩
        · rcases ga_first hll h with h1 | ⟨b, hb, h1, h2, h3⟩
          · left
            by_cases g1 : i = 0
            · rw [hv0, if_pos g1]; omega
            · rw [hv0, if_neg g1, if_neg g2]
              exact ((ht (m + 1) i (by omega) (by omega) (by omega)).2.2 j hj).mpr ⟨S, h1⟩
          · obtain ⟨i1, i2⟩ := ga_rm_ins i (by omega) b (by omega) h1
            have hbT := ga_h_lt T (by omega) i (by omega) b hb h1
            have a := h.1 b hb h1
            rw [h2] at a
            have l1 := hll b hb h1
            have aL := (gz_hi ok hL hφ h).1 b hb h1
            rw [h2] at aL
            refine Or.inr ⟨b, Nat.zero_le _, hbT, h1, a.1, by omega, ?_⟩
            exact ((ht (m + ga_l w b) (i - 2 ^ b) (by omega) aL.2.2 (Nat.lt_of_le_of_lt (Nat.sub_le _ _) (by omega))).2.2 j hj).mpr ⟨S, h3 _ i1⟩
    obtain ⟨v', e1, e2, e3⟩ := val (fun (x8_44 : Int32) (μ45 : gx_M) => gx_ck (gx_ix ((gq_I 64 * gq_I m) + gq_I i) 2624 = true) (gx_lt (gx_uI μ45 226 ((gq_I 64 * gq_I m) + gq_I i).toNatClampNeg x8_44) (fun (μ47 : gx_M) => L_X12_early_52 (gq_I m) y k f (gq_I i + gq_I 1) μ47)))
    obtain ⟨E1, hE1⟩ : ∃ E1 : Nat → Nat → Int, E1 = fun m' z => if m' = m ∧ z = i then v' else E m' z := ⟨_, rfl⟩
    have E1n : ∀ m' z, ¬ (m' = m ∧ z = i) → E1 m' z = E m' z := fun m' z h => by rw [hE1]; exact if_neg h
    have E1i : E1 m i = v' := by rw [hE1]; exact if_pos ⟨rfl, rfl⟩
    have old : ∀ m' z, z < 64 → ¬ (m' = m ∧ z = i) → gz_at ν w φ E m' z → gz_at (gx_uI ν 226 (64 * m + i) (gq_I v')) w φ E1 m' z := fun m' z hz hn h => by
      unfold gz_at at h ⊢
      rw [E1n m' z hn, gq_uI1, if_neg (by omega)]
      exact h
    obtain ⟨ν', E', b1, b2, b3, b4⟩ := gz_rowL ok hs hT2 hL hφ hm (k := k) d f (i + 1) (gx_uI ν 226 (64 * m + i) (gq_I v')) E1 (by omega) (by omega) (gq_lay_w hl fun a j h1 => by rw [gq_uI1, if_neg fun c => h1 c.1]) (fun m' z h1 h2 h3 => old m' z (by omega) (by omega) (ht m' z h1 h2 h3)) (fun z hz => by
      by_cases e : z = i
      · subst e
        refine ⟨?_, ?_, ?_⟩
        · rw [gq_uI1, if_pos ⟨rfl, rfl⟩, E1i]
        · rw [E1i]; exact e2
        · rw [E1i]; exact e3
      · exact old m z (by omega) (by omega) (hr z (by omega)))
    refine ⟨ν', E', ?_, b2, fun y j hy => by rw [b3 y j hy, gq_uI1, if_neg fun c => hy c.1], b4⟩
    rw [← b1, L_X12_early_52.eq_2, hl.1.2.2.2, hT2, hl.1.2.1, hL]
    simp only [gq_lit]
    rw [ga_subI T (by omega)]
    refine (if_neg (by rw [gq_le (by omega)]; omega)).trans ?_
    have fin : L_X12_early_107 (gq_I m) (gq_I i) y (fun (x8_44 : Int32) (μ45 : gx_M) => gx_ck (gx_ix ((gq_I 64 * gq_I m) + gq_I i) 2624 = true) (gx_lt (gx_uI μ45 226 ((gq_I 64 * gq_I m) + gq_I i).toNatClampNeg x8_44) (fun (μ47 : gx_M) => L_X12_early_52 (gq_I m) y k f (gq_I i + gq_I 1) μ47))) 4000 (gq_I v0) (gq_I 0) ν = L_X12_early_52 (gq_I m) y k f (gq_I (i + 1 : Nat)) (gx_uI ν 226 (64 * m + i) (gq_I v')) := by
      rw [e1]
      simp (disch := omega) only [Int.reduceToNat, gq_lit, gq_neg, gq_add, gq_sub, gq_mul, gq_nat, Int.toNat_natCast, gq_tadd, gq_tmul, gq_lte, gq_br, gq_bd, gq_ck]
      rfl
    by_cases g1 : i = 0
    · rw [if_pos g1] at hv0
      rw [hv0] at fin
      refine Eq.trans (if_pos (by rw [g1]; rfl)) ?_
      exact fin
    · rw [if_neg g1] at hv0
      refine Eq.trans (if_neg (by rw [gq_eq (by omega)]; omega)) ?_
      by_cases g2 : m = L
      · rw [if_pos g2] at hv0
        rw [hv0] at fin
        refine Eq.trans (if_pos (by rw [g2])) ?_
        exact fin
      · rw [if_neg g2] at hv0
        rw [hv0] at fin
        refine Eq.trans (if_neg (by rw [gq_eq (by omega)]; omega)) ?_
        have et := (ht (m + 1) i (by omega) (by omega) (by omega)).1
        have ex : (gq_I 64 * (gq_I m + gq_I 1)) + gq_I i = gq_I (64 * (m + 1) + i : Nat) := by rw [gq_add, gq_mul, gq_add]; rfl
        rw [ex, gq_ck (by omega), gq_nat (by omega), Int.toNat_natCast, et]
        exact fin
theorem gz_tabL {s L T : Nat} {w : Nat → Int} {y : Int64} {φ : Nat → Nat → Bool} (ok : gq_okS w) (hs : s < 8) (hT2 : w 2 = T) (hL : w 0 = L) (hφ : gz_al w y φ) {k : gx_M → Option (Int32 × gx_M)} : ∀ (d f : Nat) (ν : gx_M) (E : Nat → Nat → Int), d < f → d ≤ L + 1 → gq_lay ν s w → (∀ m' z, d ≤ m' → m' ≤ L → z < 2 ^ T → gz_at ν w φ E m' z) → ∃ ν' E', L_X12_early_44 y k f (gq_I ((d : Int) - 1)) ν = k ν' ∧ (∀ m' z, m' ≤ L → z < 2 ^ T → gz_at ν' w φ E' m' z) ∧ (∀ y j, y ≠ 226 → ν'.1 y j = ν.1 y j) ∧ ν'.2 = ν.2
  | _, 0, _, _, hf, _, _, _ => absurd hf (Nat.not_lt_zero _)
  | 0, f + 1, ν, E, hf, hd, hl, ht => by
    refine ⟨ν, E, ?_, fun m' z h2 h3 => ht m' z (by omega) h2 h3, fun _ _ _ => rfl, rfl⟩
    rw [L_X12_early_44.eq_2]
    simp (disch := omega) only [gq_lit, Bool.false_eq_true, gq_leT, gq_leF, gq_ltT, gq_ltF, gq_eqT, gq_eqF, if_true, if_false]
  | d + 1, f + 1, ν, E, hf, hd, hl, ht => by
    have o0 := ok.1
    have o2 := ok.2.2.1
    have em : ((d + 1 : Nat) : Int) - 1 = d := by omega
    rw [em]
    obtain ⟨ν1, E1, a1, a2, a3, a4⟩ := gz_rowL (m := d) ok hs hT2 hL hφ (by omega) (k := fun (μ49 : gx_M) => L_X12_early_44 y k f (gq_I d + gq_I (-1)) μ49) (2 ^ T) 4000 0 ν E (by have := ga_2T T (by omega); omega) (by omega) hl (fun m' z h1 h2 h3 => ht m' z (by omega) h2 h3) (fun z hz => absurd hz (Nat.not_lt_zero _))
    obtain ⟨ν', E', b1, b2, b3, b4⟩ := gz_tabL ok hs hT2 hL hφ (k := k) d f ν1 E1 (by omega) (by omega) (gq_lay_w hl fun a j h1 => a3 a j h1) a2
    refine ⟨ν', E', ?_, b2, fun y j hy => (b3 y j hy).trans (a3 y j hy), b4.trans a4⟩
    rw [← b1, L_X12_early_44.eq_2]
    simp only [gq_lit, gq_neg]
    refine (if_neg (by rw [gq_lt (by omega)]; omega)).trans ?_
    refine a1.trans ?_
    rw [gq_add]
    rfl
