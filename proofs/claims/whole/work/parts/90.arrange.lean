/-! the class's table of least sums -/
abbrev ga_l (w : Nat → Int) (b : Nat) : Nat := (w (7 + b)).toNat
def gc_tab (μ : gx_M) (a : Nat) (t : Nat → Int) : Prop := ∀ j, j < 2624 → μ.2 a j = gq_L (t j)
def gc_lo (t : Nat → Int) (i : Nat) (v : Int) : Nat → Int := fun j => if j = i ∧ v < t i then v else t j
theorem gc_lo_le (t : Nat → Int) (i : Nat) (v : Int) (j : Nat) : gc_lo t i v j ≤ t j := by
  unfold gc_lo
  by_cases g : j = i ∧ v < t i
  · rw [if_pos g, g.1]; omega
  · rw [if_neg g]; omega
theorem gc_lo_i (t : Nat → Int) (i : Nat) (v : Int) : gc_lo t i v i ≤ v := by
  unfold gc_lo
  by_cases g : v < t i
  · rw [if_pos ⟨rfl, g⟩]; omega
  · rw [if_neg fun c => g c.2]; omega
theorem gc_lo_n {t : Nat → Int} {i : Nat} {v : Int} {j : Nat} (h : j ≠ i) : gc_lo t i v j = t j := if_neg fun c => h c.1
theorem gc_lo_or (t : Nat → Int) (i : Nat) (v : Int) (j : Nat) : gc_lo t i v j = t j ∨ (j = i ∧ v < t i ∧ gc_lo t i v j = v) := by
  unfold gc_lo
  by_cases g : j = i ∧ v < t i
  · rw [if_pos g]; exact Or.inr ⟨g.1, g.2, rfl⟩
  · rw [if_neg g]; exact Or.inl rfl
theorem gc_lower {μ : gx_M} {a i : Nat} {t : Nat → Int} {v : Int} (hi : i < 2624) (ht : gc_tab μ a t) (h1 : 0 ≤ t i ∧ t i ≤ 1152921504606846976) (hv : 0 ≤ v ∧ v < 4611686018427387904) : ∃ μ', f_X0_lower a 2624 (gq_I i) (gq_L v) μ = some ((), μ') ∧ gc_tab μ' a (gc_lo t i v) ∧ (∀ y, y ≠ a → μ'.2 y = μ.2 y) ∧ μ'.1 = μ.1 := by
  have e := ht i hi
  by_cases g : v < t i
  · refine ⟨gx_uL μ a i (gq_L v), ?_, fun j hj => ?_, fun y hy => funext fun j => ?_, rfl⟩
    · unfold f_X0_lower
      simp (disch := omega) only [Int.reduceToNat, gq_lit, gq_neg, gq_add, gq_sub, gq_mul, gq_nat, Int.toNat_natCast, gq_tadd, gq_tmul, gq_lte, gq_br, gq_bd, gq_ck, gq_oN, Bool.false_eq_true, gq_leT, gq_leF, gq_ltT, gq_ltF, gq_eqT, gq_eqF, if_true, if_false, e]
      rw [if_neg (by rw [gq_Lle (by omega)]; omega)]
    · rw [gq_uL2]
      by_cases g2 : j = i
      · rw [if_pos ⟨rfl, g2⟩]
        unfold gc_lo
        rw [if_pos ⟨g2, g⟩]
      · rw [if_neg fun c => g2 c.2, gc_lo_n g2]
        exact ht j hj
    · rw [gq_uL2, if_neg fun c => hy c.1]
  · refine ⟨μ, ?_, fun j hj => ?_, fun _ _ => rfl, rfl⟩
    · unfold f_X0_lower
      simp (disch := omega) only [Int.reduceToNat, gq_lit, gq_neg, gq_add, gq_sub, gq_mul, gq_nat, Int.toNat_natCast, gq_tadd, gq_tmul, gq_lte, gq_br, gq_bd, gq_ck, gq_oN, Bool.false_eq_true, gq_leT, gq_leF, gq_ltT, gq_ltF, gq_eqT, gq_eqF, if_true, if_false, e]
      rw [if_pos (by rw [gq_Lle (by omega)]; omega)]
    · rw [ht j hj]
      unfold gc_lo
      rw [if_neg fun c => g c.2]
/-- which runs are allowed, what they weigh -/
def gc_ctx (w : Nat → Int) (φ : Nat → Nat → Bool) (W : Nat → Nat → Int) : Prop := (∀ b m, φ b m = true → ((b : Int) < w 2 ∧ (m : Int) + w (7 + b) ≤ w 0) ∧ 0 ≤ W b m ∧ W b m ≤ 8796093022208) ∧ ∀ b m : Nat, φ b m = false → W b m = 1152921504606846976
/-- the table speaks of arrangements alone -/
def gc_T (w : Nat → Int) (φ : Nat → Nat → Bool) (W : Nat → Nat → Int) (x : Nat) (t : Nat → Int) : Prop := (∀ j, j < 2624 → 0 ≤ t j ∧ t j ≤ 1152921504606846976) ∧ ∀ m d, m ≤ 40 → d < 64 → t (m * 64 + d) < 1152921504606846976 → ∃ S, ga_arr φ (ga_l w) d 0 m S ∧ ga_v W d S = t (m * 64 + d)
/-- and goes on from minute m and the set d, by business from i on -/
def gc_C (w : Nat → Int) (φ : Nat → Nat → Bool) (W : Nat → Nat → Int) (x : Nat) (t : Nat → Int) (m d : Nat) : Prop := t (m * 64 + d) < 1152921504606846976 → t ((m + 1) * 64 + d) ≤ t (m * 64 + d) ∧ ∀ b, ga_h x b = true → ga_h d b = false → φ b m = true → t ((m + ga_l w b) * 64 + (d + 2 ^ b)) ≤ t (m * 64 + d) + W b m
theorem gc_C_w {w : Nat → Int} {φ : Nat → Nat → Bool} {W : Nat → Nat → Int} {x : Nat} {t u : Nat → Int} {m d : Nat} (h : gc_C w φ W x t m d) (h1 : ∀ j, u j ≤ t j) (h2 : u (m * 64 + d) = t (m * 64 + d)) : gc_C w φ W x u m d := by
  intro c
  rw [h2] at c ⊢
  obtain ⟨a1, a2⟩ := h c
  refine ⟨Int.le_trans (h1 _) a1, fun b b1 b2 b3 => Int.le_trans (h1 _) (a2 b b1 b2 b3)⟩
theorem gc_T_lo {w : Nat → Int} {φ : Nat → Nat → Bool} {W : Nat → Nat → Int} {x : Nat} {t : Nat → Int} {m d : Nat} {v : Int} (h : gc_T w φ W x t) (hm : m ≤ 40) (hd : d < 64) (hv : 0 ≤ v) (hS : ∃ S, ga_arr φ (ga_l w) d 0 m S ∧ ga_v W d S = v) : gc_T w φ W x (gc_lo t (m * 64 + d) v) := by
  refine ⟨fun j hj => ?_, fun m2 d2 h1 h2 h3 => ?_⟩
  · have a := h.1 j hj
    have b := gc_lo_le t (m * 64 + d) v j
    rcases gc_lo_or t (m * 64 + d) v j with c | ⟨c1, c2, c3⟩
    · rw [c]; exact a
    · rw [c3] at b ⊢
      omega
  · rcases gc_lo_or t (m * 64 + d) v (m2 * 64 + d2) with c | ⟨c1, c2, c3⟩
    · rw [c] at h3 ⊢
      exact h.2 m2 d2 h1 h2 h3
    · rw [c3]
      have e1 : m2 = m := by omega
      have e2 : d2 = d := by omega
      rw [e1, e2]
      exact hS
theorem gc_behind {μ : gx_M} {a b d m : Nat} {w : Nat → Int} (ok : gq_okS w) (hc : gq_cS μ a w) (hb : (b : Int) < w 2) (hd : d < 64) (h : ga_h d b = false) : f_X0_behind a (gq_I m) (gq_I d) (gq_I b) μ = some (gq_I ((m + ga_l w b) * 64 + (d + 2 ^ b) : Nat)) := by
  have o2 := ok.2.2.1
  obtain ⟨l1, ⟨f1, f2, f3⟩, _⟩ := ok.2.2.2.2.1 b hb
  obtain ⟨h1, h2, h3, _⟩ := hc.2.2.2.2 b hb
  have e := ga_orI d hd b (by omega) h
  have e2 : w (7 + b) = (ga_l w b : Int) := by unfold ga_l; omega
  unfold f_X0_behind
  simp (disch := omega) only [Int.reduceToNat, gq_lit, gq_neg, gq_add, gq_sub, gq_mul, gq_nat, Int.toNat_natCast, gq_tadd, gq_tmul, gq_lte, gq_br, gq_bd, gq_ck, h1]
  rw [e, gq_add, e2]
  rfl
theorem gc_goL {a m d x : Nat} {w : Nat → Int} {φ : Nat → Nat → Bool} {W : Nat → Nat → Int} {s : Int} (ok : gq_okS w) (hW : gc_ctx w φ W) (hm : (m : Int) < w 0) (hd : d < 64) (hx : x < 64) (hs : 0 ≤ s ∧ s < 1152921504606846976) {k : gx_M → Option (Unit × gx_M)} : ∀ (n f i : Nat) (μ : gx_M) (t : Nat → Int), n < f → (i : Int) + n = w 2 → gq_cS μ a w → gc_Wt μ w W → gc_tab μ 77 t → gc_T w φ W x t → t (m * 64 + d) = s → ∃ μ' t', L_X0_goOn_20 a (gq_I m) (gq_I x) (gq_I d) (gq_L s) k f (gq_I i) μ = k μ' ∧ gc_tab μ' 77 t' ∧ gc_T w φ W x t' ∧ (∀ j, t' j ≤ t j) ∧ (∀ j, j < (m + 1) * 64 → t' j = t j) ∧ (∀ b, i ≤ b → (b : Int) < w 2 → ga_h x b = true → ga_h d b = false → φ b m = true → t' ((m + ga_l w b) * 64 + (d + 2 ^ b)) ≤ s + W b m) ∧ (∀ y, y ≠ 77 → μ'.2 y = μ.2 y) ∧ μ'.1 = μ.1
  | _, 0, _, _, _, hf, _, _, _, _, _, _ => absurd hf (Nat.not_lt_zero _)
  | 0, f + 1, i, μ, t, hf, hi, hc, hwt, ht, hT, h0 => by
    have o2 := ok.2.2.1
    refine ⟨μ, t, ?_, ht, hT, fun _ => Int.le_refl _, fun _ _ => rfl, fun b h1 h2 => absurd h2 (by omega), fun _ _ => rfl, rfl⟩
    rw [L_X0_goOn_20.eq_2, hc.1.2.2]
    simp (disch := omega) only [Int.reduceToNat, gq_lit, gq_neg, gq_add, gq_sub, gq_mul, gq_nat, Int.toNat_natCast, gq_tadd, gq_tmul, gq_lte, gq_br, gq_bd, gq_ck, Bool.false_eq_true, gq_leT, gq_leF, gq_ltT, gq_ltF, gq_eqT, gq_eqF, if_true, if_false]
  | n + 1, f + 1, i, μ, t, hf, hi, hc, hwt, ht, hT, h0 => by
    have o0 := ok.1
    have o2 := ok.2.2.1
    have hb : (i : Int) < w 2 := by omega
    obtain ⟨l1, ⟨f1, f2, f3⟩, _⟩ := ok.2.2.2.2.1 i hb
    have eW := hwt i m hb hm
    obtain ⟨c1, c2⟩ := ga_dfI x hx d hd
    have c3 := ga_hasI (ga_df x d) c2 i (by omega)
    rw [ga_dfh x hx d hd i (by omega)] at c3
    have skip : (¬ (ga_h x i = true ∧ ga_h d i = false ∧ φ i m = true)) → L_X0_goOn_20 a (gq_I m) (gq_I x) (gq_I d) (gq_L s) k (f + 1) (gq_I i) μ = L_X0_goOn_20 a (gq_I m) (gq_I x) (gq_I d) (gq_L s) k f (gq_I (i + 1 : Nat)) μ → ∃ μ' t', L_X0_goOn_20 a (gq_I m) (gq_I x) (gq_I d) (gq_L s) k (f + 1) (gq_I i) μ = k μ' ∧ gc_tab μ' 77 t' ∧ gc_T w φ W x t' ∧ (∀ j, t' j ≤ t j) ∧ (∀ j, j < (m + 1) * 64 → t' j = t j) ∧ (∀ b, i ≤ b → (b : Int) < w 2 → ga_h x b = true → ga_h d b = false → φ b m = true → t' ((m + ga_l w b) * 64 + (d + 2 ^ b)) ≤ s + W b m) ∧ (∀ y, y ≠ 77 → μ'.2 y = μ.2 y) ∧ μ'.1 = μ.1 := fun hn he => by
      obtain ⟨μ', t', e1, e2, e3, e4, e5, e6, e7, e8⟩ := gc_goL ok hW hm hd hx hs (k := k) n f (i + 1) μ t (by omega) (by omega) hc hwt ht hT h0
      refine ⟨μ', t', he.trans e1, e2, e3, e4, e5, fun b h1 h2 h3 h4 h5 => ?_, e7, e8⟩
      by_cases e : b = i
      · subst e
        exact absurd ⟨h3, h4, h5⟩ hn
      · exact e6 b (by omega) h2 h3 h4 h5
    by_cases g1 : ga_h x i = true ∧ ga_h d i = false
    · have g1' : (ga_h x i && !ga_h d i) = true := by rw [g1.1, g1.2]; rfl
      cases g2 : φ i m with
      | false =>
        refine skip (fun c => absurd (g2.symm.trans c.2.2) (by decide)) ?_
        rw [hW.2 i m g2] at eW
        rw [L_X0_goOn_20.eq_2, hc.1.2.2]
        simp (disch := omega) only [Int.reduceToNat, gq_lit, gq_neg, gq_add, gq_sub, gq_mul, gq_nat, Int.toNat_natCast, gq_tadd, gq_tmul, gq_lte, gq_br, gq_bd, gq_ck, Bool.false_eq_true, gq_leT, gq_leF, gq_ltT, gq_ltF, gq_eqT, gq_eqF, if_true, if_false, eW, c1, gq_Llit]
        rw [if_pos (c3.mpr g1'), if_pos (Int64.le_refl _)]
        rfl
      | true =>
        obtain ⟨⟨_, r2⟩, r3, r4⟩ := hW.1 i m g2
        have hin := (ga_ad_ins d hd i (by omega) g1.2)
        have lt : ga_l w i ≤ 9 ∧ 1 ≤ ga_l w i ∧ m + ga_l w i ≤ 40 := by unfold ga_l; omega
        have hS : ∃ S, ga_arr φ (ga_l w) (d + 2 ^ i) 0 (m + ga_l w i) S ∧ ga_v W (d + 2 ^ i) S = s + W i m := by
          obtain ⟨S, s1, s2⟩ := hT.2 m d (by omega) hd (by omega)
          exact ⟨ga_up S i m, ga_put hin.1 g2 (Nat.zero_le _) s1, by rw [ga_v_up hin.1, s2, h0]⟩
        obtain ⟨μ1, b1, b2, b3, b4⟩ := gc_lower (μ := μ) (a := 77) (i := (m + ga_l w i) * 64 + (d + 2 ^ i)) (v := s + W i m) (by omega) ht (hT.1 _ (by omega)) (by omega)
        have pw : 0 < 2 ^ i := Nat.two_pow_pos i
        obtain ⟨q2, hq2⟩ : ∃ q2 : Nat, q2 = d + 2 ^ i := ⟨_, rfl⟩
        have q2d : d ≤ q2 := by omega
        have ne : m * 64 + d ≠ (m + ga_l w i) * 64 + (d + 2 ^ i) := by rw [← hq2]; omega
        have gt : ∀ j, j < (m + 1) * 64 → j ≠ (m + ga_l w i) * 64 + (d + 2 ^ i) := fun j hj => by rw [← hq2]; omega
        obtain ⟨μ', t', e1, e2, e3, e4, e5, e6, e7, e8⟩ := gc_goL ok hW hm hd hx hs (k := k) n f (i + 1) μ1 _ (by omega) (by omega) (gq_cS_1 hc b4) (fun b j h1 h2 => by rw [b3 76 (by omega)]; exact hwt b j h1 h2) b2 (gc_T_lo hT (by omega) (by omega) (by omega) hS) (by rw [gc_lo_n ne]; exact h0)
        refine ⟨μ', t', ?_, e2, e3, fun j => Int.le_trans (e4 j) (gc_lo_le _ _ _ j), fun j hj => ?_, fun b h1 h2 h3 h4 h5 => ?_, fun y hy => (e7 y hy).trans (b3 y hy), e8.trans b4⟩
        · rw [← e1, L_X0_goOn_20.eq_2, hc.1.2.2]
          simp (disch := omega) only [Int.reduceToNat, gq_lit, gq_neg, gq_add, gq_sub, gq_mul, gq_nat, Int.toNat_natCast, gq_tadd, gq_tmul, gq_lte, gq_br, gq_bd, gq_ck, Bool.false_eq_true, gq_leT, gq_leF, gq_ltT, gq_ltF, gq_eqT, gq_eqF, if_true, if_false, eW, c1, gq_Llit, gc_behind ok hc hb hd g1.2, gq_Ladd]
          rw [if_pos (c3.mpr g1'), if_neg (by rw [gq_Lle (by omega)]; omega), b1]
          rfl
        · rw [e5 j hj, gc_lo_n (gt j hj)]
        · by_cases e : b = i
          · subst e
            exact Int.le_trans (e4 _) (gc_lo_i _ _ _)
          · exact e6 b (by omega) h2 h3 h4 h5
    · refine skip (fun c => g1 ⟨c.1, c.2.1⟩) ?_
      have g1' : ¬ (ga_h x i && !ga_h d i) = true := fun c => g1 (by
        cases h1 : ga_h x i
        · rw [h1] at c; exact absurd (show false = true from c) (by decide)
        · cases h2 : ga_h d i
          · exact ⟨rfl, rfl⟩
          · rw [h1, h2] at c; exact absurd c (by decide))
      rw [L_X0_goOn_20.eq_2, hc.1.2.2]
      simp (disch := omega) only [Int.reduceToNat, gq_lit, gq_neg, gq_add, gq_sub, gq_mul, gq_nat, Int.toNat_natCast, gq_tadd, gq_tmul, gq_lte, gq_br, gq_bd, gq_ck, Bool.false_eq_true, gq_leT, gq_leF, gq_ltT, gq_ltF, gq_eqT, gq_eqF, if_true, if_false, eW, c1, gq_Llit]
      rw [if_neg fun c => g1' (c3.mp c)]
      rfl
theorem gc_goOn {a m d x : Nat} {w : Nat → Int} {φ : Nat → Nat → Bool} {W : Nat → Nat → Int} {s : Int} {μ : gx_M} {t : Nat → Int} (ok : gq_okS w) (hW : gc_ctx w φ W) (hm : (m : Int) < w 0) (hd : d < 64) (hx : x < 64) (hs : 0 ≤ s ∧ s < 1152921504606846976) (hc : gq_cS μ a w) (hwt : gc_Wt μ w W) (ht : gc_tab μ 77 t) (hT : gc_T w φ W x t) (h0 : t (m * 64 + d) = s) : ∃ μ' t', f_X0_goOn a (gq_I m) (gq_I d) (gq_I x) (gq_L s) μ = some ((), μ') ∧ gc_tab μ' 77 t' ∧ gc_T w φ W x t' ∧ (∀ j, t' j ≤ t j) ∧ (∀ j, j < (m + 1) * 64 → t' j = t j) ∧ gc_C w φ W x t' m d ∧ (∀ y, y ≠ 77 → μ'.2 y = μ.2 y) ∧ μ'.1 = μ.1 := by
  have o0 := ok.1
  have o2 := ok.2.2.1
  obtain ⟨μ1, b1, b2, b3, b4⟩ := gc_lower (μ := μ) (a := 77) (i := (m + 1) * 64 + d) (v := s) (by omega) ht (hT.1 _ (by omega)) (by omega)
  have hS : ∃ S, ga_arr φ (ga_l w) d 0 (m + 1) S ∧ ga_v W d S = s := by
    obtain ⟨S, s1, s2⟩ := hT.2 m d (by omega) hd (by omega)
    exact ⟨S, ga_mono s1 (Nat.le_refl _) (by omega), by rw [s2, h0]⟩
  have ne : m * 64 + d ≠ (m + 1) * 64 + d := by omega
  obtain ⟨μ', t', e1, e2, e3, e4, e5, e6, e7, e8⟩ := gc_goL ok hW hm hd hx hs (k := fun (μ17 : gx_M) => some ((), μ17)) (w 2).toNat 4000 0 μ1 _ (by omega) (by omega) (gq_cS_1 hc b4) (fun b j h1 h2 => by rw [b3 76 (by omega)]; exact hwt b j h1 h2) b2 (gc_T_lo hT (by omega) (by omega) (by omega) hS) (by rw [gc_lo_n ne]; exact h0)
  have e0 : t' (m * 64 + d) = s := by rw [e5 _ (by omega), gc_lo_n ne]; exact h0
  refine ⟨μ', t', ?_, e2, e3, fun j => Int.le_trans (e4 j) (gc_lo_le _ _ _ j), fun j hj => ?_, fun _ => ⟨?_, fun b h1 h2 h3 => ?_⟩, fun y hy => (e7 y hy).trans (b3 y hy), e8.trans b4⟩
  · unfold f_X0_goOn
    simp (disch := omega) only [Int.reduceToNat, gq_lit, gq_neg, gq_add, gq_sub, gq_mul, gq_nat, Int.toNat_natCast, gq_tadd, gq_tmul, gq_lte, gq_br, gq_bd, gq_ck]
    have b1' : f_X0_lower 77 2624 (gq_I (((m : Int) + 1) * 64 + d)) (gq_L s) μ = some ((), μ1) := b1
    rw [b1', gq_bd]
    exact e1
  · rw [e5 j hj, gc_lo_n (by omega)]
  · rw [e0]
    exact Int.le_trans (e4 _) (gc_lo_i _ _ _)
  · rw [e0]
    exact e6 b (by omega) (hW.1 b m h3).1.1 h1 h2 h3
theorem gc_subs {μ : gx_M} {a : Nat} {w : Nat → Int} {T : Nat} (ok : gq_okS w) (hc : gq_cS μ a w) (hT : w 2 = T) : f_X5_subsets a μ = gq_I (2 ^ T : Nat) := by
  have o2 := ok.2.2.1
  unfold f_X5_subsets
  rw [hc.1.2.2, hT, gq_lit, gq_lit]
  exact ga_subI T (by omega)
theorem gc_arrL {a m x T : Nat} {w : Nat → Int} {φ : Nat → Nat → Bool} {W : Nat → Nat → Int} (ok : gq_okS w) (hW : gc_ctx w φ W) (hT2 : w 2 = T) (hm : (m : Int) < w 0) (hx : x < 64) {k : gx_M → Option (Unit × gx_M)} : ∀ (n f i : Nat) (μ : gx_M) (t : Nat → Int), n < f → i + n = 2 ^ T → gq_cS μ a w → gc_Wt μ w W → gc_tab μ 77 t → gc_T w φ W x t → ∃ μ' t', L_X0_arrange_30 a (gq_I m) (gq_I x) k f (gq_I i) μ = k μ' ∧ gc_tab μ' 77 t' ∧ gc_T w φ W x t' ∧ (∀ j, t' j ≤ t j) ∧ (∀ j, j < (m + 1) * 64 → t' j = t j) ∧ (∀ d, i ≤ d → d < 2 ^ T → gc_C w φ W x t' m d) ∧ (∀ y, y ≠ 77 → μ'.2 y = μ.2 y) ∧ μ'.1 = μ.1
  | _, 0, _, _, _, hf, _, _, _, _, _ => absurd hf (Nat.not_lt_zero _)
  | 0, f + 1, i, μ, t, hf, hi, hc, hwt, ht, hT => by
    have o2 := ok.2.2.1
    have p2 := ga_2T T (by omega)
    refine ⟨μ, t, ?_, ht, hT, fun _ => Int.le_refl _, fun _ _ => rfl, fun d h1 h2 => absurd h2 (by omega), fun _ _ => rfl, rfl⟩
    rw [L_X0_arrange_30.eq_2, gc_subs ok hc hT2]
    exact if_pos (by rw [gq_le (by omega)]; omega)
  | n + 1, f + 1, i, μ, t, hf, hi, hc, hwt, ht, hT => by
    have o0 := ok.1
    have o2 := ok.2.2.1
    have p2 := ga_2T T (by omega)
    have hti := ht (m * 64 + i) (by omega)
    have hto := hT.1 (m * 64 + i) (by omega)
    by_cases g : t (m * 64 + i) < 1152921504606846976
    · obtain ⟨μ1, t1, a1, a2, a3, a4, a5, a6, a7, a8⟩ := gc_goOn (a := a) ok hW hm (d := i) (by omega) hx ⟨hto.1, g⟩ hc hwt ht hT rfl
      obtain ⟨μ', t', e1, e2, e3, e4, e5, e6, e7, e8⟩ := gc_arrL ok hW hT2 hm hx (k := k) n f (i + 1) μ1 t1 (by omega) (by omega) (gq_cS_1 hc a8) (fun b j h1 h2 => by rw [a7 76 (by omega)]; exact hwt b j h1 h2) a2 a3
      refine ⟨μ', t', ?_, e2, e3, fun j => Int.le_trans (e4 j) (a4 j), fun j hj => (e5 j hj).trans (a5 j hj), fun d h1 h2 => ?_, fun y hy => (e7 y hy).trans (a7 y hy), e8.trans a8⟩
      · rw [← e1, L_X0_arrange_30.eq_2, gc_subs ok hc hT2]
        simp (disch := omega) only [Int.reduceToNat, gq_lit, gq_neg, gq_add, gq_sub, gq_mul, gq_nat, Int.toNat_natCast, gq_tadd, gq_tmul, gq_lte, gq_br, gq_bd, gq_ck, Bool.false_eq_true, gq_leT, gq_leF, gq_ltT, gq_ltF, gq_eqT, gq_eqF, if_true, if_false, hti, gq_Llit]
        rw [if_neg (by rw [gq_Lle (by omega)]; omega), a1]
        rfl
      · by_cases e : d = i
        · subst e
          exact gc_C_w a6 e4 (e5 _ (by omega))
        · exact e6 d (by omega) h2
    · obtain ⟨μ', t', e1, e2, e3, e4, e5, e6, e7, e8⟩ := gc_arrL ok hW hT2 hm hx (k := k) n f (i + 1) μ t (by omega) (by omega) hc hwt ht hT
      refine ⟨μ', t', ?_, e2, e3, e4, e5, fun d h1 h2 => ?_, e7, e8⟩
      · rw [← e1, L_X0_arrange_30.eq_2, gc_subs ok hc hT2]
        simp (disch := omega) only [Int.reduceToNat, gq_lit, gq_neg, gq_add, gq_sub, gq_mul, gq_nat, Int.toNat_natCast, gq_tadd, gq_tmul, gq_lte, gq_br, gq_bd, gq_ck, Bool.false_eq_true, gq_leT, gq_leF, gq_ltT, gq_ltF, gq_eqT, gq_eqF, if_true, if_false, hti, gq_Llit]
        rw [if_pos (by rw [gq_Lle (by omega)]; omega)]
        rfl
      · by_cases e : d = i
        · subst e
          exact fun c => absurd c (by rw [e5 _ (by omega)]; exact g)
        · exact e6 d (by omega) h2
theorem gc_arrL2 {a x T : Nat} {w : Nat → Int} {φ : Nat → Nat → Bool} {W : Nat → Nat → Int} (ok : gq_okS w) (hW : gc_ctx w φ W) (hT2 : w 2 = T) (hx : x < 64) {k : gx_M → Option (Unit × gx_M)} : ∀ (n f i : Nat) (μ : gx_M) (t : Nat → Int), n < f → (i : Int) + n = w 0 → gq_cS μ a w → gc_Wt μ w W → gc_tab μ 77 t → gc_T w φ W x t → ∃ μ' t', L_X0_arrange_19 a (gq_I x) k f (gq_I i) μ = k μ' ∧ gc_tab μ' 77 t' ∧ gc_T w φ W x t' ∧ (∀ j, t' j ≤ t j) ∧ (∀ j, j < (i + 1) * 64 → t' j = t j) ∧ (∀ m d : Nat, i ≤ m → (m : Int) < w 0 → d < 2 ^ T → gc_C w φ W x t' m d) ∧ (∀ y, y ≠ 77 → μ'.2 y = μ.2 y) ∧ μ'.1 = μ.1
  | _, 0, _, _, _, hf, _, _, _, _, _ => absurd hf (Nat.not_lt_zero _)
  | 0, f + 1, i, μ, t, hf, hi, hc, hwt, ht, hT => by
    have o0 := ok.1
    refine ⟨μ, t, ?_, ht, hT, fun _ => Int.le_refl _, fun _ _ => rfl, fun m d h1 h2 => absurd h2 (by omega), fun _ _ => rfl, rfl⟩
    rw [L_X0_arrange_19.eq_2, hc.1.1]
    simp (disch := omega) only [Int.reduceToNat, gq_lit, gq_neg, gq_add, gq_sub, gq_mul, gq_nat, Int.toNat_natCast, gq_tadd, gq_tmul, gq_lte, gq_br, gq_bd, gq_ck, Bool.false_eq_true, gq_leT, gq_leF, gq_ltT, gq_ltF, gq_eqT, gq_eqF, if_true, if_false]
  | n + 1, f + 1, i, μ, t, hf, hi, hc, hwt, ht, hT => by
    have o0 := ok.1
    have o2 := ok.2.2.1
    have p2 := ga_2T T (by omega)
    obtain ⟨μ1, t1, a1, a2, a3, a4, a5, a6, a7, a8⟩ := gc_arrL (a := a) ok hW hT2 (m := i) (by omega) hx (k := fun (μ20 : gx_M) => L_X0_arrange_19 a (gq_I x) k f (gq_I i + 1) μ20) (2 ^ T) 4000 0 μ t (by omega) (by omega) hc hwt ht hT
    obtain ⟨μ', t', e1, e2, e3, e4, e5, e6, e7, e8⟩ := gc_arrL2 ok hW hT2 hx (k := k) n f (i + 1) μ1 t1 (by omega) (by omega) (gq_cS_1 hc a8) (fun b j h1 h2 => by rw [a7 76 (by omega)]; exact hwt b j h1 h2) a2 a3
    have f1 : ∀ j, t' j ≤ t j := fun j => Int.le_trans (e4 j) (a4 j)
    have f2 : ∀ j, j < (i + 1) * 64 → t' j = t j := fun j hj => by
      have hj2 : j < (i + 1 + 1) * 64 := Nat.lt_of_lt_of_le hj (Nat.mul_le_mul_right 64 (Nat.le_succ _))
      exact (e5 j hj2).trans (a5 j hj)
    have f3 : ∀ m d : Nat, i ≤ m → (m : Int) < w 0 → d < 2 ^ T → gc_C w φ W x t' m d := fun m d h1 h2 h3 => by
      by_cases e : m = i
      · subst e
        have hd : m * 64 + d < (m + 1 + 1) * 64 := by
          clear a1 a2 a3 a6 e1 e2 e3 e6 hT ht hwt hc a4 a5 a7 a8 e4 e5 e7 e8 f1 f2
          omega
        exact gc_C_w (a6 d (Nat.zero_le _) h3) e4 (e5 _ hd)
      · exact e6 m d (Nat.lt_of_le_of_ne h1 (Ne.symm e)) h2 h3
    refine ⟨μ', t', ?_, e2, e3, f1, f2, f3, fun y hy => (e7 y hy).trans (a7 y hy), e8.trans a8⟩
    rw [← e1, L_X0_arrange_19.eq_2, hc.1.1]
    refine (if_neg (by rw [gq_le (by omega)]; omega)).trans ?_
    refine a1.trans ?_
    rw [gq_suc]
