/-! gift: the class's table filled -/
def gg_X (μ : gx_M) (a : Nat) (w : Nat → Int) (p : Int) (φ : Nat → Nat → Bool) (u : Nat → Int) : Prop := gq_cS μ a w ∧ gc_Wt μ w (ga_W φ (gk_c w (gk_O w) p)) ∧ gc_tab μ 77 u
theorem gg_X_w {μ ν : gx_M} {a : Nat} {w : Nat → Int} {p : Int} {φ : Nat → Nat → Bool} {u : Nat → Int} (h : gg_X μ a w p φ u) (h1 : ∀ y, y ≠ 78 → ν.2 y = μ.2 y) (h2 : ν.1 = μ.1) : gg_X ν a w p φ u :=
  ⟨gq_cS_1 h.1 h2, fun b j g1 g2 => by rw [h1 76 (by omega)]; exact h.2.1 b j g1 g2, fun j hj => by rw [h1 77 (by omega)]; exact h.2.2 j hj⟩
def gg_U (w : Nat → Int) (p : Int) (φ : Nat → Nat → Bool) (u : Nat → Int) : Prop := (∀ j, j < 2624 → 0 ≤ u j ∧ u j ≤ 1152921504606846976) ∧ ∀ m d, m ≤ 40 → d < 64 → u (m * 64 + d) < 1152921504606846976 → ∃ S, ga_arr φ (ga_l w) d 0 m S ∧ ga_v (ga_W φ (gk_c w (gk_O w) p)) d S = u (m * 64 + d)
theorem gg_inL {a m d x : Nat} {w : Nat → Int} {p : Int} {φ : Nat → Nat → Bool} {u : Nat → Int} (ok : gq_okS w) (cx : gd_ctx w φ (gk_c w (gk_O w) p)) (hp : -1 ≤ p ∧ p ≤ 4) (hm : (m : Int) < w 0) (hd : d < 64) (hx : x < 64) (hu : gg_U w p φ u) {k : gx_M → Option (Unit × gx_M)} : ∀ (n f i : Nat) (μ : gx_M) (t : Nat → Int), n < f → (i : Int) + n = w 2 → gg_X μ a w p φ u → gc_tab μ 78 t → gg_T w p φ (gk_c w (gk_O w) p) t → ∃ μ' t', L_X0_arrangeGiven_67 a (gq_I x) (gq_I d) (gq_I m) (gq_I p) k f (gq_I i) μ = k μ' ∧ gc_tab μ' 78 t' ∧ gg_T w p φ (gk_c w (gk_O w) p) t' ∧ (∀ j, t' j ≤ t j) ∧ (∀ j, j < (m + 1) * 64 → t' j = t j) ∧ (∀ b, i ≤ b → (b : Int) < w 2 → ga_h x b = true → ga_h d b = false → φ b m = true → gg_P w p (gk_c w (gk_O w) p) u t' (t (m * 64 + d)) m d b) ∧ (∀ y, y ≠ 78 → μ'.2 y = μ.2 y) ∧ μ'.1 = μ.1
  | _, 0, _, _, _, hf, _, _, _, _ => absurd hf (Nat.not_lt_zero _)
  | 0, f + 1, i, μ, t, hf, hi, hX, ht, hT => by
    have o2 := ok.2.2.1
    refine ⟨μ, t, ?_, ht, hT, fun _ => Int.le_refl _, fun _ _ => rfl, fun b h1 h2 => absurd h2 (by omega), fun _ _ => rfl, rfl⟩
    rw [L_X0_arrangeGiven_67.eq_2, hX.1.1.2.2]
    exact if_pos (by rw [gq_le (by omega)]; omega)
  | n + 1, f + 1, i, μ, t, hf, hi, hX, ht, hT => by
    have o0 := ok.1
    have o2 := ok.2.2.1
    have hb : (i : Int) < w 2 := by omega
    have eW := hX.2.1 i m hb hm
    obtain ⟨c1, c2⟩ := ga_dfI x hx d hd
    have c3 := ga_hasI (ga_df x d) c2 i (by omega)
    rw [ga_dfh x hx d hd i (by omega)] at c3
    have skip : (¬ (ga_h x i = true ∧ ga_h d i = false ∧ φ i m = true)) → L_X0_arrangeGiven_67 a (gq_I x) (gq_I d) (gq_I m) (gq_I p) k (f + 1) (gq_I i) μ = L_X0_arrangeGiven_67 a (gq_I x) (gq_I d) (gq_I m) (gq_I p) k f (gq_I (i + 1 : Nat)) μ → ∃ μ' t', L_X0_arrangeGiven_67 a (gq_I x) (gq_I d) (gq_I m) (gq_I p) k (f + 1) (gq_I i) μ = k μ' ∧ gc_tab μ' 78 t' ∧ gg_T w p φ (gk_c w (gk_O w) p) t' ∧ (∀ j, t' j ≤ t j) ∧ (∀ j, j < (m + 1) * 64 → t' j = t j) ∧ (∀ b, i ≤ b → (b : Int) < w 2 → ga_h x b = true → ga_h d b = false → φ b m = true → gg_P w p (gk_c w (gk_O w) p) u t' (t (m * 64 + d)) m d b) ∧ (∀ y, y ≠ 78 → μ'.2 y = μ.2 y) ∧ μ'.1 = μ.1 := fun hn he => by
      obtain ⟨μ', t', e1, e2, e3, e4, e5, e6, e7, e8⟩ := gg_inL ok cx hp hm hd hx hu (k := k) n f (i + 1) μ t (by omega) (by omega) hX ht hT
      refine ⟨μ', t', he.trans e1, e2, e3, e4, e5, fun b h1 h2 h3 h4 h5 => ?_, e7, e8⟩
      by_cases e : b = i
      · subst e
        exact absurd ⟨h3, h4, h5⟩ hn
      · exact e6 b (by omega) h2 h3 h4 h5
    by_cases g1 : ga_h x i = true ∧ ga_h d i = false
    · have g1' : (ga_h x i && !ga_h d i) = true := by rw [g1.1, g1.2]; rfl
      cases g2 : φ i m with
      | false =>
        refine skip (fun c => absurd (g2.symm.trans c.2.2) (by decide)) ?_
        rw [(gc_ctx_of ok cx).2 i m g2] at eW
        rw [L_X0_arrangeGiven_67.eq_2, hX.1.1.2.2]
        simp (disch := omega) only [Int.reduceToNat, gq_lit, gq_neg, gq_add, gq_sub, gq_mul, gq_nat, Int.toNat_natCast, gq_tadd, gq_tmul, gq_lte, gq_br, gq_bd, gq_ck, Bool.false_eq_true, gq_leT, gq_leF, gq_ltT, gq_ltF, gq_eqT, gq_eqF, if_true, if_false, eW, c1, gq_Llit]
        rw [if_pos (c3.mpr g1'), if_pos (Int64.le_refl _)]
        rfl
      | true =>
        obtain ⟨⟨_, r2⟩, r3, r4⟩ := (gc_ctx_of ok cx).1 i m g2
        obtain ⟨μ1, t1, b1, b2, b3, b4, b5, b6, b7, b8⟩ := gg_giveIn ok hX.1 cx hX.2.1 hp hd g1.2 g2 hX.2.2 hu.1 hu.2 ht hT
        have t1i : t1 (m * 64 + d) = t (m * 64 + d) := b5 _ (by omega)
        obtain ⟨μ', t', e1, e2, e3, e4, e5, e6, e7, e8⟩ := gg_inL ok cx hp hm hd hx hu (k := k) n f (i + 1) μ1 t1 (by omega) (by omega) (gg_X_w hX b7 b8) b2 b3
        refine ⟨μ', t', ?_, e2, e3, fun j => Int.le_trans (e4 j) (b4 j), fun j hj => (e5 j hj).trans (b5 j hj), fun b h1 h2 h3 h4 h5 => ?_, fun y hy => (e7 y hy).trans (b7 y hy), e8.trans b8⟩
        · rw [← e1, L_X0_arrangeGiven_67.eq_2, hX.1.1.2.2]
          simp (disch := omega) only [Int.reduceToNat, gq_lit, gq_neg, gq_add, gq_sub, gq_mul, gq_nat, Int.toNat_natCast, gq_tadd, gq_tmul, gq_lte, gq_br, gq_bd, gq_ck, Bool.false_eq_true, gq_leT, gq_leF, gq_ltT, gq_ltF, gq_eqT, gq_eqF, if_true, if_false, eW, c1, gq_Llit]
          rw [if_pos (c3.mpr g1'), if_neg (by rw [gq_Lle (by omega)]; omega), b1]
          rfl
        · by_cases e : b = i
          · subst e
            exact gg_P_w b6 e4
          · have := e6 b (by omega) h2 h3 h4 h5
            rw [t1i] at this
            exact this
    · refine skip (fun c => g1 ⟨c.1, c.2.1⟩) ?_
      have g1' : ¬ (ga_h x i && !ga_h d i) = true := fun c => g1 (by
        cases h1 : ga_h x i
        · rw [h1] at c; exact absurd (show false = true from c) (by decide)
        · cases h2 : ga_h d i
          · exact ⟨rfl, rfl⟩
          · rw [h1, h2] at c; exact absurd c (by decide))
      rw [L_X0_arrangeGiven_67.eq_2, hX.1.1.2.2]
      simp (disch := omega) only [Int.reduceToNat, gq_lit, gq_neg, gq_add, gq_sub, gq_mul, gq_nat, Int.toNat_natCast, gq_tadd, gq_tmul, gq_lte, gq_br, gq_bd, gq_ck, Bool.false_eq_true, gq_leT, gq_leF, gq_ltT, gq_ltF, gq_eqT, gq_eqF, if_true, if_false, eW, c1, gq_Llit]
      rw [if_neg fun c => g1' (c3.mp c)]
      rfl
/-- closed at a place -/
def gg_C (w : Nat → Int) (p : Int) (φ : Nat → Nat → Bool) (u t : Nat → Int) (x m d : Nat) : Prop := t ((m + 1) * 64 + d) ≤ t (m * 64 + d) ∧ ∀ b : Nat, (b : Int) < w 2 → ga_h x b = true → ga_h d b = false → φ b m = true → gg_P w p (gk_c w (gk_O w) p) u t (t (m * 64 + d)) m d b
theorem gg_C_w {w : Nat → Int} {p : Int} {φ : Nat → Nat → Bool} {u t t' : Nat → Int} {x m d : Nat} (h : gg_C w p φ u t x m d) (h1 : ∀ j, t' j ≤ t j) (h2 : t' (m * 64 + d) = t (m * 64 + d)) : gg_C w p φ u t' x m d := by
  refine ⟨by rw [h2]; exact Int.le_trans (h1 _) h.1, fun b b1 b2 b3 b4 => ?_⟩
  rw [h2]
  exact gg_P_w (h.2 b b1 b2 b3 b4) h1
theorem gg_midL {a m x T : Nat} {w : Nat → Int} {p : Int} {φ : Nat → Nat → Bool} {u : Nat → Int} (ok : gq_okS w) (cx : gd_ctx w φ (gk_c w (gk_O w) p)) (hp : -1 ≤ p ∧ p ≤ 4) (hT2 : w 2 = T) (hm : (m : Int) < w 0) (hx : x < 64) (hu : gg_U w p φ u) {k : gx_M → Option (Unit × gx_M)} : ∀ (n f i : Nat) (μ : gx_M) (t : Nat → Int), n < f → i + n = 2 ^ T → gg_X μ a w p φ u → gc_tab μ 78 t → gg_T w p φ (gk_c w (gk_O w) p) t → ∃ μ' t', L_X0_arrangeGiven_25 a (gq_I m) (gq_I x) (gq_I p) k f (gq_I i) μ = k μ' ∧ gc_tab μ' 78 t' ∧ gg_T w p φ (gk_c w (gk_O w) p) t' ∧ (∀ j, t' j ≤ t j) ∧ (∀ j, j < (m + 1) * 64 → t' j = t j) ∧ (∀ d, i ≤ d → d < 2 ^ T → gg_C w p φ u t' x m d) ∧ (∀ y, y ≠ 78 → μ'.2 y = μ.2 y) ∧ μ'.1 = μ.1
  | _, 0, _, _, _, hf, _, _, _, _ => absurd hf (Nat.not_lt_zero _)
  | 0, f + 1, i, μ, t, hf, hi, hX, ht, hT => by
    have o2 := ok.2.2.1
    have p2 := ga_2T T (by omega)
    refine ⟨μ, t, ?_, ht, hT, fun _ => Int.le_refl _, fun _ _ => rfl, fun d h1 h2 => absurd h2 (by omega), fun _ _ => rfl, rfl⟩
    rw [L_X0_arrangeGiven_25.eq_2, gc_subs ok hX.1 hT2]
    exact if_pos (by rw [gq_le (by omega)]; omega)
  | n + 1, f + 1, i, μ, t, hf, hi, hX, ht, hT => by
    have o0 := ok.1
    have o2 := ok.2.2.1
    have p2 := ga_2T T (by omega)
    have hti := ht (m * 64 + i) (by omega)
    have hto := hT.1 (m * 64 + i) (by omega)
    have hi64 : i < 64 := by omega
    obtain ⟨μ1, b1, b2, b3, b4⟩ := gc_lower (μ := μ) (a := 78) (i := (m + 1) * 64 + i) (v := t (m * 64 + i)) (by omega) ht (hT.1 _ (by omega)) (by omega)
    have hT1 : gg_T w p φ (gk_c w (gk_O w) p) (gc_lo t ((m + 1) * 64 + i) (t (m * 64 + i))) := gg_T_lo hT (by omega) hi64 hto.1 fun h => by
      obtain ⟨S, b0, n, s1, s2⟩ := hT.2 m i (by omega) hi64 h
      exact ⟨S, b0, n, ga_mono s1 (Nat.le_refl _) (by omega), s2⟩
    have ne : m * 64 + i ≠ (m + 1) * 64 + i := by omega
    obtain ⟨μ2, t2, c1, c2, c3, c4, c5, c6, c7, c8⟩ := gg_inL (a := a) ok cx hp hm hi64 hx hu (k := fun (μ26 : gx_M) => L_X0_arrangeGiven_25 a (gq_I m) (gq_I x) (gq_I p) k f (gq_I i + 1) μ26) (w 2).toNat 4000 0 μ1 _ (by omega) (by omega) (gg_X_w hX b3 b4) b2 hT1
    obtain ⟨μ', t', e1, e2, e3, e4, e5, e6, e7, e8⟩ := gg_midL ok cx hp hT2 hm hx hu (k := k) n f (i + 1) μ2 t2 (by omega) (by omega) (gg_X_w (gg_X_w hX b3 b4) c7 c8) c2 c3
    have low : ∀ j, j < (m + 1) * 64 → gc_lo t ((m + 1) * 64 + i) (t (m * 64 + i)) j = t j := fun j hj => gc_lo_n (by omega)
    refine ⟨μ', t', ?_, e2, e3, fun j => Int.le_trans (e4 j) (Int.le_trans (c4 j) (gc_lo_le _ _ _ j)), fun j hj => (e5 j hj).trans ((c5 j hj).trans (low j hj)), fun d h1 h2 => ?_, fun y hy => (e7 y hy).trans ((c7 y hy).trans (b3 y hy)), e8.trans (c8.trans b4)⟩
    · rw [← e1, L_X0_arrangeGiven_25.eq_2, gc_subs ok hX.1 hT2]
      have ix : (gq_I m * 64) + gq_I i = gq_I (m * 64 + i : Nat) := by
        simp only [gq_lit, gq_mul, gq_add]
        rfl
      have ix2 : ((gq_I m + 1) * 64) + gq_I i = gq_I ((m + 1) * 64 + i : Nat) := by
        simp only [gq_lit, gq_mul, gq_add]
        rfl
      refine (if_neg (by rw [gq_le (by omega)]; omega)).trans ?_
      rw [ix, gq_ck (by omega), gq_nat (by omega), Int.toNat_natCast, hti, ix2, b1, gq_bd]
      refine c1.trans ?_
      rw [gq_suc]
    · by_cases e : d = i
      · subst e
        have hmd : m * 64 + d < (m + 1) * 64 := by omega
        have k0 : t2 (m * 64 + d) = t (m * 64 + d) := (c5 _ hmd).trans (low _ hmd)
        refine gg_C_w ⟨?_, fun b y1 y2 y3 y4 => ?_⟩ e4 (e5 _ hmd)
        · rw [k0]
          exact Int.le_trans (c4 _) (gc_lo_i _ _ _)
        · have := c6 b (Nat.zero_le _) y1 y2 y3 y4
          rw [low _ hmd] at this
          rw [k0]
          exact this
      · exact e6 d (by omega) h2
theorem gg_outL {a x T : Nat} {w : Nat → Int} {p : Int} {φ : Nat → Nat → Bool} {u : Nat → Int} (ok : gq_okS w) (cx : gd_ctx w φ (gk_c w (gk_O w) p)) (hp : -1 ≤ p ∧ p ≤ 4) (hT2 : w 2 = T) (hx : x < 64) (hu : gg_U w p φ u) {k : gx_M → Option (Unit × gx_M)} : ∀ (n f i : Nat) (μ : gx_M) (t : Nat → Int), n < f → (i : Int) + n = w 0 → gg_X μ a w p φ u → gc_tab μ 78 t → gg_T w p φ (gk_c w (gk_O w) p) t → ∃ μ' t', L_X0_arrangeGiven_13 a (gq_I x) (gq_I p) k f (gq_I i) μ = k μ' ∧ gc_tab μ' 78 t' ∧ gg_T w p φ (gk_c w (gk_O w) p) t' ∧ (∀ j, t' j ≤ t j) ∧ (∀ j, j < (i + 1) * 64 → t' j = t j) ∧ (∀ m d : Nat, i ≤ m → (m : Int) < w 0 → d < 2 ^ T → gg_C w p φ u t' x m d) ∧ (∀ y, y ≠ 78 → μ'.2 y = μ.2 y) ∧ μ'.1 = μ.1
  | _, 0, _, _, _, hf, _, _, _, _ => absurd hf (Nat.not_lt_zero _)
  | 0, f + 1, i, μ, t, hf, hi, hX, ht, hT => by
    have o0 := ok.1
    refine ⟨μ, t, ?_, ht, hT, fun _ => Int.le_refl _, fun _ _ => rfl, fun m d h1 h2 => absurd h2 (by omega), fun _ _ => rfl, rfl⟩
    rw [L_X0_arrangeGiven_13.eq_2, hX.1.1.1]
    exact if_pos (by rw [gq_le (by omega)]; omega)
  | n + 1, f + 1, i, μ, t, hf, hi, hX, ht, hT => by
    have o0 := ok.1
    have o2 := ok.2.2.1
    have p2 := ga_2T T (by omega)
    obtain ⟨μ1, t1, a1, a2, a3, a4, a5, a6, a7, a8⟩ := gg_midL (a := a) ok cx hp hT2 (m := i) (by omega) hx hu (k := fun (μ28 : gx_M) => L_X0_arrangeGiven_13 a (gq_I x) (gq_I p) k f (gq_I i + 1) μ28) (2 ^ T) 4000 0 μ t (by omega) (by omega) hX ht hT
    obtain ⟨μ', t', e1, e2, e3, e4, e5, e6, e7, e8⟩ := gg_outL ok cx hp hT2 hx hu (k := k) n f (i + 1) μ1 t1 (by omega) (by omega) (gg_X_w hX a7 a8) a2 a3
    have f1 : ∀ j, t' j ≤ t j := fun j => Int.le_trans (e4 j) (a4 j)
    have f2 : ∀ j, j < (i + 1) * 64 → t' j = t j := fun j hj => (e5 j (Nat.lt_of_lt_of_le hj (Nat.mul_le_mul_right 64 (Nat.le_succ _)))).trans (a5 j hj)
    have f3 : ∀ m d : Nat, i ≤ m → (m : Int) < w 0 → d < 2 ^ T → gg_C w p φ u t' x m d := fun m d h1 h2 h3 => by
      by_cases e : m = i
      · subst e
        have hd : m * 64 + d < (m + 1 + 1) * 64 := by
          clear a1 a2 a3 a6 e1 e2 e3 e6 hT ht hX a4 a5 a7 a8 e4 e5 e7 e8 f1 f2
          omega
        exact gg_C_w (a6 d (Nat.zero_le _) h3) e4 (e5 _ hd)
      · exact e6 m d (Nat.lt_of_le_of_ne h1 (Ne.symm e)) h2 h3
    refine ⟨μ', t', ?_, e2, e3, f1, f2, f3, fun y hy => (e7 y hy).trans (a7 y hy), e8.trans a8⟩
    rw [← e1, L_X0_arrangeGiven_13.eq_2, hX.1.1.1]
    refine (if_neg (by rw [gq_le (by omega)]; omega)).trans ?_
    refine a1.trans ?_
    rw [gq_suc]
theorem gg_comp {x T L : Nat} {w : Nat → Int} {p : Int} {φ : Nat → Nat → Bool} {u t : Nat → Int} (ok : gq_okS w) (cx : gd_ctx w φ (gk_c w (gk_O w) p)) (hT2 : w 2 = T) (hL : w 0 = L) (mU : ∀ m d, m ≤ L → d < 2 ^ T → ga_sub d x → ga_min φ (ga_l w) (ga_W φ (gk_c w (gk_O w) p)) d 0 m 1152921504606846976 (u (m * 64 + d))) (hC : ∀ m d : Nat, (m : Int) < w 0 → d < 2 ^ T → gg_C w p φ u t x m d) : ∀ (N m : Nat), m < N → m ≤ L → ∀ d, d < 2 ^ T → ga_sub d x → ∀ (S : Nat → Nat) (b n : Nat), ga_arr φ (ga_l w) d 0 m S → b < 6 → ga_h d b = true → S b ≤ n → n < S b + ga_l w b → gk_O w n ≠ p → t (m * 64 + d) ≤ 64 * (ga_v (gk_c w (gk_O w) p) d S - w (31 + n)) + n
  | 0, _, h, _, _, _, _, _, _, _, _, _, _, _, _, _ => absurd h (Nat.not_lt_zero _)
  | N + 1, m, hN, hm, d, hd, hx, S, b, n, hS, hb, hdb, h1, h2, h3 => by
    have o0 := ok.1
    have o2 := ok.2.2.1
    have p2 := ga_2T T (by omega)
    have hl := gd_hl ok hT2 hd
    have hA := gd_ctx_m ok cx
    have bC : ∀ y S hi, ga_arr φ (ga_l w) y 0 hi S → 0 ≤ ga_v (gk_c w (gk_O w) p) y S ∧ ga_v (gk_c w (gk_O w) p) y S ≤ 6 * 81 := fun y S hi h => ga_v_b (B := 81) (by omega) h fun b m _ hb => (cx b m hb).2
    have sb := hS.1 b hb hdb
    have lb := hl b hb hdb
    have hn : n < 40 := by
      have k1 := (cx b (S b) sb.1).1
      have k2 : ga_l w b = (w (7 + b)).toNat := rfl
      have k3 := (ok.2.2.2.2.1 b k1.1).1
      omega
    have wn := ok.2.2.2.2.2.1 n hn
    cases m with
    | zero => omega
    | succ m =>
      rcases ga_last hl hS with h | ⟨c, hc, g1, g2, g3⟩
      · have ih := gg_comp ok cx hT2 hL mU hC N m (by omega) (by omega) d hd hx S b n h hb hdb h1 h2 h3
        exact Int.le_trans (hC m d (by omega) hd).1 ih
      · obtain ⟨i1, i2⟩ := ga_rm_ins d (by omega) c hc g1
        have l1 := hl c hc g1
        have hy := g3 _ i1
        have dlt : d - 2 ^ c < 2 ^ T := Nat.lt_of_le_of_lt (Nat.sub_le _ _) hd
        have sy : ga_sub (d - 2 ^ c) x := fun e he h => hx e he (ga_ins_x i1 he h).1
        have hAc := (hS.1 c hc g1).1
        have hcT := ga_h_lt T (by omega) d hd c hc g1
        have pc := (hC (S c) (d - 2 ^ c) (by omega) dlt).2 c (by omega) (hx c hc g1) i1.2.1 hAc
        have bY := bC _ S _ hy
        unfold gg_P at pc
        rw [g2, Nat.sub_add_cancel i2] at pc
        rw [ga_v_ins i1 S]
        by_cases e : b = c
        · subst e
          have mu := (mU (S b) (d - 2 ^ b) (by omega) dlt sy).2 S hy
          have r := ga_rw_b hy hA
          rw [ga_v_W hy] at mu
          have k1 := pc.2 (by omega) n h1 (by omega) h3
          have k2 : u (S b * 64 + (d - 2 ^ b)) / 68719476736 ≤ ga_v (gk_c w (gk_O w) p) (d - 2 ^ b) S := by omega
          omega
        · have hyb : ga_h (d - 2 ^ c) b = true := by rw [← i1.2.2.2 b hb e]; exact hdb
          have ih := gg_comp ok cx hT2 hL mU hC N (S c) (by omega) (by omega) (d - 2 ^ c) dlt sy S b n hy hb hyb h1 h2 h3
          have k1 := pc.1 (by omega)
          omega
theorem gg_table {μ : gx_M} {a x T L : Nat} {w : Nat → Int} {p : Int} {φ : Nat → Nat → Bool} {u : Nat → Int} (ok : gq_okS w) (cx : gd_ctx w φ (gk_c w (gk_O w) p)) (hp : -1 ≤ p ∧ p ≤ 4) (hT2 : w 2 = T) (hL : w 0 = L) (hx : x < 64) (hu : gg_U w p φ u) (mU : ∀ m d, m ≤ L → d < 2 ^ T → ga_sub d x → ga_min φ (ga_l w) (ga_W φ (gk_c w (gk_O w) p)) d 0 m 1152921504606846976 (u (m * 64 + d))) (hX : gg_X μ a w p φ u) (hx2 : x < 2 ^ T) : ∃ μ' t, f_X0_arrangeGiven a (gq_I p) (gq_I x) μ = some ((), μ') ∧ gc_tab μ' 78 t ∧ gg_T w p φ (gk_c w (gk_O w) p) t ∧ (∀ (S : Nat → Nat) (b n : Nat), ga_arr φ (ga_l w) x 0 L S → b < 6 → ga_h x b = true → S b ≤ n → n < S b + ga_l w b → gk_O w n ≠ p → t (L * 64 + x) ≤ 64 * (ga_v (gk_c w (gk_O w) p) x S - w (31 + n)) + n) ∧ (∀ y, y ≠ 78 → μ'.2 y = μ.2 y) ∧ μ'.1 = μ.1 := by
  have o0 := ok.1
  have o2 := ok.2.2.1
  obtain ⟨μ1, a1, a2, a3, a4⟩ := gc_fill 78 (gq_L 1152921504606846976) μ
  have hT : gg_T w p φ (gk_c w (gk_O w) p) (fun _ => 1152921504606846976) := ⟨fun j hj => ⟨by show (0 : Int) ≤ 1152921504606846976; omega, Int.le_refl _⟩, fun m d h1 h2 h3 => absurd (show (1152921504606846976 : Int) < 1152921504606846976 from h3) (by omega)⟩
  obtain ⟨μ', t', e1, e2, e3, e4, e5, e6, e7, e8⟩ := gg_outL (a := a) ok cx hp hT2 hx hu (k := fun (μ30 : gx_M) => some ((), μ30)) L 4000 0 μ1 _ (by omega) (by omega) (gg_X_w hX a3 a4) (fun j hj => a2 j hj) hT
  refine ⟨μ', t', ?_, e2, e3, fun S b n h1 h2 h3 h4 h5 h6 => gg_comp ok cx hT2 hL mU (fun m d k1 k2 => e6 m d (by omega) k1 k2) (L + 1) L (by omega) (Nat.le_refl _) x hx2 (fun c _ h => h) S b n h1 h2 h3 h4 h5 h6, fun y hy => (e7 y hy).trans (a3 y hy), e8.trans a4⟩
  unfold f_X0_arrangeGiven
  rw [gc_FL, a1, gq_bd]
  exact e1
