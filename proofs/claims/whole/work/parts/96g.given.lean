/-! gift: the class's table with one minute given -/
theorem gk_s_mem {f : Nat → Int} {m k : Nat} : ∀ {n : Nat}, (∀ j, m ≤ j → j < m + n → 0 ≤ f j) → 0 ≤ gk_s f m n ∧ (m ≤ k → k < m + n → f k ≤ gk_s f m n)
  | 0, _ => ⟨Int.le_refl 0, fun _ h => absurd h (by omega)⟩
  | n + 1, h => by
    obtain ⟨a, b⟩ := gk_s_mem (f := f) (m := m) (k := k) (n := n) fun j h1 h2 => h j h1 (by omega)
    have c := h (m + n) (by omega) (by omega)
    show 0 ≤ gk_s f m n + f (m + n) ∧ (_ → _ → _ ≤ gk_s f m n + f (m + n))
    refine ⟨by omega, fun h1 h2 => ?_⟩
    by_cases e : k = m + n
    · rw [e]; omega
    · have := b h1 (by omega)
      omega
theorem gk_c_ge {w O : Nat → Int} {p : Int} {b m n : Nat} (ok : gq_okS w) (hb : (b : Int) < w 2) (hm : (m : Int) + w (7 + b) ≤ 40) (h1 : m ≤ n) (h2 : n < m + ga_l w b) (hn : O n ≠ p) : w (31 + n) ≤ gk_c w O p b m := by
  have o := (ok.2.2.2.2.1 b hb).1
  have := (gk_s_mem (f := gk_f w O p) (m := m) (k := n) (n := ga_l w b) fun j g1 g2 => (gk_f_b ok (by unfold ga_l at g2; omega)).1).2 h1 h2
  have e : gk_f w O p n = w (31 + n) := if_neg hn
  rw [e] at this
  exact this
/-- the dearest minute of a run that isn't his, the first of them -/
def gg_D (w : Nat → Int) (p : Int) (m i : Nat) (D M : Int) : Prop := (D = -1 ∧ M = -1 ∧ ∀ n, m ≤ n → n < i → gk_O w n = p) ∨ ∃ k : Nat, D = k ∧ M = w (31 + k) ∧ m ≤ k ∧ k < i ∧ gk_O w k ≠ p ∧ ∀ n, m ≤ n → n < i → gk_O w n ≠ p → w (31 + n) < w (31 + k) ∨ (w (31 + n) = w (31 + k) ∧ k ≤ n)
theorem gg_dearL {μ : gx_M} {a b m : Nat} {w : Nat → Int} {p : Int} (ok : gq_okS w) (hc : gq_cS μ a w) (hb : (b : Int) < w 2) (hp : -1 ≤ p ∧ p ≤ 4) (hr : (m : Int) + w (7 + b) ≤ w 0) {k : Int32 → Option Int32} : ∀ (d f i : Nat) (D M : Int), d < f → (i : Int) + d = m + w (7 + b) → m ≤ i → gg_D w p m i D M → ∃ D' M', L_X0_dearestNotHis_9 (gq_I b) (gq_I m) μ a (gq_I p) k f (gq_I D) (gq_I M) (gq_I i) = k (gq_I D') ∧ gg_D w p m (m + ga_l w b) D' M'
  | _, 0, _, _, _, hf, _, _, _ => absurd hf (Nat.not_lt_zero _)
  | 0, f + 1, i, D, M, hf, hi, hmi, hD => by
    have o0 := ok.1
    have o2 := ok.2.2.1
    obtain ⟨l1, ⟨f1, f2, f3⟩, _⟩ := ok.2.2.2.2.1 b hb
    obtain ⟨h1, h2, h3, _⟩ := hc.2.2.2.2 b hb
    refine ⟨D, M, ?_, ?_⟩
    · rw [L_X0_dearestNotHis_9.eq_2]
      simp (disch := omega) only [Int.reduceToNat, gq_lit, gq_neg, gq_add, gq_sub, gq_mul, gq_nat, Int.toNat_natCast, gq_tadd, gq_tmul, gq_lte, gq_br, gq_bd, gq_ck, Bool.false_eq_true, gq_leT, gq_leF, gq_ltT, gq_ltF, gq_eqT, gq_eqF, if_true, if_false, h1]
    · rw [show m + ga_l w b = i by unfold ga_l; omega]
      exact hD
  | d + 1, f + 1, i, D, M, hf, hi, hmi, hD => by
    have o0 := ok.1
    have o1 := ok.2.1
    have o2 := ok.2.2.1
    obtain ⟨l1, ⟨f1, f2, f3⟩, _⟩ := ok.2.2.2.2.1 b hb
    obtain ⟨h1, h2, h3, _⟩ := hc.2.2.2.2 b hb
    have c2 := hc.2.2.1 i (by omega)
    have c3 := hc.2.2.2.1 i (by omega)
    have o5 := ok.2.2.2.2.2.1 i (by omega)
    have o6 := ok.2.2.2.2.2.2 i (by omega)
    have Mb : -1 ≤ M ∧ M ≤ 9 := by
      rcases hD with ⟨_, h, _⟩ | ⟨k, _, h, _, hk, _⟩
      · omega
      · have := ok.2.2.2.2.2.1 k (by omega)
        omega
    have keep : gg_D w p m (i + 1) D M → L_X0_dearestNotHis_9 (gq_I b) (gq_I m) μ a (gq_I p) k (f + 1) (gq_I D) (gq_I M) (gq_I i) = L_X0_dearestNotHis_9 (gq_I b) (gq_I m) μ a (gq_I p) k f (gq_I D) (gq_I M) (gq_I (i + 1 : Nat)) → ∃ D' M', L_X0_dearestNotHis_9 (gq_I b) (gq_I m) μ a (gq_I p) k (f + 1) (gq_I D) (gq_I M) (gq_I i) = k (gq_I D') ∧ gg_D w p m (m + ga_l w b) D' M' := fun hD' he => by
      obtain ⟨D', M', e1, e2⟩ := gg_dearL ok hc hb hp hr (k := k) d f (i + 1) D M (by omega) (by omega) (by omega) hD'
      exact ⟨D', M', he.trans e1, e2⟩
    by_cases g1 : w (71 + i) = p
    · refine keep ?_ ?_
      · rcases hD with ⟨k1, k2, k3⟩ | ⟨k, k1, k2, k3, k4, k5, k6⟩
        · refine Or.inl ⟨k1, k2, fun n n1 n2 => ?_⟩
          by_cases e : n = i
          · rw [e]; exact g1
          · exact k3 n n1 (by omega)
        · refine Or.inr ⟨k, k1, k2, k3, by omega, k5, fun n n1 n2 n3 => ?_⟩
          by_cases e : n = i
          · rw [e] at n3; exact absurd g1 n3
          · exact k6 n n1 (by omega) n3
      · rw [L_X0_dearestNotHis_9.eq_2, hc.1.1]
        simp (disch := omega) only [Int.reduceToNat, gq_lit, gq_neg, gq_add, gq_sub, gq_mul, gq_nat, Int.toNat_natCast, gq_tadd, gq_tmul, gq_lte, gq_br, gq_bd, gq_ck, Bool.false_eq_true, gq_leT, gq_leF, gq_ltT, gq_ltF, gq_eqT, gq_eqF, if_true, if_false, h1, c3]
        rfl
    · by_cases g2 : w (31 + i) ≤ M
      · refine keep ?_ ?_
        · rcases hD with ⟨k1, k2, k3⟩ | ⟨k, k1, k2, k3, k4, k5, k6⟩
          · omega
          · refine Or.inr ⟨k, k1, k2, k3, by omega, k5, fun n n1 n2 n3 => ?_⟩
            by_cases e : n = i
            · rw [e]; omega
            · exact k6 n n1 (by omega) n3
        · rw [L_X0_dearestNotHis_9.eq_2, hc.1.1]
          simp (disch := omega) only [Int.reduceToNat, gq_lit, gq_neg, gq_add, gq_sub, gq_mul, gq_nat, Int.toNat_natCast, gq_tadd, gq_tmul, gq_lte, gq_br, gq_bd, gq_ck, Bool.false_eq_true, gq_leT, gq_leF, gq_ltT, gq_ltF, gq_eqT, gq_eqF, if_true, if_false, h1, c2, c3]
          rfl
      · have hD' : gg_D w p m (i + 1) i (w (31 + i)) := by
          refine Or.inr ⟨i, rfl, rfl, hmi, by omega, g1, fun n n1 n2 n3 => ?_⟩
          by_cases e : n = i
          · rw [e]; exact Or.inr ⟨rfl, Nat.le_refl _⟩
          · rcases hD with ⟨k1, k2, k3⟩ | ⟨k, k1, k2, k3, k4, k5, k6⟩
            · exact absurd (k3 n n1 (by omega)) n3
            · have := k6 n n1 (by omega) n3
              omega
        obtain ⟨D', M', e1, e2⟩ := gg_dearL ok hc hb hp hr (k := k) d f (i + 1) i (w (31 + i)) (by omega) (by omega) (by omega) hD'
        refine ⟨D', M', ?_, e2⟩
        rw [← e1, L_X0_dearestNotHis_9.eq_2, hc.1.1]
        simp (disch := omega) only [Int.reduceToNat, gq_lit, gq_neg, gq_add, gq_sub, gq_mul, gq_nat, Int.toNat_natCast, gq_tadd, gq_tmul, gq_lte, gq_br, gq_bd, gq_ck, Bool.false_eq_true, gq_leT, gq_leF, gq_ltT, gq_ltF, gq_eqT, gq_eqF, if_true, if_false, h1, c2, c3]
        rfl
theorem gg_dear {μ : gx_M} {a b m : Nat} {w : Nat → Int} {p : Int} (ok : gq_okS w) (hc : gq_cS μ a w) (hb : (b : Int) < w 2) (hp : -1 ≤ p ∧ p ≤ 4) (hr : (m : Int) + w (7 + b) ≤ w 0) : ∃ D M, f_X0_dearestNotHis a (gq_I p) (gq_I b) (gq_I m) μ = some (gq_I D) ∧ gg_D w p m (m + ga_l w b) D M := by
  have l1 := (ok.2.2.2.2.1 b hb).1
  obtain ⟨D, M, e1, e2⟩ := gg_dearL ok hc hb hp hr (k := fun (x4_16 : Int32) => some x4_16) (w (7 + b)).toNat 4000 m (-1) (-1) (by omega) (by omega) (Nat.le_refl _) (Or.inl ⟨rfl, rfl, fun n h1 h2 => absurd h2 (by omega)⟩)
  refine ⟨D, M, ?_, e2⟩
  unfold f_X0_dearestNotHis
  simp only [gq_lit, gq_neg]
  exact e1
/-- the table speaks of arrangements with a minute given alone -/
def gg_T (w : Nat → Int) (p : Int) (φ : Nat → Nat → Bool) (c : Nat → Nat → Int) (t : Nat → Int) : Prop := (∀ j, j < 2624 → 0 ≤ t j ∧ t j ≤ 1152921504606846976) ∧ ∀ m d, m ≤ 40 → d < 64 → t (m * 64 + d) < 1152921504606846976 → ∃ (S : Nat → Nat) (b n : Nat), ga_arr φ (ga_l w) d 0 m S ∧ b < 6 ∧ ga_h d b = true ∧ S b ≤ n ∧ n < S b + ga_l w b ∧ gk_O w n ≠ p ∧ 64 * (ga_v c d S - w (31 + n)) + n = t (m * 64 + d)
theorem gg_T_lo {w : Nat → Int} {p : Int} {φ : Nat → Nat → Bool} {c : Nat → Nat → Int} {t : Nat → Int} {m d : Nat} {v : Int} (h : gg_T w p φ c t) (hm : m ≤ 40) (hd : d < 64) (hv : 0 ≤ v) (hS : v < 1152921504606846976 → ∃ (S : Nat → Nat) (b n : Nat), ga_arr φ (ga_l w) d 0 m S ∧ b < 6 ∧ ga_h d b = true ∧ S b ≤ n ∧ n < S b + ga_l w b ∧ gk_O w n ≠ p ∧ 64 * (ga_v c d S - w (31 + n)) + n = v) : gg_T w p φ c (gc_lo t (m * 64 + d) v) := by
  refine ⟨fun j hj => ?_, fun m2 d2 h1 h2 h3 => ?_⟩
  · have a := h.1 j hj
    have b := gc_lo_le t (m * 64 + d) v j
    rcases gc_lo_or t (m * 64 + d) v j with c | ⟨c1, c2, c3⟩
    · rw [c]; exact a
    · rw [c3] at b ⊢
      omega
  · rcases gc_lo_or t (m * 64 + d) v (m2 * 64 + d2) with c | ⟨c1, c2, c3⟩
    · rw [c] at h3 ⊢
      exact h.2 m2 d2 h1 h2 h3
    · rw [c3] at h3 ⊢
      have e1 : m2 = m := by omega
      have e2 : d2 = d := by omega
      rw [e1, e2]
      exact hS h3
/-- what one business pushes on -/
def gg_P (w : Nat → Int) (p : Int) (c : Nat → Nat → Int) (u t : Nat → Int) (s : Int) (m d b : Nat) : Prop := (s < 1152921504606846976 → t ((m + ga_l w b) * 64 + (d + 2 ^ b)) ≤ s + 64 * c b m) ∧ (u (m * 64 + d) < 1152921504606846976 → ∀ n, m ≤ n → n < m + ga_l w b → gk_O w n ≠ p → t ((m + ga_l w b) * 64 + (d + 2 ^ b)) ≤ 64 * (u (m * 64 + d) / 68719476736 + c b m - w (31 + n)) + n)
theorem gg_P_w {w : Nat → Int} {p : Int} {c : Nat → Nat → Int} {u t t' : Nat → Int} {s : Int} {m d b : Nat} (h : gg_P w p c u t s m d b) (h1 : ∀ j, t' j ≤ t j) : gg_P w p c u t' s m d b :=
  ⟨fun g => Int.le_trans (h1 _) (h.1 g), fun g n n1 n2 n3 => Int.le_trans (h1 _) (h.2 g n n1 n2 n3)⟩
theorem gg_giveIn {μ : gx_M} {a b m d : Nat} {w : Nat → Int} {p : Int} {φ : Nat → Nat → Bool} {u t : Nat → Int} (ok : gq_okS w) (hc : gq_cS μ a w) (cx : gd_ctx w φ (gk_c w (gk_O w) p)) (hwt : gc_Wt μ w (ga_W φ (gk_c w (gk_O w) p))) (hp : -1 ≤ p ∧ p ≤ 4) (hd : d < 64) (hdb : ga_h d b = false) (hA : φ b m = true) (hu : gc_tab μ 77 u) (ub : ∀ j, j < 2624 → 0 ≤ u j ∧ u j ≤ 1152921504606846976) (us : ∀ m d, m ≤ 40 → d < 64 → u (m * 64 + d) < 1152921504606846976 → ∃ S, ga_arr φ (ga_l w) d 0 m S ∧ ga_v (ga_W φ (gk_c w (gk_O w) p)) d S = u (m * 64 + d)) (ht : gc_tab μ 78 t) (hT : gg_T w p φ (gk_c w (gk_O w) p) t) : ∃ μ' t', f_X0_giveIn a (gq_I p) (gq_I m) (gq_I d) (gq_I b) μ = some ((), μ') ∧ gc_tab μ' 78 t' ∧ gg_T w p φ (gk_c w (gk_O w) p) t' ∧ (∀ j, t' j ≤ t j) ∧ (∀ j, j < (m + 1) * 64 → t' j = t j) ∧ gg_P w p (gk_c w (gk_O w) p) u t' (t (m * 64 + d)) m d b ∧ (∀ y, y ≠ 78 → μ'.2 y = μ.2 y) ∧ μ'.1 = μ.1 := by
  have o0 := ok.1
  have o2 := ok.2.2.1
  obtain ⟨⟨hb, hr⟩, c1, c2⟩ := cx b m hA
  have hm := gd_ctx_m ok cx b m hA
  obtain ⟨q1, q2, _⟩ := ga_q_b b (by omega)
  have l1 := (ok.2.2.2.2.1 b hb).1
  have lb : 1 ≤ ga_l w b ∧ ga_l w b ≤ 9 ∧ m + ga_l w b ≤ 40 := by unfold ga_l; omega
  obtain ⟨C, hC⟩ : ∃ C, C = gk_c w (gk_O w) p b m := ⟨_, rfl⟩
  have p1 : 0 ≤ (m : Int) * ga_q b := Int.mul_nonneg (by omega) (by omega)
  have p2 : (m : Int) * ga_q b ≤ 39 * 1073741824 := Int.mul_le_mul (by omega) q2 (by omega) (by omega)
  have eW : μ.2 76 (b * 40 + m) = gq_L (C * 68719476736 + m * ga_q b) := by
    rw [hwt b m hb (by omega), hC]
    exact congrArg gq_L (if_pos hA)
  obtain ⟨i1, i2⟩ := ga_ad_ins d hd b (by omega) hdb
  obtain ⟨q, hq⟩ : ∃ q : Nat, q = d + 2 ^ b := ⟨_, rfl⟩
  rw [← hq] at i1 i2
  have ebh := gc_behind (m := m) ok hc hb hd hdb
  rw [← hq] at ebh
  have eu := hu (m * 64 + d) (by omega)
  have ubi := ub (m * 64 + d) (by omega)
  have et := ht (m * 64 + d) (by omega)
  have tb := hT.1 (m * 64 + d) (by omega)
  obtain ⟨D, M, e1, e2⟩ := gg_dear ok hc hb hp hr
  -- the first half
  have half1 : ∃ μ1 t1, (if gq_L 1152921504606846976 ≤ gq_L (t (m * 64 + d)) then μ1 = μ else f_X0_lower 78 2624 (gq_I ((m + ga_l w b) * 64 + q : Nat)) (gq_L (t (m * 64 + d) + C * 64)) μ = some ((), μ1)) ∧ gc_tab μ1 78 t1 ∧ gg_T w p φ (gk_c w (gk_O w) p) t1 ∧ (∀ j, t1 j ≤ t j) ∧ (∀ j, j < (m + 1) * 64 → t1 j = t j) ∧ (t (m * 64 + d) < 1152921504606846976 → t1 ((m + ga_l w b) * 64 + q) ≤ t (m * 64 + d) + 64 * C) ∧ (∀ y, y ≠ 78 → μ1.2 y = μ.2 y) ∧ μ1.1 = μ.1 := by
    by_cases g : t (m * 64 + d) < 1152921504606846976
    · obtain ⟨μ1, b1, b2, b3, b4⟩ := gc_lower (μ := μ) (a := 78) (i := (m + ga_l w b) * 64 + q) (v := t (m * 64 + d) + C * 64) (by omega) ht (hT.1 _ (by omega)) (by omega)
      refine ⟨μ1, _, ?_, b2, gg_T_lo hT (by omega) i2 (by omega) (fun _ => ?_), gc_lo_le _ _ _, fun j hj => gc_lo_n (by omega), fun _ => ?_, b3, b4⟩
      · rw [if_neg (by rw [gq_Lle (by omega)]; omega)]
        exact b1
      · obtain ⟨S, b0, n, s1, s2, s3, s4, s5, s6, s7⟩ := hT.2 m d (by omega) hd g
        obtain ⟨x1, x2⟩ := ga_ins_x i1 s2 s3
        refine ⟨ga_up S b m, b0, n, ga_put i1 hA (Nat.zero_le _) s1, s2, x1, ?_, ?_, s6, ?_⟩
        · rw [ga_up_c x2]; exact s4
        · rw [ga_up_c x2]; exact s5
        · rw [ga_v_up i1, ← s7, hC]
          omega
      · have := gc_lo_i t ((m + ga_l w b) * 64 + q) (t (m * 64 + d) + C * 64)
        omega
    · refine ⟨μ, t, ?_, ht, hT, fun _ => Int.le_refl _, fun _ _ => rfl, fun h => absurd h g, fun _ _ => rfl, rfl⟩
      rw [if_pos (by rw [gq_Lle (by omega)]; omega)]
  obtain ⟨μ1, t1, x0, x1, x2, x3, x4, x5, x6, x7⟩ := half1
  have hc1 := gq_cS_1 hc x7
  have eu1 : μ1.2 77 (m * 64 + d) = gq_L (u (m * 64 + d)) := by rw [x6 77 (by omega)]; exact eu
  obtain ⟨D', M', e1', e2'⟩ := gg_dear ok hc1 hb hp hr
  have ebh1 := gc_behind (m := m) ok hc1 hb hd hdb
  rw [← hq] at ebh1
  have hlen : ga_l w b = ga_l w b := rfl
  -- up to the second half
  have step : ∀ R, (gx_lt (μ1.2 77 (m * 64 + d)) (fun (x11 : Int64) => gx_br (f_X0_dearestNotHis a (gq_I p) (gq_I b) (gq_I m) μ1) (fun (r12 : Int32) => if gq_L 1152921504606846976 ≤ x11 then some ((), μ1) else if r12 = gq_I (-1) then some ((), μ1) else gx_ck (gx_ix r12 40 = true) (gx_lt (((x11 >>> (gq_L 36 &&& gq_L 63)) + gq_L C) - (((μ1.1 (a + 2) r12.toNatClampNeg) : Int32).toInt64)) (fun (x16 : Int64) => gx_br (f_X0_behind a (gq_I m) (gq_I d) (gq_I b) μ1) (fun (r17 : Int32) => gx_bd (f_X0_lower 78 2624 r17 ((x16 <<< (gq_L 6 &&& gq_L 63)) + ((r12 : Int32).toInt64)) μ1) (fun (r18 : Unit) (μ19 : gx_M) => some ((), μ19)))))))) = R → f_X0_giveIn a (gq_I p) (gq_I m) (gq_I d) (gq_I b) μ = R := fun R hR => by
    rw [← hR]
    unfold f_X0_giveIn
    simp (disch := omega) only [Int.reduceToNat, gq_lit, gq_neg, gq_add, gq_sub, gq_mul, gq_nat, Int.toNat_natCast, gq_tadd, gq_tmul, gq_lte, gq_br, gq_bd, gq_ck, gq_Llit, gq_toL, eW, et, gm_shr36, gm_shl6, gq_Ladd]
    rw [show (C * 68719476736 + (m : Int) * ga_q b) / 68719476736 = C by omega]
    by_cases g : t (m * 64 + d) < 1152921504606846976
    · have ng : ¬ gq_L 1152921504606846976 ≤ gq_L (t (m * 64 + d)) := by rw [gq_Lle (by omega)]; omega
      rw [if_neg ng] at x0
      rw [if_neg ng, ebh, gq_br, x0, gq_bd]
    · have pg : gq_L 1152921504606846976 ≤ gq_L (t (m * 64 + d)) := by rw [gq_Lle (by omega)]; omega
      rw [if_pos pg] at x0
      rw [if_pos pg, x0]
  have old : ∀ μ2 t2, (∀ j, t2 j ≤ t1 j) → (∀ j, j < (m + 1) * 64 → t2 j = t1 j) → gc_tab μ2 78 t2 → gg_T w p φ (gk_c w (gk_O w) p) t2 → (u (m * 64 + d) < 1152921504606846976 → ∀ n, m ≤ n → n < m + ga_l w b → gk_O w n ≠ p → t2 ((m + ga_l w b) * 64 + q) ≤ 64 * (u (m * 64 + d) / 68719476736 + C - w (31 + n)) + n) → (∀ y, y ≠ 78 → μ2.2 y = μ1.2 y) → μ2.1 = μ1.1 → f_X0_giveIn a (gq_I p) (gq_I m) (gq_I d) (gq_I b) μ = some ((), μ2) → ∃ μ' t', f_X0_giveIn a (gq_I p) (gq_I m) (gq_I d) (gq_I b) μ = some ((), μ') ∧ gc_tab μ' 78 t' ∧ gg_T w p φ (gk_c w (gk_O w) p) t' ∧ (∀ j, t' j ≤ t j) ∧ (∀ j, j < (m + 1) * 64 → t' j = t j) ∧ gg_P w p (gk_c w (gk_O w) p) u t' (t (m * 64 + d)) m d b ∧ (∀ y, y ≠ 78 → μ'.2 y = μ.2 y) ∧ μ'.1 = μ.1 := fun μ2 t2 z1 z2 z3 z4 z5 z6 z7 z8 => by
    refine ⟨μ2, t2, z8, z3, z4, fun j => Int.le_trans (z1 j) (x3 j), fun j hj => (z2 j hj).trans (x4 j hj), ?_, fun y hy => (z6 y hy).trans (x6 y hy), z7.trans x7⟩
    unfold gg_P
    rw [← hq, ← hC]
    exact ⟨fun g => Int.le_trans (z1 _) (x5 g), z5⟩
  by_cases g : u (m * 64 + d) < 1152921504606846976
  · rcases e2' with ⟨k1, k2, k3⟩ | ⟨k, k1, k2, k3, k4, k5, k6⟩
    · refine old μ1 t1 (fun _ => Int.le_refl _) (fun _ _ => rfl) x1 x2 (fun _ n n1 n2 n3 => absurd (k3 n n1 n2) n3) (fun _ _ => rfl) rfl (step _ ?_)
      rw [eu1, gq_lte, e1', gq_br, if_neg (by rw [gq_Lle (by omega)]; omega), if_pos (by rw [k1])]
    · have ge := gk_c_ge (O := gk_O w) (p := p) ok hb (m := m) (n := k) (by omega) k3 k4 k5
      rw [← hC] at ge
      have pk := ok.2.2.2.2.2.1 k (by omega)
      have c2k := hc1.2.2.1 k (by omega)
      have ud : 0 ≤ u (m * 64 + d) / 68719476736 ∧ u (m * 64 + d) / 68719476736 ≤ 16777216 := by omega
      obtain ⟨v, hv⟩ : ∃ v, v = (u (m * 64 + d) / 68719476736 + C - w (31 + k)) * 64 + k := ⟨_, rfl⟩
      obtain ⟨μ2, b1, b2, b3, b4⟩ := gc_lower (μ := μ1) (a := 78) (i := (m + ga_l w b) * 64 + q) (v := v) (by omega) x1 (x2.1 _ (by omega)) (by omega)
      refine old μ2 _ (gc_lo_le _ _ _) (fun j hj => gc_lo_n (by omega)) b2 (gg_T_lo x2 (by omega) i2 (by omega) (fun _ => ?_)) (fun _ n n1 n2 n3 => ?_) b3 b4 (step _ ?_)
      · obtain ⟨S, s1, s2⟩ := us m d (by omega) hd g
        have r := ga_rw_b s1 (gd_ctx_m ok cx)
        have vw := ga_v_W (c := gk_c w (gk_O w) p) s1
        rw [s2] at vw
        refine ⟨ga_up S b m, b, k, ga_put i1 hA (Nat.zero_le _) s1, by omega, i1.2.2.1, ?_, ?_, k5, ?_⟩
        · rw [ga_up_b]; exact k3
        · rw [ga_up_b]; exact k4
        · rw [ga_v_up i1, ← hC, hv]
          omega
      · have k7 := k6 n n1 n2 n3
        have k8 := gc_lo_i t1 ((m + ga_l w b) * 64 + q) v
        omega
      · rw [eu1, gq_lte, e1', gq_br, k1, if_neg (by rw [gq_Lle (by omega)]; omega), if_neg (by rw [gq_eq (by omega)]; omega), gq_ck (by omega), gq_nat (by omega), Int.toNat_natCast, c2k, gm_shr36 (by omega), gq_Ladd, gq_toL (by omega), gq_toL (by omega), gq_Lsub, gq_lte, ebh1, gq_br, gm_shl6 (by omega), gq_Ladd, ← hv, b1, gq_bd]
  · refine old μ1 t1 (fun _ => Int.le_refl _) (fun _ _ => rfl) x1 x2 (fun h => absurd h g) (fun _ _ => rfl) rfl (step _ ?_)
    rw [eu1, gq_lte, e1', gq_br, if_pos (by rw [gq_Lle (by omega)]; omega)]
