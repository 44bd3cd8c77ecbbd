/-! the class weighs the runs -/
def gk_s (f : Nat → Int) (m : Nat) : Nat → Int
  | 0 => 0
  | n + 1 => gk_s f m n + f (m + n)
theorem gk_s_b {f : Nat → Int} {m : Nat} : ∀ {n : Nat}, (∀ k, m ≤ k → k < m + n → 0 ≤ f k ∧ f k ≤ 9) → 0 ≤ gk_s f m n ∧ gk_s f m n ≤ 9 * n
  | 0, _ => ⟨Int.le_refl 0, Int.le_refl 0⟩
  | n + 1, h => by
    obtain ⟨a, b⟩ := gk_s_b (f := f) (m := m) (n := n) fun k h1 h2 => h k h1 (by omega)
    have c := h (m + n) (by omega) (by omega)
    show 0 ≤ gk_s f m n + f (m + n) ∧ gk_s f m n + f (m + n) ≤ _
    omega
theorem gk_s_ext {f g : Nat → Int} {m : Nat} : ∀ {n : Nat}, (∀ k, m ≤ k → k < m + n → f k = g k) → gk_s f m n = gk_s g m n
  | 0, _ => rfl
  | n + 1, h => by
    show gk_s f m n + f (m + n) = gk_s g m n + g (m + n)
    rw [gk_s_ext (n := n) fun k h1 h2 => h k h1 (by omega), h (m + n) (by omega) (by omega)]
/-- what a minute costs one, a run -/
def gk_f (w O : Nat → Int) (p : Int) (k : Nat) : Int := if O k = p then 0 else w (31 + k)
def gk_c (w O : Nat → Int) (p : Int) (b m : Nat) : Int := gk_s (gk_f w O p) m (w (7 + b)).toNat
theorem gk_f_b {w O : Nat → Int} {p : Int} {k : Nat} (ok : gq_okS w) (hk : k < 40) : 0 ≤ gk_f w O p k ∧ gk_f w O p k ≤ 9 := by
  have := ok.2.2.2.2.2.1 k hk
  unfold gk_f
  split <;> omega
theorem gk_c_b {w O : Nat → Int} {p : Int} {b m : Nat} (ok : gq_okS w) (hb : (b : Int) < w 2) (hm : (m : Int) + w (7 + b) ≤ 40) : 0 ≤ gk_c w O p b m ∧ gk_c w O p b m ≤ 81 := by
  have o := (ok.2.2.2.2.1 b hb).1
  have := gk_s_b (f := gk_f w O p) (m := m) (n := (w (7 + b)).toNat) fun k h1 h2 => gk_f_b ok (by omega)
  unfold gk_c
  omega
/-- who has a minute of a street as told -/
abbrev gk_O (w : Nat → Int) : Nat → Int := fun m => w (71 + m)
theorem gk_costL {μ : gx_M} {a b m : Nat} {w : Nat → Int} {p : Int} (ok : gq_okS w) (hc : gq_cS μ a w) (hb : (b : Int) < w 2) (hp : -1 ≤ p ∧ p ≤ 4) (hr : (m : Int) + w (7 + b) ≤ w 0) {k : Int32 → Option Int32} : ∀ (d f i : Nat), d < f → (i : Int) + d = w (7 + b) → L_X5_costOfRun_6 (gq_I b) (gq_I m) μ a (gq_I p) k f (gq_I (gk_s (gk_f w (gk_O w) p) m i)) (gq_I (m + i : Nat)) = k (gq_I (gk_c w (gk_O w) p b m))
  | _, 0, _, hf, _ => absurd hf (Nat.not_lt_zero _)
  | 0, f + 1, i, hf, hi => by
    have o0 := ok.1
    have o2 := ok.2.2.1
    obtain ⟨l1, ⟨f1, f2, f3⟩, _⟩ := ok.2.2.2.2.1 b hb
    obtain ⟨h1, h2, h3, _⟩ := hc.2.2.2.2 b hb
    have e : i = (w (7 + b)).toNat := by omega
    subst e
    rw [L_X5_costOfRun_6.eq_2]
    simp (disch := omega) only [Int.reduceToNat, gq_lit, gq_neg, gq_add, gq_sub, gq_mul, gq_nat, Int.toNat_natCast, gq_tadd, gq_tmul, gq_lte, gq_br, gq_bd, gq_ck, Bool.false_eq_true, gq_leT, gq_leF, gq_ltT, gq_ltF, gq_eqT, gq_eqF, if_true, if_false, h1]
    rfl
  | d + 1, f + 1, i, hf, hi => by
    have o0 := ok.1
    have o2 := ok.2.2.1
    have o1 := ok.2.1
    obtain ⟨l1, ⟨f1, f2, f3⟩, _⟩ := ok.2.2.2.2.1 b hb
    obtain ⟨h1, h2, h3, _⟩ := hc.2.2.2.2 b hb
    have c2 := hc.2.2.1 (m + i) (by omega)
    have c3 := hc.2.2.2.1 (m + i) (by omega)
    have o6 := ok.2.2.2.2.2.2 (m + i) (by omega)
    rw [← gk_costL ok hc hb hp hr (k := k) d f (i + 1) (by omega) (by omega), L_X5_costOfRun_6.eq_2, hc.1.1]
    have es : gk_s (gk_f w (gk_O w) p) m (i + 1) = gk_s (gk_f w (gk_O w) p) m i + (if w (71 + (m + i)) = p then 0 else w (31 + (m + i))) := rfl
    rw [es]
    by_cases g : w (71 + (m + i)) = p
    · rw [if_pos g, Int.add_zero]
      simp (disch := omega) only [Int.reduceToNat, gq_lit, gq_neg, gq_add, gq_sub, gq_mul, gq_nat, Int.toNat_natCast, gq_tadd, gq_tmul, gq_lte, gq_br, gq_bd, gq_ck, Bool.false_eq_true, gq_leT, gq_leF, gq_ltT, gq_ltF, gq_eqT, gq_eqF, if_true, if_false, h1, c2, c3]
      rfl
    · rw [if_neg g]
      simp (disch := omega) only [Int.reduceToNat, gq_lit, gq_neg, gq_add, gq_sub, gq_mul, gq_nat, Int.toNat_natCast, gq_tadd, gq_tmul, gq_lte, gq_br, gq_bd, gq_ck, Bool.false_eq_true, gq_leT, gq_leF, gq_ltT, gq_ltF, gq_eqT, gq_eqF, if_true, if_false, h1, c2, c3]
      rfl
theorem gk_cost {μ : gx_M} {a b m : Nat} {w : Nat → Int} {p : Int} (ok : gq_okS w) (hc : gq_cS μ a w) (hb : (b : Int) < w 2) (hp : -1 ≤ p ∧ p ≤ 4) (hr : (m : Int) + w (7 + b) ≤ w 0) : f_X5_costOfRun a (gq_I p) (gq_I b) (gq_I m) μ = some (gq_I (gk_c w (gk_O w) p b m)) := by
  have l1 := (ok.2.2.2.2.1 b hb).1
  have := gk_costL ok hc hb hp hr (k := fun (x4_13 : Int32) => some x4_13) (w (7 + b)).toNat 4000 0 (by omega) (by omega)
  unfold f_X5_costOfRun
  simp only [gq_lit]
  exact this
/-- a weight: the cost, below it the first minute in its place -/
def ga_W (φ : Nat → Nat → Bool) (c : Nat → Nat → Int) (b m : Nat) : Int := if φ b m = true then c b m * 68719476736 + m * ga_q b else 1152921504606846976
theorem gq_cS_1 {μ ν : gx_M} {a : Nat} {w : Nat → Int} (h : gq_cS μ a w) (e : ν.1 = μ.1) : gq_cS ν a w := gq_cS_sm h fun i _ => by rw [e]
theorem gc_weighL {a b : Nat} {w : Nat → Int} {p : Int} {x : Int64} {φ : Nat → Nat → Bool} (ok : gq_okS w) (hb : (b : Int) < w 2) (hp : -1 ≤ p ∧ p ≤ 4) (hφ : ∀ m, m < 40 → (φ b m = true ↔ gk_in w x b m)) {k : gx_M → Option (Unit × gx_M)} : ∀ (d f i : Nat) (μ : gx_M), d < f → (i : Int) + d = w 0 → gq_cS μ a w → ∃ μ', L_X0_weighRuns_15 a (gq_I b) x (gq_I p) k f (gq_I i) μ = k μ' ∧ (∀ j : Nat, i ≤ j → (j : Int) < w 0 → μ'.2 76 (b * 40 + j) = gq_L (ga_W φ (gk_c w (gk_O w) p) b j)) ∧ (∀ y j, ¬ (y = 76 ∧ b * 40 + i ≤ j ∧ j < b * 40 + 40) → μ'.2 y j = μ.2 y j) ∧ μ'.1 = μ.1
  | _, 0, _, _, hf, _, _ => absurd hf (Nat.not_lt_zero _)
  | 0, f + 1, i, μ, hf, hi, hc => by
    have o0 := ok.1
    refine ⟨μ, ?_, fun j h1 h2 => absurd h2 (by omega), fun _ _ _ => rfl, rfl⟩
    rw [L_X0_weighRuns_15.eq_2, hc.1.1]
    simp (disch := omega) only [Int.reduceToNat, gq_lit, gq_neg, gq_add, gq_sub, gq_mul, gq_nat, Int.toNat_natCast, gq_tadd, gq_tmul, gq_lte, gq_br, gq_bd, gq_ck, Bool.false_eq_true, gq_leT, gq_leF, gq_ltT, gq_ltF, gq_eqT, gq_eqF, if_true, if_false]
  | d + 1, f + 1, i, μ, hf, hi, hc => by
    have o0 := ok.1
    have o2 := ok.2.2.1
    obtain ⟨l1, ⟨f1, f2, f3⟩, _⟩ := ok.2.2.2.2.1 b hb
    obtain ⟨r, r1, r2⟩ := gq_goesIn (x := x) ok hc hb (m := i) (by omega)
    have hr := hφ i (by omega)
    obtain ⟨μ', e1, e2, e3, e4⟩ := gc_weighL ok hb hp hφ (k := k) d f (i + 1) (gx_uL μ 76 (b * 40 + i) (gq_L (ga_W φ (gk_c w (gk_O w) p) b i))) (by omega) (by omega) (gq_cS_1 hc rfl)
    refine ⟨μ', ?_, fun j h1 h2 => ?_, fun y j h1 => ?_, e4⟩
    · rw [← e1, L_X0_weighRuns_15.eq_2, hc.1.1]
      cases r with
      | true =>
        have g := r2.mp rfl
        have lt := gk_lt ok hb g.1
        have cb := gk_c_b (O := gk_O w) (p := p) ok hb (m := i) (by omega)
        have ec := gk_cost ok hc hb hp lt
        have eW : ga_W φ (gk_c w (gk_O w) p) b i = gk_c w (gk_O w) p b i * 68719476736 + i * ga_q b := if_pos (hr.mpr g)
        rw [eW]
        simp (disch := omega) only [Int.reduceToNat, gq_lit, gq_neg, gq_add, gq_sub, gq_mul, gq_nat, Int.toNat_natCast, gq_tadd, gq_tmul, gq_lte, gq_br, gq_bd, gq_ck, Bool.false_eq_true, gq_leT, gq_leF, gq_ltT, gq_ltF, gq_eqT, gq_eqF, if_true, if_false, r1, ec, gq_toL, gq_Llit, gm_shl36, gm_rowL, gq_Ladd]
        rfl
      | false =>
        have g : ¬ gk_in w x b i := fun c => absurd (r2.mpr c) (by decide)
        have eW : ga_W φ (gk_c w (gk_O w) p) b i = 1152921504606846976 := if_neg fun c => g (hr.mp c)
        rw [eW]
        simp (disch := omega) only [Int.reduceToNat, gq_lit, gq_neg, gq_add, gq_sub, gq_mul, gq_nat, Int.toNat_natCast, gq_tadd, gq_tmul, gq_lte, gq_br, gq_bd, gq_ck, Bool.false_eq_true, gq_leT, gq_leF, gq_ltT, gq_ltF, gq_eqT, gq_eqF, if_true, if_false, r1, gq_Llit]
        rfl
    · by_cases e : j = i
      · subst e
        rw [e3 76 _ (by omega), gq_uL2, if_pos ⟨rfl, rfl⟩]
      · exact e2 j (by omega) h2
    · rw [e3 y j (by omega), gq_uL2, if_neg (by omega)]
theorem gc_weighL2 {a : Nat} {w : Nat → Int} {p : Int} {x : Int64} {φ : Nat → Nat → Bool} (ok : gq_okS w) (hp : -1 ≤ p ∧ p ≤ 4) (hφ : ∀ b : Nat, (b : Int) < w 2 → ∀ m, m < 40 → (φ b m = true ↔ gk_in w x b m)) {k : gx_M → Option (Unit × gx_M)} : ∀ (d f i : Nat) (μ : gx_M), d < f → (i : Int) + d = w 2 → gq_cS μ a w → ∃ μ', L_X0_weighRuns_3 a x (gq_I p) k f (gq_I i) μ = k μ' ∧ (∀ b j : Nat, i ≤ b → (b : Int) < w 2 → (j : Int) < w 0 → μ'.2 76 (b * 40 + j) = gq_L (ga_W φ (gk_c w (gk_O w) p) b j)) ∧ (∀ y j, ¬ (y = 76 ∧ i * 40 ≤ j) → μ'.2 y j = μ.2 y j) ∧ μ'.1 = μ.1
  | _, 0, _, _, hf, _, _ => absurd hf (Nat.not_lt_zero _)
  | 0, f + 1, i, μ, hf, hi, hc => by
    have o2 := ok.2.2.1
    refine ⟨μ, ?_, fun b j h1 h2 => absurd h2 (by omega), fun _ _ _ => rfl, rfl⟩
    rw [L_X0_weighRuns_3.eq_2, hc.1.2.2]
    simp (disch := omega) only [Int.reduceToNat, gq_lit, gq_neg, gq_add, gq_sub, gq_mul, gq_nat, Int.toNat_natCast, gq_tadd, gq_tmul, gq_lte, gq_br, gq_bd, gq_ck, Bool.false_eq_true, gq_leT, gq_leF, gq_ltT, gq_ltF, gq_eqT, gq_eqF, if_true, if_false]
  | d + 1, f + 1, i, μ, hf, hi, hc => by
    have o0 := ok.1
    have o2 := ok.2.2.1
    have hb : (i : Int) < w 2 := by omega
    obtain ⟨μ1, a1, a2, a3, a4⟩ := gc_weighL (a := a) ok hb hp (hφ i hb) (k := fun (μ20 : gx_M) => L_X0_weighRuns_3 a x (gq_I p) k f (gq_I i + 1) μ20) (w 0).toNat 4000 0 μ (by omega) (by omega) hc
    obtain ⟨μ', e1, e2, e3, e4⟩ := gc_weighL2 ok hp hφ (k := k) d f (i + 1) μ1 (by omega) (by omega) (gq_cS_1 hc a4)
    refine ⟨μ', ?_, fun b j h1 h2 h3 => ?_, fun y j h1 => ?_, e4.trans a4⟩
    · rw [← e1, L_X0_weighRuns_3.eq_2, hc.1.2.2]
      refine (if_neg (by rw [gq_le (by omega)]; omega)).trans ?_
      refine a1.trans ?_
      rw [gq_suc]
    · by_cases e : b = i
      · subst e
        rw [e3 76 _ (by omega)]
        exact a2 j (by omega) h3
      · exact e2 b j (by omega) h2 h3
    · rw [e3 y j (by omega), a3 y j (by omega)]
/-- what the row of weights holds -/
def gc_Wt (μ : gx_M) (w : Nat → Int) (W : Nat → Nat → Int) : Prop := ∀ b j : Nat, (b : Int) < w 2 → (j : Int) < w 0 → μ.2 76 (b * 40 + j) = gq_L (W b j)
theorem gc_weigh {μ : gx_M} {a : Nat} {w : Nat → Int} {p : Int} {x : Int64} {φ : Nat → Nat → Bool} (ok : gq_okS w) (hc : gq_cS μ a w) (hp : -1 ≤ p ∧ p ≤ 4) (hφ : ∀ b : Nat, (b : Int) < w 2 → ∀ m, m < 40 → (φ b m = true ↔ gk_in w x b m)) : ∃ μ', f_X0_weighRuns a (gq_I p) x μ = some ((), μ') ∧ gc_Wt μ' w (ga_W φ (gk_c w (gk_O w) p)) ∧ (∀ y, y ≠ 76 → μ'.2 y = μ.2 y) ∧ μ'.1 = μ.1 := by
  have o2 := ok.2.2.1
  obtain ⟨μ', e1, e2, e3, e4⟩ := gc_weighL2 ok hp hφ (k := fun (μ22 : gx_M) => some ((), μ22)) (w 2).toNat 4000 0 μ (by omega) (by omega) hc
  refine ⟨μ', ?_, fun b j h1 h2 => e2 b j (by omega) h1 h2, fun y hy => funext fun j => e3 y j fun c => hy c.1, e4⟩
  unfold f_X0_weighRuns
  simp only [gq_lit]
  exact e1
