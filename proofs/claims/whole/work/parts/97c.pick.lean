/-! the class picks a row -/
def gh_Rn (w : Nat → Int) (φ : Nat → Nat → Bool) (st e : Nat) : Prop := ∃ b, φ b st = true ∧ st + ga_l w b = e + 1
abbrev gh_M (y : Int64) (m : Nat) : Prop := gm_b y m = true
theorem gh_Rb {w : Nat → Int} {y : Int64} {φ : Nat → Nat → Bool} {st e : Nat} (ok : gq_okS w) (hφ : gh_cl w y φ) (h : gh_Rn w φ st e) : st ≤ e ∧ e < 40 ∧ (∀ m, st ≤ m → m ≤ e → gm_b y m = true) := by
  have o0 := ok.1
  obtain ⟨b, h1, h2⟩ := h
  obtain ⟨k1, k2⟩ := (hφ b st).mp h1
  have lt := gk_lt ok k1 k2.1
  have l1 := (ok.2.2.2.2.1 b k1).1
  have ewl : w (7 + b) = (ga_l w b : Int) := by unfold ga_l; omega
  exact ⟨by omega, by omega, fun m h3 h4 => k2.2 m h3 (by omega)⟩
theorem gh_Sr {w : Nat → Int} {φ : Nat → Nat → Bool} {s : Nat → Nat} (hS : gh_S (fun b' m' => φ b' m' = true) (ga_l w) s) {e : Nat} (he : e < 40) : (s e ≠ 0 → s e ≤ e + 1 ∧ gh_Rn w φ (e + 1 - s e) e) ∧ ∀ st, gh_Rn w φ st e → s e ≠ 0 ∧ st + s e ≤ e + 1 := by
  obtain ⟨t1, t2, t3⟩ := hS e he
  refine ⟨fun h => ?_, fun st ⟨b, h1, h2⟩ => ?_⟩
  · obtain ⟨b, m, x1, x2, x3⟩ := t2 h
    refine ⟨by omega, b, ?_, by omega⟩
    rw [show e + 1 - s e = m by omega]
    exact x1
  · have := t3 b st h1 h2
    exact ⟨this.1, by omega⟩
theorem gh_uncL {μ : gx_M} {w : Nat → Int} {y : Int64} {φ : Nat → Nat → Bool} {s : Nat → Nat} {lo : Nat} (ok : gq_okS w) (hφ : gh_cl w y φ) (hr : gh_row μ s) (hS : gh_S (fun b' m' => φ b' m' = true) (ga_l w) s) : ∀ (d f i : Nat), d < f → i + d = 40 → lo ≤ i → (∀ st e, gh_Rn w φ st e → lo ≤ st → i ≤ e) → ∃ U : Int, L_X1_firstUncovered_4 μ (gq_I ((lo : Int) - 1)) (some (gq_I (-1))) f (gq_I i) = some (gq_I U) ∧ ((U = -1 ∧ ∀ st e, gh_Rn w φ st e → st < lo) ∨ ∃ n : Nat, U = n ∧ n < 40 ∧ s n ≠ 0 ∧ lo + s n ≤ n + 1 ∧ ∀ st e, gh_Rn w φ st e → lo ≤ st → n ≤ e)
  | _, 0, _, hf, _, _, _ => absurd hf (Nat.not_lt_zero _)
  | 0, f + 1, i, hf, hi, hlo, hmin => by
    refine ⟨-1, ?_, Or.inl ⟨rfl, fun st e h => ?_⟩⟩
    · rw [L_X1_firstUncovered_4.eq_2]
      exact if_pos (by rw [gq_lit, gq_le (by omega)]; omega)
    · by_cases g : lo ≤ st
      · have := hmin st e h g
        have := (gh_Rb ok hφ h).2.1
        omega
      · omega
  | d + 1, f + 1, i, hf, hi, hlo, hmin => by
    obtain ⟨t1, t2⟩ := gh_Sr hS (e := i) (by omega)
    have s9 := (hS i (by omega)).1
    have er := hr i (by omega)
    by_cases g : s i ≠ 0 ∧ lo + s i ≤ i + 1
    · refine ⟨i, ?_, Or.inr ⟨i, rfl, by omega, g.1, g.2, hmin⟩⟩
      rw [L_X1_firstUncovered_4.eq_2]
      simp (disch := omega) only [Int.reduceToNat, gq_lit, gq_neg, gq_add, gq_sub, gq_mul, gq_nat, Int.toNat_natCast, gq_tadd, gq_tmul, gq_lte, gq_br, gq_bd, gq_ck, gq_sub, Bool.false_eq_true, gq_leT, gq_leF, gq_ltT, gq_ltF, gq_eqT, gq_eqF, if_true, if_false, er]
    · obtain ⟨U, e1, e2⟩ := gh_uncL (lo := lo) ok hφ hr hS d f (i + 1) (by omega) (by omega) (by omega) fun st e h1 h2 => by
        have k1 := hmin st e h1 h2
        by_cases e' : e = i
        · rw [e'] at h1
          have := t2 st h1
          exact absurd ⟨this.1, by omega⟩ g
        · omega
      refine ⟨U, ?_, e2⟩
      rw [← e1, L_X1_firstUncovered_4.eq_2]
      by_cases g2 : s i = 0
      · simp (disch := omega) only [Int.reduceToNat, gq_lit, gq_neg, gq_add, gq_sub, gq_mul, gq_nat, Int.toNat_natCast, gq_tadd, gq_tmul, gq_lte, gq_br, gq_bd, gq_ck, gq_sub, Bool.false_eq_true, gq_leT, gq_leF, gq_ltT, gq_ltF, gq_eqT, gq_eqF, if_true, if_false, er]
        rfl
      · simp (disch := omega) only [Int.reduceToNat, gq_lit, gq_neg, gq_add, gq_sub, gq_mul, gq_nat, Int.toNat_natCast, gq_tadd, gq_tmul, gq_lte, gq_br, gq_bd, gq_ck, gq_sub, Bool.false_eq_true, gq_leT, gq_leF, gq_ltT, gq_ltF, gq_eqT, gq_eqF, if_true, if_false, er]
        rfl
theorem gh_unc {μ : gx_M} {w : Nat → Int} {y : Int64} {φ : Nat → Nat → Bool} {s : Nat → Nat} {lo : Nat} (ok : gq_okS w) (hφ : gh_cl w y φ) (hr : gh_row μ s) (hS : gh_S (fun b' m' => φ b' m' = true) (ga_l w) s) (hlo : lo ≤ 40) : ∃ U : Int, f_X1_firstUncovered (gq_I ((lo : Int) - 1)) μ = some (gq_I U) ∧ ((U = -1 ∧ ∀ st e, gh_Rn w φ st e → st < lo) ∨ ∃ n : Nat, U = n ∧ n < 40 ∧ s n ≠ 0 ∧ lo + s n ≤ n + 1 ∧ ∀ st e, gh_Rn w φ st e → lo ≤ st → n ≤ e) := by
  obtain ⟨U, e1, e2⟩ := gh_uncL (lo := lo) ok hφ hr hS (40 - lo) 4000 lo (by omega) (by omega) (Nat.le_refl _) fun st e h1 h2 => by
    have := (gh_Rb ok hφ h1).1
    omega
  refine ⟨U, ?_, e2⟩
  unfold f_X1_firstUncovered
  simp only [gq_lit, gq_neg, gq_add, gq_lte]
  rw [show (lo : Int) - 1 + 1 = lo by omega]
  exact e1
/-- what a try of k more finds -/
def gh_pk (R : Nat → Nat → Prop) (M : Nat → Prop) (k lo depth : Nat) (F : gx_M → Option (Bool × gx_M)) (μ : gx_M) : Prop := ∃ res μ', F μ = some (res, μ') ∧ (res = true ↔ gh_E R M k lo) ∧ (res = true → ∃ r : Nat → Nat, gh_F R M k lo r ∧ ∀ i, i < k → μ'.1 81 (depth + i) = gq_I (r i)) ∧ (∀ y j, ¬ (y = 81 ∧ depth ≤ j) → μ'.1 y j = μ.1 y j) ∧ μ'.2 = μ.2
theorem gh_row_w {μ μ' : gx_M} {s : Nat → Nat} {depth : Nat} (h : gh_row μ s) (e : ∀ y j, ¬ (y = 81 ∧ depth ≤ j) → μ'.1 y j = μ.1 y j) : gh_row μ' s := fun j hj => by
  rw [e 80 j (by omega)]
  exact h j hj
theorem gh_pickL {R : Nat → Nat → Prop} {M : Nat → Prop} {s : Nat → Nat} {k U A depth tried : Nat} {fp : Int32 → Int32 → Int32 → gx_M → Option (Bool × gx_M)} (hd : depth < 3) (hU : U < 40) (ih : ∀ (m : Nat) (μ : gx_M), A ≤ m → m ≤ U → gh_row μ s → gh_pk R M k (m + 1) (depth + 1) (fp (gq_I (depth + 1 : Nat)) (gq_I tried) (gq_I m)) μ) : ∀ (d f i : Nat) (μ : gx_M), d < f → i + d = U + 1 → A ≤ i → gh_row μ s → ∃ res μ', L_X1_pick_50 (gq_I U) (gq_I depth) fp (gq_I tried) (fun m => some (false, m)) f (gq_I i) μ = some (res, μ') ∧ ((res = false ∧ ∀ m, i ≤ m → m ≤ U → ¬ gh_E R M k (m + 1)) ∨ (res = true ∧ ∃ (m : Nat) (r : Nat → Nat), i ≤ m ∧ m ≤ U ∧ gh_E R M k (m + 1) ∧ (∀ m', i ≤ m' → m' < m → ¬ gh_E R M k (m' + 1)) ∧ gh_F R M k (m + 1) r ∧ μ'.1 81 depth = gq_I m ∧ ∀ i, i < k → μ'.1 81 (depth + 1 + i) = gq_I (r i))) ∧ (∀ y j, ¬ (y = 81 ∧ depth ≤ j) → μ'.1 y j = μ.1 y j) ∧ μ'.2 = μ.2
  | _, 0, _, _, hf, _, _, _ => absurd hf (Nat.not_lt_zero _)
  | 0, f + 1, i, μ, hf, hi, hA, hr => by
    refine ⟨false, μ, ?_, Or.inl ⟨rfl, fun m h1 h2 => absurd h2 (by omega)⟩, fun _ _ _ => rfl, rfl⟩
    rw [L_X1_pick_50.eq_2]
    exact if_pos (by rw [gq_lt (by omega)]; omega)
  | d + 1, f + 1, i, μ, hf, hi, hA, hr => by
    have x1 : ∀ y j, ¬ (y = 81 ∧ depth ≤ j) → (gx_uI μ 81 depth (gq_I i)).1 y j = μ.1 y j := fun y j h => by rw [gq_uI1, if_neg (by omega)]
    obtain ⟨res, μ1, a1, a2, a3, a4, a5⟩ := ih i (gx_uI μ 81 depth (gq_I i)) hA (by omega) (gh_row_w hr x1)
    have ed : gq_I depth + 1 = gq_I (depth + 1 : Nat) := gq_suc depth
    have step : L_X1_pick_50 (gq_I U) (gq_I depth) fp (gq_I tried) (fun m => some (false, m)) (f + 1) (gq_I i) μ = if res = true then some (true, μ1) else L_X1_pick_50 (gq_I U) (gq_I depth) fp (gq_I tried) (fun m => some (false, m)) f (gq_I (i + 1 : Nat)) μ1 := by
      rw [L_X1_pick_50.eq_2]
      refine (if_neg (by rw [gq_lt (by omega)]; omega)).trans ?_
      rw [gq_ck (by omega), gq_nat (by omega), Int.toNat_natCast, gq_lte, ed, a1, gq_bd, gq_suc]
    have fr : ∀ y j, ¬ (y = 81 ∧ depth ≤ j) → μ1.1 y j = μ.1 y j := fun y j h => by rw [a4 y j (by omega), x1 y j h]
    cases res with
    | true =>
      obtain ⟨r, r1, r2⟩ := a3 rfl
      refine ⟨true, μ1, by rw [step, if_pos rfl], Or.inr ⟨rfl, i, r, Nat.le_refl _, by omega, a2.mp rfl, fun m' h1 h2 => absurd h2 (by omega), r1, ?_, r2⟩, fr, a5⟩
      rw [a4 81 depth (by omega), gq_uI1, if_pos ⟨rfl, rfl⟩]
    | false =>
      have no : ¬ gh_E R M k (i + 1) := fun c => absurd (a2.mpr c) (by decide)
      obtain ⟨res, μ', z1, z2, z3, z4⟩ := gh_pickL hd hU ih d f (i + 1) μ1 (by omega) (by omega) (by omega) (gh_row_w hr fr)
      refine ⟨res, μ', by rw [step, if_neg (by decide)]; exact z1, ?_, fun y j h => (z3 y j h).trans (fr y j h), z4.trans a5⟩
      rcases z2 with ⟨k1, k2⟩ | ⟨k1, m, r, k2, k3, k4, k5, k6⟩
      · refine Or.inl ⟨k1, fun m h1 h2 => ?_⟩
        by_cases e : m = i
        · rw [e]; exact no
        · exact k2 m (by omega) h2
      · refine Or.inr ⟨k1, m, r, by omega, k3, k4, fun m' h1 h2 => ?_, k6⟩
        by_cases e : m' = i
        · rw [e]; exact no
        · exact k5 m' (by omega) h2
theorem gh_pick {w : Nat → Int} {y : Int64} {φ : Nat → Nat → Bool} {s : Nat → Nat} (ok : gq_okS w) (hφ : gh_cl w y φ) (hS : gh_S (fun b' m' => φ b' m' = true) (ga_l w) s) : ∀ (k n depth lo : Nat) (μ : gx_M), k < n → depth + k ≤ 3 → lo ≤ 40 → gh_row μ s → (∀ j, j < k → ¬ gh_E (gh_Rn w φ) (gh_M y) j lo) → gh_pk (gh_Rn w φ) (gh_M y) k lo depth (f_X1_pick n (gq_I depth) (gq_I (depth + k : Nat)) (gq_I ((lo : Int) - 1))) μ
  | _, 0, _, _, _, h, _, _, _, _ => absurd h (Nat.not_lt_zero _)
  | 0, n + 1, depth, lo, μ, hn, hd, hlo, hr, hmin => by
    obtain ⟨U, u1, u2⟩ := gh_unc (lo := lo) ok hφ hr hS hlo
    rcases u2 with ⟨h1, h2⟩ | ⟨m, h1, h2, h3, h4, h5⟩
    · refine ⟨true, μ, ?_, ⟨fun _ => h2, fun _ => rfl⟩, fun _ => ⟨fun _ => 0, trivial, fun i hi => absurd hi (Nat.not_lt_zero _)⟩, fun _ _ _ => rfl, rfl⟩
      show f_X1_pick_b (f_X1_pick n) _ _ _ μ = _
      unfold f_X1_pick_b
      rw [u1, gq_br, h1, if_pos (by rfl), if_pos (by rfl)]
    · refine ⟨false, μ, ?_, ⟨fun c => absurd c (by decide), fun c => ?_⟩, fun c => absurd c (by decide), fun _ _ _ => rfl, rfl⟩
      · show f_X1_pick_b (f_X1_pick n) _ _ _ μ = _
        unfold f_X1_pick_b
        rw [u1, gq_br, if_neg (by rw [gq_lit, gq_neg, gq_eq (by omega)]; omega), if_pos (by rw [gq_le (by omega)]; omega)]
      · have := c _ _ ((gh_Sr hS h2).1 h3).2
        omega
  | k + 1, n + 1, depth, lo, μ, hn, hd, hlo, hr, hmin => by
    obtain ⟨U, u1, u2⟩ := gh_unc (lo := lo) ok hφ hr hS hlo
    rcases u2 with ⟨h1, h2⟩ | ⟨u, h1, h2, h3, h4, h5⟩
    · exact absurd h2 (hmin 0 (by omega))
    · obtain ⟨A, hA⟩ : ∃ A, A = u + 1 - s u := ⟨_, rfl⟩
      have s9 := (hS u h2).1
      have Ru : gh_Rn w φ A u := by rw [hA]; exact ((gh_Sr hS h2).1 h3).2
      have Mu := (gh_Rb ok hφ Ru).2.2
      have cand : ∀ m, A ≤ m → m ≤ u → gh_E (gh_Rn w φ) (gh_M y) k (m + 1) → gh_C (gh_Rn w φ) (gh_M y) k lo m := fun m m1 m2 m3 => ⟨by omega, Mu m m1 m2, fun st e g1 g2 => Nat.le_trans m2 (h5 st e g1 g2), m3⟩
      have only : ∀ m, gh_C (gh_Rn w φ) (gh_M y) k lo m → A ≤ m ∧ m ≤ u := fun m c => by
        refine ⟨?_, c.2.2.1 A u Ru (by omega)⟩
        by_cases g : A ≤ m
        · exact g
        · exact absurd (gh_skip Ru c.1 (by omega) h5 c.2.2.2) (hmin k (by omega))
      obtain ⟨res, μ', z1, z2, z3, z4⟩ := gh_pickL (R := gh_Rn w φ) (M := gh_M y) (s := s) (k := k) (U := u) (A := A) (depth := depth) (tried := depth + (k + 1)) (fp := f_X1_pick n) (by omega) h2 (fun m μ m1 m2 hr' => by
        have := gh_pick ok hφ hS k n (depth + 1) (m + 1) μ (by omega) (by omega) (by omega) hr' fun j hj c => hmin (j + 1) (by omega) ⟨m, by omega, Mu m m1 m2, fun st e g1 g2 => Nat.le_trans m2 (h5 st e g1 g2), c⟩
        rw [show depth + 1 + k = depth + (k + 1) by omega, show ((m + 1 : Nat) : Int) - 1 = m by omega] at this
        exact this) (u + 1 - A) 4000 A μ (by omega) (by omega) (Nat.le_refl _) hr
      refine ⟨res, μ', ?_, ?_, ?_, z3, z4⟩
      · show f_X1_pick_b (f_X1_pick n) _ _ _ μ = _
        unfold f_X1_pick_b
        have er := hr u h2
        rw [u1, gq_br, h1, if_neg (by rw [gq_lit, gq_neg, gq_eq (by omega)]; omega), if_neg (by rw [gq_le (by omega)]; omega), if_pos (by rw [gq_lit, gq_lt (by omega)]; omega), gq_ck (by omega), gq_lte, gq_nat (by omega), Int.toNat_natCast, er, gq_lit, gq_sub, gq_add, show (u : Int) - (s u : Int) + 1 = (A : Int) by omega]
        exact z1
      · rcases z2 with ⟨k1, k2⟩ | ⟨k1, m, r, k2, k3, k4, _⟩
        · refine ⟨fun c => absurd (k1.symm.trans c) (by decide), fun ⟨m, c⟩ => ?_⟩
          obtain ⟨c1, c2⟩ := only m c
          exact absurd c.2.2.2 (k2 m c1 c2)
        · exact ⟨fun _ => ⟨m, cand m k2 k3 k4⟩, fun _ => k1⟩
      · intro hres
        rcases z2 with ⟨k1, k2⟩ | ⟨k1, m, r, k2, k3, k4, k5, k6, k7, k8⟩
        · exact absurd (k1.symm.trans hres) (by decide)
        · refine ⟨fun i => if i = 0 then m else r (i - 1), ⟨cand m k2 k3 k4, fun m' g1 c => ?_, gh_F_ext k6 fun i hi => ?_⟩, fun i hi => ?_⟩
          · obtain ⟨c1, c2⟩ := only m' c
            exact k5 m' c1 g1 c.2.2.2
          · show (if i + 1 = 0 then m else r (i + 1 - 1)) = r i
            rw [if_neg (by omega), Nat.add_sub_cancel]
          · show μ'.1 81 (depth + i) = gq_I (if i = 0 then m else r (i - 1) : Nat)
            by_cases e : i = 0
            · rw [if_pos e, e]
              exact k7
            · have := k8 (i - 1) (by omega)
              rw [show depth + 1 + (i - 1) = depth + i by omega] at this
              rw [if_neg e]
              exact this
/-- the fewest, and the first row of them -/
def gh_res (R : Nat → Nat → Prop) (M : Nat → Prop) (N : Int) (r : Nat → Nat) : Prop := (N = -1 ∧ ∀ k, k ≤ 3 → ¬ gh_E R M k 0) ∨ ∃ k : Nat, N = k ∧ k ≤ 3 ∧ gh_E R M k 0 ∧ (∀ j, j < k → ¬ gh_E R M j 0) ∧ gh_F R M k 0 r
theorem gh_res_u {R : Nat → Nat → Prop} {M : Nat → Prop} {N N' : Int} {r r' : Nat → Nat} (h : gh_res R M N r) (h' : gh_res R M N' r') : N = N' ∧ ∀ i : Nat, (i : Int) < N → r i = r' i := by
  rcases h with ⟨a1, a2⟩ | ⟨k, a1, a2, a3, a4, a5⟩
  · rcases h' with ⟨b1, b2⟩ | ⟨k', b1, b2, b3, b4, b5⟩
    · exact ⟨by omega, fun i hi => by omega⟩
    · exact absurd b3 (a2 k' b2)
  · rcases h' with ⟨b1, b2⟩ | ⟨k', b1, b2, b3, b4, b5⟩
    · exact absurd a3 (b2 k a2)
    · have e : k = k' := by
        rcases Nat.lt_trichotomy k k' with g | g | g
        · exact absurd a3 (b4 k g)
        · exact g
        · exact absurd b3 (a4 k' g)
      subst e
      exact ⟨by omega, fun i hi => gh_F_u a5 b5 i (by omega)⟩
theorem gh_solveL {w : Nat → Int} {y : Int64} {φ : Nat → Nat → Bool} {s : Nat → Nat} (ok : gq_okS w) (hφ : gh_cl w y φ) (hS : gh_S (fun b' m' => φ b' m' = true) (ga_l w) s) : ∀ (d f t : Nat) (μ : gx_M), d + 1 < f → t + d = 4 → gh_row μ s → μ.1 79 2 = gq_I (-1) → (∀ j, j < t → ¬ gh_E (gh_Rn w φ) (gh_M y) j 0) → ∃ (N : Int) (r : Nat → Nat) (μ' : gx_M), L_X1_solve_14 (fun m => some ((), m)) f (gq_I t) μ = some ((), μ') ∧ gh_res (gh_Rn w φ) (gh_M y) N r ∧ μ'.1 79 2 = gq_I N ∧ (∀ i : Nat, (i : Int) < N → μ'.1 81 i = gq_I (r i)) ∧ (∀ a j, ¬ (a = 81) → ¬ (a = 79) → μ'.1 a j = μ.1 a j) ∧ μ'.2 = μ.2
  | _, 0, _, _, hf, _, _, _, _ => absurd hf (Nat.not_lt_zero _)
  | 0, f + 1, t, μ, hf, ht, hr, h2, hmin => by
    refine ⟨-1, fun _ => 0, μ, ?_, Or.inl ⟨rfl, fun k hk => hmin k (by omega)⟩, h2, fun i hi => by omega, fun _ _ _ _ => rfl, rfl⟩
    rw [L_X1_solve_14.eq_2]
    exact if_pos (by rw [gq_lit, gq_lt (by omega)]; omega)
  | d + 1, f + 1, t, μ, hf, ht, hr, h2, hmin => by
    obtain ⟨res, μ1, a1, a2, a3, a4, a5⟩ := gh_pick ok hφ hS t 6 0 0 μ (by omega) (by omega) (by omega) hr hmin
    rw [show 0 + t = t by omega, show ((0 : Nat) : Int) - 1 = -1 by omega] at a1
    have step : L_X1_solve_14 (fun m => some ((), m)) (f + 1) (gq_I t) μ = if res = true then L_X1_solve_14 (fun m => some ((), m)) f (gq_I (t + 1 : Nat)) (gx_uI μ1 79 2 (gq_I t)) else L_X1_solve_14 (fun m => some ((), m)) f (gq_I (t + 1 : Nat)) μ1 := by
      rw [L_X1_solve_14.eq_2]
      refine (if_neg (by rw [gq_lit, gq_lt (by omega)]; omega)).trans ?_
      rw [h2, if_pos (by rfl)]
      have a1' : f_X1_pick 6 0 (gq_I t) (-1) μ = some (res, μ1) := a1
      rw [a1', gq_bd]
      simp only [gq_lte, gq_suc]
    cases res with
    | true =>
      obtain ⟨r, r1, r2⟩ := a3 rfl
      rw [if_pos rfl] at step
      refine ⟨t, r, gx_uI μ1 79 2 (gq_I t), ?_, Or.inr ⟨t, rfl, by omega, a2.mp rfl, hmin, r1⟩, rfl, fun i hi => ?_, fun a j g1 g2 => ?_, a5⟩
      · rw [step]
        obtain ⟨f', rfl⟩ : ∃ f', f = f' + 1 := ⟨f - 1, by omega⟩
        rw [L_X1_solve_14.eq_2]
        by_cases g : 3 < t + 1
        · exact if_pos (by rw [gq_lit, gq_lt (by omega)]; omega)
        · refine (if_neg (by rw [gq_lit, gq_lt (by omega)]; omega)).trans ?_
          have e79 : (gx_uI μ1 79 2 (gq_I t)).1 79 2 = gq_I t := rfl
          rw [e79]
          exact if_neg (by rw [gq_lit, gq_neg, gq_eq (by omega)]; omega)
      · have := r2 i (by omega)
        rw [show 0 + i = i by omega] at this
        rw [gq_uI1, if_neg (by omega)]
        exact this
      · rw [gq_uI1, if_neg fun c => g2 c.1, a4 a j fun c => g1 c.1]
    | false =>
      rw [if_neg (by decide)] at step
      obtain ⟨N, r, μ', z1, z2, z3, z4, z5, z6⟩ := gh_solveL ok hφ hS d f (t + 1) μ1 (by omega) (by omega) (gh_row_w hr a4) (by rw [a4 79 2 (by omega)]; exact h2) fun j hj => by
        by_cases e : j = t
        · rw [e]
          exact fun c => absurd (a2.mpr c) (by decide)
        · exact hmin j (by omega)
      exact ⟨N, r, μ', step.trans z1, z2, z3, z4, fun a j g1 g2 => (z5 a j g1 g2).trans (a4 a j fun c => g1 c.1), z6.trans a5⟩
theorem gh_solve {μ : gx_M} {a L T : Nat} {w : Nat → Int} {y : Int64} {φ : Nat → Nat → Bool} (ok : gq_okS w) (ha : a + 8 < 79) (hT2 : w 2 = T) (hL : w 0 = L) (hφ : gh_cl w y φ) (hc : gq_cS μ a w) : ∃ (N : Int) (r : Nat → Nat) (μ' : gx_M), f_X1_solve a y μ = some ((), μ') ∧ gh_res (gh_Rn w φ) (gh_M y) N r ∧ μ'.1 79 2 = gq_I N ∧ (∀ i : Nat, (i : Int) < N → μ'.1 81 i = gq_I (r i)) ∧ (∀ a j, ¬ (79 ≤ a ∧ a ≤ 81) → μ'.1 a j = μ.1 a j) ∧ μ'.2 = μ.2 := by
  obtain ⟨μ1, s, a1, a2, a3, a4, a5⟩ := gh_cfind ok (by omega) hT2 hL hφ hc
  obtain ⟨N, r, μ', z1, z2, z3, z4, z5, z6⟩ := gh_solveL ok hφ a3 4 4000 0 (gx_uI μ1 79 2 (gq_I (-1))) (by omega) (by omega) (fun e he => by rw [gq_uI1, if_neg (by omega)]; exact a2 e he) rfl fun j hj => absurd hj (Nat.not_lt_zero _)
  refine ⟨N, r, μ', ?_, z2, z3, z4, fun a j h => ?_, z6.trans a5⟩
  · unfold f_X1_solve
    rw [a1, gq_bd]
    simp only [gq_lit, gq_neg, gq_lte]
    exact z1
  · rw [z5 a j (by omega) (by omega), gq_uI1, if_neg (by omega), a4 a j (by omega)]
def gh_ans (N q : Int) (r : Nat → Nat) : Int := if N = -1 ∨ q = -1 then N else if 0 ≤ q ∧ q < N then r q.toNat else -1
theorem gh_res_b {R : Nat → Nat → Prop} {M : Nat → Prop} {N : Int} {r : Nat → Nat} (h : gh_res R M N r) : -1 ≤ N ∧ N ≤ 3 := by
  rcases h with ⟨a, _⟩ | ⟨k, a, b, _⟩ <;> omega
theorem gh_answer {μ : gx_M} {N q : Int} {r : Nat → Nat} (hN : -1 ≤ N ∧ N ≤ 3) (hq : -2147483648 ≤ q ∧ q < 2147483648) (h1 : μ.1 79 2 = gq_I N) (h2 : ∀ i : Nat, (i : Int) < N → μ.1 81 i = gq_I (r i)) : f_X1_answer (gq_I q) μ = some (gq_I (gh_ans N q r)) := by
  unfold f_X1_answer gh_ans
  rw [h1]
  simp only [gq_lit, gq_neg]
  by_cases g1 : N = -1
  · rw [if_pos (by rw [g1]), if_pos (Or.inl g1)]
  · rw [if_neg (by rw [gq_eq (by omega)]; exact g1)]
    by_cases g2 : q = -1
    · rw [if_pos (by rw [g2]), if_pos (Or.inr g2)]
    · rw [if_neg (by rw [gq_eq (by omega)]; exact g2), if_neg (c := N = -1 ∨ q = -1) fun c => c.elim g1 g2]
      by_cases g3 : q < 0
      · rw [if_pos (by rw [gq_lt (by omega)]; exact g3), if_neg (by omega)]
      · rw [if_neg (by rw [gq_lt (by omega)]; exact g3)]
        by_cases g4 : N ≤ q
        · rw [if_pos (by rw [gq_le (by omega)]; exact g4), if_neg (by omega)]
        · rw [if_neg (by rw [gq_le (by omega)]; exact g4), if_pos (by omega), gq_ck (by omega), gq_nat (by omega), h2 q.toNat (by omega)]
