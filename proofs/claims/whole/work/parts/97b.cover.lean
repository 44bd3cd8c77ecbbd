/-! the fewest minutes that hit all runs -/
/-- from lo on, k minutes of M hit all runs that begin there -/
def gh_E (R : Nat → Nat → Prop) (M : Nat → Prop) : Nat → Nat → Prop
  | 0, lo => ∀ st e, R st e → st < lo
  | k + 1, lo => ∃ m, lo ≤ m ∧ M m ∧ (∀ st e, R st e → lo ≤ st → m ≤ e) ∧ gh_E R M k (m + 1)
/-- such a next minute -/
def gh_C (R : Nat → Nat → Prop) (M : Nat → Prop) (k lo m : Nat) : Prop := lo ≤ m ∧ M m ∧ (∀ st e, R st e → lo ≤ st → m ≤ e) ∧ gh_E R M k (m + 1)
/-- the first row -/
def gh_F (R : Nat → Nat → Prop) (M : Nat → Prop) : Nat → Nat → (Nat → Nat) → Prop
  | 0, _, _ => True
  | k + 1, lo, r => gh_C R M k lo (r 0) ∧ (∀ m, m < r 0 → ¬ gh_C R M k lo m) ∧ gh_F R M k (r 0 + 1) (fun i => r (i + 1))
theorem gh_F_u {R : Nat → Nat → Prop} {M : Nat → Prop} : ∀ {k lo : Nat} {r r' : Nat → Nat}, gh_F R M k lo r → gh_F R M k lo r' → ∀ i, i < k → r i = r' i
  | 0, _, _, _, _, _, _, h => absurd h (Nat.not_lt_zero _)
  | k + 1, lo, r, r', h, h', i, hi => by
    obtain ⟨a1, a2, a3⟩ := h
    obtain ⟨b1, b2, b3⟩ := h'
    have e : r 0 = r' 0 := by
      rcases Nat.lt_trichotomy (r 0) (r' 0) with g | g | g
      · exact absurd a1 (b2 _ g)
      · exact g
      · exact absurd b1 (a2 _ g)
    cases i with
    | zero => exact e
    | succ i =>
      rw [← e] at b3
      exact gh_F_u a3 b3 i (by omega)
theorem gh_F_ext {R : Nat → Nat → Prop} {M : Nat → Prop} : ∀ {k lo : Nat} {r r' : Nat → Nat}, gh_F R M k lo r → (∀ i, i < k → r' i = r i) → gh_F R M k lo r'
  | 0, _, _, _, _, _ => trivial
  | k + 1, lo, r, r', h, e => by
    obtain ⟨a1, a2, a3⟩ := h
    have e0 := e 0 (by omega)
    unfold gh_F
    rw [e0]
    exact ⟨a1, a2, gh_F_ext a3 fun i hi => e (i + 1) (by omega)⟩
/-- what begins first to end has to be hit by the next minute -/
theorem gh_skip {R : Nat → Nat → Prop} {M : Nat → Prop} {k lo m st e : Nat} (hR : R st e) (hlo : lo ≤ m) (hm : m < st) (hmin : ∀ st' e', R st' e' → lo ≤ st' → e ≤ e') (h : gh_E R M k (m + 1)) : gh_E R M k lo := by
  cases k with
  | zero => exact absurd (h st e hR) (by omega)
  | succ k =>
    obtain ⟨m', h1, h2, h3, h4⟩ := h
    have k1 := h3 st e hR (by omega)
    exact ⟨m', by omega, h2, fun st' e' hR' hl => Nat.le_trans k1 (hmin st' e' hR' hl), h4⟩
/-- the class: of each last minute the shortest run -/
def gh_S (Q : Nat → Nat → Prop) (l : Nat → Nat) (s : Nat → Nat) : Prop := ∀ e, e < 40 → s e ≤ 9 ∧ (s e ≠ 0 → ∃ b m, Q b m ∧ m + l b = e + 1 ∧ l b = s e) ∧ ∀ b m, Q b m → m + l b = e + 1 → s e ≠ 0 ∧ s e ≤ l b
def gh_row (μ : gx_M) (s : Nat → Nat) : Prop := ∀ e, e < 40 → μ.1 80 e = gq_I (s e)
theorem gh_note {μ : gx_M} {Q : Nat → Nat → Prop} {l s : Nat → Nat} {b m : Nat} (hr : gh_row μ s) (hS : gh_S Q l s) (hl : 1 ≤ l b ∧ l b ≤ 9) (hm : m + l b ≤ 40) : ∃ μ' s', f_X1_noteRun ((gq_I m + gq_I (l b)) - gq_I 1) (gq_I (l b)) μ = some ((), μ') ∧ gh_row μ' s' ∧ gh_S (fun b' m' => Q b' m' ∨ (b' = b ∧ m' = m)) l s' ∧ (∀ y j, y ≠ 80 → μ'.1 y j = μ.1 y j) ∧ μ'.2 = μ.2 := by
  obtain ⟨e, he⟩ : ∃ e, e + 1 = m + l b := ⟨m + l b - 1, by omega⟩
  have ee : (gq_I m + gq_I (l b)) - gq_I 1 = gq_I e := by
    rw [gq_add, gq_sub]
    exact congrArg gq_I (by omega)
  obtain ⟨s1, s2, s3⟩ := hS e (by omega)
  have er := hr e (by omega)
  by_cases g : s e ≠ 0 ∧ s e ≤ l b
  · refine ⟨μ, s, ?_, hr, fun e' he' => ?_, fun _ _ _ => rfl, rfl⟩
    · rw [ee]
      unfold f_X1_noteRun
      simp (disch := omega) only [Int.reduceToNat, gq_lit, gq_neg, gq_add, gq_sub, gq_mul, gq_nat, Int.toNat_natCast, gq_tadd, gq_tmul, gq_lte, gq_br, gq_bd, gq_ck, Bool.false_eq_true, gq_leT, gq_leF, gq_ltT, gq_ltF, gq_eqT, gq_eqF, if_true, if_false, er]
    · obtain ⟨t1, t2, t3⟩ := hS e' he'
      refine ⟨t1, fun h => ?_, fun b' m' h1 h2 => ?_⟩
      · obtain ⟨b', m', x1, x2⟩ := t2 h
        exact ⟨b', m', Or.inl x1, x2⟩
      · rcases h1 with h1 | ⟨h1, h3⟩
        · exact t3 b' m' h1 h2
        · have : e' = e := by rw [h1, h3] at h2; omega
          rw [this, h1]
          exact g
  · obtain ⟨s', hs'⟩ : ∃ s' : Nat → Nat, s' = fun j => if j = e then l b else s j := ⟨_, rfl⟩
    have si : s' e = l b := by rw [hs']; exact if_pos rfl
    have sn : ∀ j, j ≠ e → s' j = s j := fun j h => by rw [hs']; exact if_neg h
    refine ⟨gx_uI μ 80 e (gq_I (l b)), s', ?_, fun j hj => ?_, fun e' he' => ?_, fun y j h => ?_, rfl⟩
    · rw [ee]
      unfold f_X1_noteRun
      by_cases g2 : s e = 0
      · simp (disch := omega) only [Int.reduceToNat, gq_lit, gq_neg, gq_add, gq_sub, gq_mul, gq_nat, Int.toNat_natCast, gq_tadd, gq_tmul, gq_lte, gq_br, gq_bd, gq_ck, Bool.false_eq_true, gq_leT, gq_leF, gq_ltT, gq_ltF, gq_eqT, gq_eqF, if_true, if_false, er]
      · simp (disch := omega) only [Int.reduceToNat, gq_lit, gq_neg, gq_add, gq_sub, gq_mul, gq_nat, Int.toNat_natCast, gq_tadd, gq_tmul, gq_lte, gq_br, gq_bd, gq_ck, Bool.false_eq_true, gq_leT, gq_leF, gq_ltT, gq_ltF, gq_eqT, gq_eqF, if_true, if_false, er]
    · rw [gq_uI1]
      by_cases g2 : j = e
      · rw [if_pos ⟨rfl, g2⟩, g2, si]
      · rw [if_neg fun c => g2 c.2, sn j g2]
        exact hr j hj
    · by_cases g2 : e' = e
      · rw [g2, si]
        refine ⟨hl.2, fun _ => ⟨b, m, Or.inr ⟨rfl, rfl⟩, by omega, rfl⟩, fun b' m' h1 h2 => ⟨by omega, ?_⟩⟩
        rcases h1 with h1 | ⟨h1, h3⟩
        · have := s3 b' m' h1 h2
          omega
        · rw [h1]
          exact Nat.le_refl _
      · obtain ⟨t1, t2, t3⟩ := hS e' he'
        rw [sn e' g2]
        refine ⟨t1, fun h => ?_, fun b' m' h1 h2 => ?_⟩
        · obtain ⟨b', m', x1, x2⟩ := t2 h
          exact ⟨b', m', Or.inl x1, x2⟩
        · rcases h1 with h1 | ⟨h1, h3⟩
          · exact t3 b' m' h1 h2
          · exfalso
            rw [h1, h3] at h2
            omega
    · rw [gq_uI1, if_neg fun c => h c.1]
theorem gh_S_ext {Q Q' : Nat → Nat → Prop} {l s : Nat → Nat} (h : gh_S Q l s) (e : ∀ b m, Q' b m ↔ Q b m) : gh_S Q' l s := fun x hx => by
  obtain ⟨t1, t2, t3⟩ := h x hx
  refine ⟨t1, fun h => ?_, fun b m h1 h2 => t3 b m ((e b m).mp h1) h2⟩
  obtain ⟨b, m, y1, y2⟩ := t2 h
  exact ⟨b, m, (e b m).mpr y1, y2⟩
/-- what the class's rows of runs need -/
def gh_cl (w : Nat → Int) (y : Int64) (φ : Nat → Nat → Bool) : Prop := ∀ b m : Nat, φ b m = true ↔ (b : Int) < w 2 ∧ gk_in w y b m
theorem gh_cinL {a b L T : Nat} {w : Nat → Int} {y : Int64} {φ : Nat → Nat → Bool} (ok : gq_okS w) (ha : a + 8 < 80) (hT2 : w 2 = T) (hL : w 0 = L) (hφ : gh_cl w y φ) (hb : b < T) {k : gx_M → Option (Unit × gx_M)} : ∀ (d f m : Nat) (μ : gx_M) (s : Nat → Nat), d < f → m + d = L → gq_cS μ a w → gh_row μ s → gh_S (fun b' m' => φ b' m' = true ∧ (b' < b ∨ (b' = b ∧ m' < m))) (ga_l w) s → ∃ μ' s', L_X1_findRuns_23 a (gq_I b) y k f (gq_I m) μ = k μ' ∧ gh_row μ' s' ∧ gh_S (fun b' m' => φ b' m' = true ∧ (b' < b ∨ (b' = b ∧ m' < L))) (ga_l w) s' ∧ (∀ y j, y ≠ 80 → μ'.1 y j = μ.1 y j) ∧ μ'.2 = μ.2
  | _, 0, _, _, _, hf, _, _, _, _ => absurd hf (Nat.not_lt_zero _)
  | 0, f + 1, m, μ, s, hf, hi, hc, hr, hS => by
    have o0 := ok.1
    refine ⟨μ, s, ?_, hr, ?_, fun _ _ _ => rfl, rfl⟩
    · rw [L_X1_findRuns_23.eq_2, hc.1.1, hL]
      exact if_pos (by rw [gq_le (by omega)]; omega)
    · rw [show L = m by omega]
      exact hS
  | d + 1, f + 1, m, μ, s, hf, hi, hc, hr, hS => by
    have o0 := ok.1
    have o2 := ok.2.2.1
    have hbw : (b : Int) < w 2 := by omega
    have l1 := (ok.2.2.2.2.1 b hbw).1
    have ewl : w (7 + b) = (ga_l w b : Int) := by unfold ga_l; omega
    obtain ⟨h1, _, _, _⟩ := hc.2.2.2.2 b hbw
    rw [ewl] at h1 l1
    obtain ⟨r, r1, r2⟩ := gq_goesIn (x := y) ok hc hbw (m := m) (by omega)
    cases r with
    | true =>
      have g := r2.mp rfl
      have lt := gk_lt ok hbw g.1
      obtain ⟨μ1, s1, e1, e2, e3, e4, e5⟩ := gh_note (l := ga_l w) (b := b) (m := m) hr hS (by omega) (by omega)
      have hS1 : gh_S (fun b' m' => φ b' m' = true ∧ (b' < b ∨ (b' = b ∧ m' < m + 1))) (ga_l w) s1 := gh_S_ext e3 fun b' m' => ⟨fun ⟨x1, x2⟩ => by
        by_cases e : b' = b ∧ m' = m
        · exact Or.inr e
        · exact Or.inl ⟨x1, by omega⟩, fun x => x.elim (fun ⟨x1, x2⟩ => ⟨x1, by omega⟩) fun ⟨x1, x2⟩ => by
        rw [x1, x2]
        exact ⟨(hφ b m).mpr ⟨hbw, g⟩, by omega⟩⟩
      obtain ⟨μ', s', z1, z2, z3, z4, z5⟩ := gh_cinL ok ha hT2 hL hφ hb (k := k) d f (m + 1) μ1 s1 (by omega) (by omega) (gq_cS_sm hc fun i hi => funext fun j => e4 _ _ (by omega)) e2 hS1
      refine ⟨μ', s', ?_, z2, z3, fun y j h => (z4 y j h).trans (e4 y j h), z5.trans e5⟩
      rw [← z1, L_X1_findRuns_23.eq_2, hc.1.1, hL]
      refine (if_neg (by rw [gq_le (by omega)]; omega)).trans ?_
      rw [r1, gq_br, gq_lte, if_pos rfl, gq_ck (by omega), gq_nat (by omega), Int.toNat_natCast, h1, gq_lit, e1, gq_bd, gq_add]
      rfl
    | false =>
      have g : ¬ gk_in w y b m := fun c => absurd (r2.mpr c) (by decide)
      have hS1 : gh_S (fun b' m' => φ b' m' = true ∧ (b' < b ∨ (b' = b ∧ m' < m + 1))) (ga_l w) s := gh_S_ext hS fun b' m' => ⟨fun ⟨x1, x2⟩ => by
        by_cases e : b' = b ∧ m' = m
        · rw [e.1, e.2] at x1
          exact absurd ((hφ b m).mp x1).2 g
        · exact ⟨x1, by omega⟩, fun ⟨x1, x2⟩ => ⟨x1, by omega⟩⟩
      obtain ⟨μ', s', z1, z2, z3, z4, z5⟩ := gh_cinL ok ha hT2 hL hφ hb (k := k) d f (m + 1) μ s (by omega) (by omega) hc hr hS1
      refine ⟨μ', s', ?_, z2, z3, z4, z5⟩
      rw [← z1, L_X1_findRuns_23.eq_2, hc.1.1, hL]
      refine (if_neg (by rw [gq_le (by omega)]; omega)).trans ?_
      rw [r1, gq_br, gq_lte, if_neg (by decide), gq_suc]
theorem gh_coutL {a L T : Nat} {w : Nat → Int} {y : Int64} {φ : Nat → Nat → Bool} (ok : gq_okS w) (ha : a + 8 < 80) (hT2 : w 2 = T) (hL : w 0 = L) (hφ : gh_cl w y φ) {k : gx_M → Option (Unit × gx_M)} : ∀ (d f b : Nat) (μ : gx_M) (s : Nat → Nat), d < f → b + d = T → gq_cS μ a w → gh_row μ s → gh_S (fun b' m' => φ b' m' = true ∧ b' < b) (ga_l w) s → ∃ μ' s', L_X1_findRuns_11 a y k f (gq_I b) μ = k μ' ∧ gh_row μ' s' ∧ gh_S (fun b' m' => φ b' m' = true) (ga_l w) s' ∧ (∀ y j, y ≠ 80 → μ'.1 y j = μ.1 y j) ∧ μ'.2 = μ.2
  | _, 0, _, _, _, hf, _, _, _, _ => absurd hf (Nat.not_lt_zero _)
  | 0, f + 1, b, μ, s, hf, hi, hc, hr, hS => by
    have o2 := ok.2.2.1
    refine ⟨μ, s, ?_, hr, gh_S_ext hS fun b' m' => ⟨fun h => ⟨h, ?_⟩, fun h => h.1⟩, fun _ _ _ => rfl, rfl⟩
    · rw [L_X1_findRuns_11.eq_2, hc.1.2.2, hT2]
      exact if_pos (by rw [gq_le (by omega)]; omega)
    · have := ((hφ b' m').mp h).1
      omega
  | d + 1, f + 1, b, μ, s, hf, hi, hc, hr, hS => by
    have o0 := ok.1
    have o2 := ok.2.2.1
    obtain ⟨μ1, s1, a1, a2, a3, a4, a5⟩ := gh_cinL ok ha hT2 hL hφ (b := b) (by omega) (k := fun (μ19 : gx_M) => L_X1_findRuns_11 a y k f (gq_I b + 1) μ19) L 4000 0 μ s (by omega) (by omega) hc hr (gh_S_ext hS fun b' m' => ⟨fun ⟨x1, x2⟩ => ⟨x1, by omega⟩, fun ⟨x1, x2⟩ => ⟨x1, by omega⟩⟩)
    have hS1 : gh_S (fun b' m' => φ b' m' = true ∧ b' < b + 1) (ga_l w) s1 := gh_S_ext a3 fun b' m' => ⟨fun ⟨x1, x2⟩ => ⟨x1, by
      have k1 := (hφ b' m').mp x1
      have k2 := gk_lt ok k1.1 k1.2.1
      have k3 := (ok.2.2.2.2.1 b' k1.1).1
      omega⟩, fun ⟨x1, x2⟩ => ⟨x1, by omega⟩⟩
    obtain ⟨μ', s', z1, z2, z3, z4, z5⟩ := gh_coutL ok ha hT2 hL hφ (k := k) d f (b + 1) μ1 s1 (by omega) (by omega) (gq_cS_sm hc fun i hi => funext fun j => a4 _ _ (by omega)) a2 hS1
    refine ⟨μ', s', ?_, z2, z3, fun y j h => (z4 y j h).trans (a4 y j h), z5.trans a5⟩
    rw [← z1, L_X1_findRuns_11.eq_2, hc.1.2.2, hT2]
    refine (if_neg (by rw [gq_le (by omega)]; omega)).trans ?_
    refine a1.trans ?_
    rw [gq_suc]
theorem gh_cfind {μ : gx_M} {a L T : Nat} {w : Nat → Int} {y : Int64} {φ : Nat → Nat → Bool} (ok : gq_okS w) (ha : a + 8 < 80) (hT2 : w 2 = T) (hL : w 0 = L) (hφ : gh_cl w y φ) (hc : gq_cS μ a w) : ∃ μ' s, f_X1_findRuns a y μ = some ((), μ') ∧ gh_row μ' s ∧ gh_S (fun b' m' => φ b' m' = true) (ga_l w) s ∧ (∀ y j, y ≠ 80 → μ'.1 y j = μ.1 y j) ∧ μ'.2 = μ.2 := by
  have o2 := ok.2.2.1
  obtain ⟨μ1, a1, a2, a3, a4⟩ := gp_af (a := 80) (n := 40) (gq_I 0) (by omega) μ
  have x1 : ∀ y j, y ≠ 80 → μ1.1 y j = μ.1 y j := fun y j h => a3 y j fun c => h c.1
  obtain ⟨μ', s', z1, z2, z3, z4, z5⟩ := gh_coutL ok ha hT2 hL hφ (k := fun (μ21 : gx_M) => some ((), μ21)) T 4000 0 μ1 (fun _ => 0) (by omega) (by omega) (gq_cS_sm hc fun i hi => funext fun j => x1 _ _ (by omega)) (fun e he => a2 e he) (fun e he => ⟨by show (0 : Nat) ≤ 9; omega, fun h => absurd rfl h, fun b m h => absurd h.2 (Nat.not_lt_zero _)⟩)
  refine ⟨μ', s', ?_, z2, z3, fun y j h => (z4 y j h).trans (x1 y j h), z5.trans a4⟩
  unfold f_X1_findRuns
  rw [gq_lit, a1, gq_bd]
  exact z1
