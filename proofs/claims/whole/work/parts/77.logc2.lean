/-! the class looks through all rows -/
def gl_St (φ : Nat → Bool) (n : Nat) (μ : gx_M) : Prop := μ.1 82 3 = gq_I (gm_cnt φ n : Nat) ∧ μ.1 82 4 = gq_I (gl_fo (gl_su (fun j => j / 40)) φ (-1) n) ∧ μ.1 82 5 = gq_I (gl_fo (gl_su (fun j => j % 40)) φ (-1) n) ∧ μ.1 82 6 = gq_I (gl_fo gl_mn φ 40 n) ∧ μ.1 82 7 = gq_I (gl_fo gl_mx φ 0 n) ∧ ∀ m, m < 40 → μ.1 83 m = gq_I (gl_fo (gl_ov m) φ 0 n)
theorem gl_su_e {q : Nat → Nat} {x : Int} {i j a : Nat} (h : q j = a) : gl_su q x i j = if (i : Int) = 0 ∨ x = (a : Int) then (a : Int) else -1 := by
  unfold gl_su
  rw [h]
  by_cases g : i = 0
  · rw [if_pos (Or.inl g), if_pos (Or.inl (by omega))]
  · by_cases g2 : x = a
    · rw [if_pos (Or.inr g2), if_pos (Or.inr g2)]
    · rw [if_neg fun c => c.elim g g2, if_neg fun c => c.elim (fun c => g (by omega)) g2]
theorem gl_St_F {φ : Nat → Bool} {n : Nat} {μ : gx_M} (h : φ n = false) (s : gl_St φ n μ) : gl_St φ (n + 1) μ := by
  obtain ⟨h1, h2, h3, h4, h5, h6⟩ := s
  refine ⟨?_, ?_, ?_, ?_, ?_, fun m hm => ?_⟩
  · rw [gl_cntF h]; exact h1
  · rw [gl_foF h]; exact h2
  · rw [gl_foF h]; exact h3
  · rw [gl_foF h]; exact h4
  · rw [gl_foF h]; exact h5
  · rw [gl_foF h]; exact h6 m hm
theorem gl_St_T {g : Nat → Int} {φ : Nat → Bool} {a b : Nat} {μ : gx_M} (hφ : ∀ j, φ j = true ↔ gl_ok g j) (ha : a < 40) (hb : b < 40) (hab : a ≤ b) (h : φ (40 * a + b) = true) (s : gl_St φ (40 * a + b) μ) : ∃ μ', f_X7_takeRow (gq_I a) (gq_I b) μ = some ((), μ') ∧ gl_St φ (40 * a + (b + 1)) μ' ∧ (∀ r j, r ≠ 82 → r ≠ 83 → μ'.1 r j = μ.1 r j) ∧ μ'.2 = μ.2 := by
  obtain ⟨n, hn⟩ : ∃ n, n = 40 * a + b := ⟨_, rfl⟩
  have hd : n / 40 = a := by omega
  have hm : n % 40 = b := by omega
  rw [← hn] at h s
  rw [show 40 * a + (b + 1) = n + 1 by omega]
  obtain ⟨h1, h2, h3, h4, h5, h6⟩ := s
  have lt := gl_lt hφ (n := n) (by omega) h
  have bx := gl_su_b (q := fun j => j / 40) (φ := φ) (n := n) (fun j hj => by show j / 40 < 40; omega)
  have by' := gl_su_b (q := fun j => j % 40) (φ := φ) (n := n) (fun j hj => by show j % 40 < 40; omega)
  have bu := gl_mn_b (φ := φ) (n := n) (b := 40) (by omega) (by omega)
  have bv := gl_mx_b (φ := φ) (n := n) (by omega)
  obtain ⟨μ', t0, t1, t2, t3, t4, t5, t6, t7, t8⟩ := gl_take (a := a) (b := b) ha hb hab (c := (gm_cnt φ n : Nat)) (by omega) bx by' bu bv h1 h2 h3 h4 h5
  refine ⟨μ', t0, ⟨?_, ?_, ?_, ?_, ?_, fun m hm2 => ?_⟩, t7, t8⟩
  · rw [t1, gl_cntT h]; rfl
  · rw [t2, gl_foT h, gl_su_e (q := fun j => j / 40) (a := a) hd]
  · rw [t3, gl_foT h, gl_su_e (q := fun j => j % 40) (a := b) hm]
  · rw [t4, gl_foT h, show gl_mn (gl_fo gl_mn φ 40 n) (gm_cnt φ n) n = if gl_len n < gl_fo gl_mn φ 40 n then gl_len n else gl_fo gl_mn φ 40 n from rfl, show gl_len n = (b : Int) - a + 1 by unfold gl_len; rw [hd, hm]]
  · rw [t5, gl_foT h, show gl_mx (gl_fo gl_mx φ 0 n) (gm_cnt φ n) n = if gl_fo gl_mx φ 0 n < gl_len n then gl_len n else gl_fo gl_mx φ 0 n from rfl, show gl_len n = (b : Int) - a + 1 by unfold gl_len; rw [hd, hm]]
  · rw [t6 m, gl_foT h, show gl_ov m (gl_fo (gl_ov m) φ 0 n) (gm_cnt φ n) n = if n / 40 ≤ m ∧ m ≤ n % 40 then gl_fo (gl_ov m) φ 0 n + 1 else gl_fo (gl_ov m) φ 0 n from rfl, hd, hm, h6 m hm2]
    by_cases g : a ≤ m ∧ m ≤ b
    · rw [if_pos g, if_pos g, gq_add]
    · rw [if_neg g, if_neg g]
/-- the two sets of a log: gone, there -/
def gl_mk (g : Nat → Int) (μ : gx_M) : Prop := (∀ m, m < 64 → (gm_b (μ.2 82 0) m = true ↔ ∃ k : Nat, (k : Int) < g 0 ∧ g (1 + 2 * k) = 1 ∧ g (2 + 2 * k) = m)) ∧ ∀ m, m < 64 → (gm_b (μ.2 82 1) m = true ↔ ∃ k : Nat, (k : Int) < g 0 ∧ g (1 + 2 * k) ≠ 1 ∧ g (2 + 2 * k) = m)
theorem gl_inw {x W : Int64} {P : Nat → Prop} (h : ∀ j, j < 64 → (gm_b W j = true ↔ P j)) : (x &&& (W ^^^ gq_L (-1)) = gq_L 0) ↔ ∀ j, j < 64 → gm_b x j = true → P j := by
  constructor
  · intro e j hj hx
    have := congrArg (fun y => gm_b y j) e
    simp only [gm_and] at this
    rw [gm_not hj, gm_0 j hj, hx, Bool.true_and] at this
    cases hb : gm_b W j
    · rw [hb] at this; exact absurd this (by decide)
    · exact (h j hj).mp hb
  · intro e
    refine gm_ext fun j hj => ?_
    rw [gm_and, gm_not hj, gm_0 j hj]
    cases hx : gm_b x j
    · rfl
    · rw [(h j hj).mpr (e j hj hx)]; rfl
theorem gl_ouw {x W : Int64} {P : Nat → Prop} (h : ∀ j, j < 64 → (gm_b W j = true ↔ P j)) : (x &&& W = gq_L 0) ↔ ∀ j, j < 64 → gm_b x j = true → ¬ P j := by
  constructor
  · intro e j hj hx hp
    have := congrArg (fun y => gm_b y j) e
    simp only [gm_and] at this
    rw [gm_0 j hj, hx, (h j hj).mpr hp] at this
    exact absurd this (by decide)
  · intro e
    refine gm_ext fun j hj => ?_
    rw [gm_and, gm_0 j hj]
    cases hx : gm_b x j
    · rfl
    · cases hw : gm_b W j
      · rfl
      · exact absurd ((h j hj).mp hw) (e j hj hx)
theorem gl_agr {g : Nat → Int} {φ : Nat → Bool} {a b : Nat} {μ : gx_M} (og : gq_okG g) (hφ : ∀ j, φ j = true ↔ gl_ok g j) (hab : a ≤ b) (hb : b < 40) (hk : gl_mk g μ) : f_X7_agrees (gq_I a) (gq_I b) μ = true ↔ φ (40 * a + b) = true := by
  have hd : (40 * a + b) / 40 = a := by omega
  have hm : (40 * a + b) % 40 = b := by omega
  have win : ∀ j, j < 64 → (gm_b (((gq_L 1 <<< (gq_L (b + 1 - a : Nat) &&& gq_L 63)) - gq_L 1) <<< (gq_L a &&& gq_L 63)) j = true ↔ a ≤ j ∧ j ≤ b) := fun j hj => by
    rw [gm_win (n := b + 1 - a) (i := a) (by omega) (by omega) hj, decide_eq_true_iff]
    omega
  have e : ((((1 : Int64) <<< ((((gq_I b - gq_I a) + 1) : Int32).toInt64 &&& 63)) - 1) <<< ((gq_I a : Int32).toInt64 &&& 63)) = (((gq_L 1 <<< (gq_L (b + 1 - a : Nat) &&& gq_L 63)) - gq_L 1) <<< (gq_L a &&& gq_L 63)) := by
    rw [gq_lit, gq_sub, gq_add, gq_toL (by omega), gq_toL (by omega), gq_Llit, gq_Llit, show (b : Int) - a + 1 = ((b + 1 - a : Nat) : Int) by omega]
  unfold f_X7_agrees
  rw [e, gq_lte]
  have i1 := gl_inw (x := μ.2 82 0) win
  have i2 := gl_ouw (x := μ.2 82 1) win
  rw [hφ]
  unfold gl_ok gl_in
  rw [hd, hm]
  have ok : (((μ.2 82 0) &&& ((((gq_L 1 <<< (gq_L (b + 1 - a : Nat) &&& gq_L 63)) - gq_L 1) <<< (gq_L a &&& gq_L 63)) ^^^ gq_L (-1)) = gq_L 0) ∧ ((μ.2 82 1) &&& (((gq_L 1 <<< (gq_L (b + 1 - a : Nat) &&& gq_L 63)) - gq_L 1) <<< (gq_L a &&& gq_L 63))) = gq_L 0) ↔ (a ≤ b ∧ ∀ k : Nat, (k : Int) < g 0 → (g (1 + 2 * k) = 1 ↔ (a : Int) ≤ g (2 + 2 * k) ∧ g (2 + 2 * k) ≤ (b : Int))) := by
    rw [i1, i2]
    constructor
    · rintro ⟨h1, h2⟩
      refine ⟨hab, fun k hk2 => ?_⟩
      have o := og.2 k hk2
      obtain ⟨m, hm2⟩ : ∃ m : Nat, g (2 + 2 * k) = m := ⟨(g (2 + 2 * k)).toNat, by omega⟩
      rw [hm2] at o ⊢
      constructor
      · intro h3
        have := h1 m (by omega) ((hk.1 m (by omega)).mpr ⟨k, hk2, h3, hm2⟩)
        omega
      · intro h3
        by_cases h4 : g (1 + 2 * k) = 1
        · exact h4
        · have := h2 m (by omega) ((hk.2 m (by omega)).mpr ⟨k, hk2, h4, hm2⟩)
          exact absurd ⟨by omega, by omega⟩ this
    · rintro ⟨_, h3⟩
      refine ⟨fun j hj hx => ?_, fun j hj hx hp => ?_⟩
      · obtain ⟨k, k1, k2, k3⟩ := (hk.1 j hj).mp hx
        have := (h3 k k1).mp k2
        omega
      · obtain ⟨k, k1, k2, k3⟩ := (hk.2 j hj).mp hx
        exact k2 ((h3 k k1).mpr (by omega))
  rw [← ok]
  rw [show (0 : Int64) = gq_L 0 from rfl, show (-1 : Int64) = gq_L (-1) from rfl]
  constructor
  · intro h
    by_cases g1 : ((μ.2 82 0) &&& ((((gq_L 1 <<< (gq_L (b + 1 - a : Nat) &&& gq_L 63)) - gq_L 1) <<< (gq_L a &&& gq_L 63)) ^^^ gq_L (-1)) = gq_L 0)
    · rw [if_pos g1] at h
      by_cases g2 : ((μ.2 82 1) &&& (((gq_L 1 <<< (gq_L (b + 1 - a : Nat) &&& gq_L 63)) - gq_L 1) <<< (gq_L a &&& gq_L 63))) = gq_L 0
      · exact ⟨g1, g2⟩
      · rw [if_neg g2] at h; exact absurd h (by decide)
    · rw [if_neg g1] at h; exact absurd h (by decide)
  · rintro ⟨g1, g2⟩
    rw [if_pos g1, if_pos g2]
theorem gl_factsL {g : Nat → Int} {a : Nat} (og : gq_okG g) {k : gx_M → Option (Unit × gx_M)} : ∀ (d f i : Nat) (μ : gx_M), d < f → (i : Int) + d = g 0 → gq_cG μ a g → ∃ μ', L_X7_takeFacts_12 a 8 k f (gq_I i) μ = k μ' ∧ μ'.1 = μ.1 ∧ (∀ r, r ≠ 82 → μ'.2 r = μ.2 r) ∧ (∀ m, m < 64 → (gm_b (μ'.2 82 0) m = true ↔ gm_b (μ.2 82 0) m = true ∨ ∃ k : Nat, i ≤ k ∧ (k : Int) < g 0 ∧ g (1 + 2 * k) = 1 ∧ g (2 + 2 * k) = m)) ∧ ∀ m, m < 64 → (gm_b (μ'.2 82 1) m = true ↔ gm_b (μ.2 82 1) m = true ∨ ∃ k : Nat, i ≤ k ∧ (k : Int) < g 0 ∧ g (1 + 2 * k) ≠ 1 ∧ g (2 + 2 * k) = m)
  | _, 0, _, _, hf, _, _ => absurd hf (Nat.not_lt_zero _)
  | 0, f + 1, i, μ, hf, hi, hc => by
    have o0 := og.1
    refine ⟨μ, ?_, rfl, fun _ _ => rfl, fun m hm => ⟨fun h => Or.inl h, ?_⟩, fun m hm => ⟨fun h => Or.inl h, ?_⟩⟩
    · rw [L_X7_takeFacts_12.eq_2, hc.1]
      simp (disch := omega) only [Int.reduceToNat, gq_lit, gq_neg, gq_add, gq_sub, gq_mul, gq_nat, Int.toNat_natCast, gq_tadd, gq_tmul, gq_lte, gq_br, gq_bd, gq_ck, Bool.false_eq_true, gq_leT, gq_leF, gq_ltT, gq_ltF, gq_eqT, gq_eqF, if_true, if_false]
    · rintro (h | ⟨k, k1, k2, _⟩)
      · exact h
      · omega
    · rintro (h | ⟨k, k1, k2, _⟩)
      · exact h
      · omega
  | d + 1, f + 1, i, μ, hf, hi, hc => by
    have o0 := og.1
    obtain ⟨o1, o2⟩ := og.2 i (by omega)
    obtain ⟨c1, c2⟩ := hc.2 i (by omega)
    obtain ⟨m0, hm0⟩ : ∃ m : Nat, g (2 + 2 * i) = m := ⟨(g (2 + 2 * i)).toNat, by omega⟩
    rw [hm0] at o2 c2
    have en : f_X2_number a 8 (gq_I i) (gq_I 0) μ = some (gq_I m0) := by
      rw [gq_numb (n := 8) (by omega) (by omega), Int.toNat_natCast, show 3 * i + (0 : Int).toNat = 3 * i from rfl, c2]
    by_cases gg : g (1 + 2 * i) = 1
    · obtain ⟨μ', e1, e2, e3, e4, e5⟩ := gl_factsL og (k := k) d f (i + 1) (gx_uL μ 82 0 (μ.2 82 0 ||| (gq_L 1 <<< (gq_L m0 &&& gq_L 63)))) (by omega) (by omega) hc
      refine ⟨μ', ?_, e2, fun r hr => ?_, fun m hm => ?_, fun m hm => ?_⟩
      · rw [L_X7_takeFacts_12.eq_2, hc.1]
        simp (disch := omega) only [Int.reduceToNat, gq_lit, gq_neg, gq_add, gq_sub, gq_mul, gq_nat, Int.toNat_natCast, gq_tadd, gq_tmul, gq_lte, gq_br, gq_bd, gq_ck, Bool.false_eq_true, gq_leT, gq_leF, gq_ltT, gq_ltF, gq_eqT, gq_eqF, if_true, if_false, en, c1, gq_toL, gq_Llit]
        exact e1
      · rw [e3 r hr]
        funext j
        rw [gq_uL2, if_neg (by omega)]
      · rw [e4 m hm, gq_uL2, if_pos ⟨rfl, rfl⟩, gm_or1 (by omega) hm, Bool.or_eq_true, decide_eq_true_iff]
        constructor
        · rintro ((h | h) | ⟨k, k1, k2⟩)
          · exact Or.inl h
          · exact Or.inr ⟨i, Nat.le_refl i, by omega, gg, by omega⟩
          · exact Or.inr ⟨k, by omega, k2⟩
        · rintro (h | ⟨k, k1, k2, k3, k4⟩)
          · exact Or.inl (Or.inl h)
          · by_cases e : k = i
            · subst e; exact Or.inl (Or.inr (by omega))
            · exact Or.inr ⟨k, by omega, k2, k3, k4⟩
      · rw [e5 m hm, gq_uL2, if_neg (by omega)]
        constructor
        · rintro (h | ⟨k, k1, k2⟩)
          · exact Or.inl h
          · exact Or.inr ⟨k, by omega, k2⟩
        · rintro (h | ⟨k, k1, k2, k3, k4⟩)
          · exact Or.inl h
          · by_cases e : k = i
            · subst e; exact absurd gg k3
            · exact Or.inr ⟨k, by omega, k2, k3, k4⟩
    · obtain ⟨μ', e1, e2, e3, e4, e5⟩ := gl_factsL og (k := k) d f (i + 1) (gx_uL μ 82 1 (μ.2 82 1 ||| (gq_L 1 <<< (gq_L m0 &&& gq_L 63)))) (by omega) (by omega) hc
      refine ⟨μ', ?_, e2, fun r hr => ?_, fun m hm => ?_, fun m hm => ?_⟩
      · rw [L_X7_takeFacts_12.eq_2, hc.1]
        simp (disch := omega) only [Int.reduceToNat, gq_lit, gq_neg, gq_add, gq_sub, gq_mul, gq_nat, Int.toNat_natCast, gq_tadd, gq_tmul, gq_lte, gq_br, gq_bd, gq_ck, Bool.false_eq_true, gq_leT, gq_leF, gq_ltT, gq_ltF, gq_eqT, gq_eqF, if_true, if_false, en, c1, gq_toL, gq_Llit]
        exact e1
      · rw [e3 r hr]
        funext j
        rw [gq_uL2, if_neg (by omega)]
      · rw [e4 m hm, gq_uL2, if_neg (by omega)]
        constructor
        · rintro (h | ⟨k, k1, k2⟩)
          · exact Or.inl h
          · exact Or.inr ⟨k, by omega, k2⟩
        · rintro (h | ⟨k, k1, k2, k3, k4⟩)
          · exact Or.inl h
          · by_cases e : k = i
            · subst e; exact absurd k3 gg
            · exact Or.inr ⟨k, by omega, k2, k3, k4⟩
      · rw [e5 m hm, gq_uL2, if_pos ⟨rfl, rfl⟩, gm_or1 (by omega) hm, Bool.or_eq_true, decide_eq_true_iff]
        constructor
        · rintro ((h | h) | ⟨k, k1, k2⟩)
          · exact Or.inl h
          · exact Or.inr ⟨i, Nat.le_refl i, by omega, gg, by omega⟩
          · exact Or.inr ⟨k, by omega, k2⟩
        · rintro (h | ⟨k, k1, k2, k3, k4⟩)
          · exact Or.inl (Or.inl h)
          · by_cases e : k = i
            · subst e; exact Or.inl (Or.inr (by omega))
            · exact Or.inr ⟨k, by omega, k2, k3, k4⟩
theorem gl_lk49 {g : Nat → Int} {φ : Nat → Bool} {a : Nat} (og : gq_okG g) (hφ : ∀ j, φ j = true ↔ gl_ok g j) (ha : a < 40) {k : gx_M → Option (Unit × gx_M)} : ∀ (d f b : Nat) (μ : gx_M), d < f → b + d = 40 → a ≤ b → gl_St φ (40 * a + b) μ → gl_mk g μ → ∃ μ', L_X7_look_49 (gq_I a) k f (gq_I b) μ = k μ' ∧ gl_St φ (40 * (a + 1)) μ' ∧ (∀ r j, r ≠ 82 → r ≠ 83 → μ'.1 r j = μ.1 r j) ∧ μ'.2 = μ.2
  | _, 0, _, _, hf, _, _, _, _ => absurd hf (Nat.not_lt_zero _)
  | 0, f + 1, b, μ, hf, hb, hab, hs, hk => by
    refine ⟨μ, ?_, ?_, fun _ _ _ _ => rfl, rfl⟩
    · rw [L_X7_look_49.eq_2]
      simp (disch := omega) only [Int.reduceToNat, gq_lit, gq_neg, gq_add, gq_sub, gq_mul, gq_nat, Int.toNat_natCast, gq_tadd, gq_tmul, gq_lte, gq_br, gq_bd, gq_ck, Bool.false_eq_true, gq_leT, gq_leF, gq_ltT, gq_ltF, gq_eqT, gq_eqF, if_true, if_false]
    · rw [show 40 * (a + 1) = 40 * a + b by omega]; exact hs
  | d + 1, f + 1, b, μ, hf, hb, hab, hs, hk => by
    have ag := gl_agr og hφ hab (b := b) (by omega) hk
    cases hp : φ (40 * a + b)
    · have na : ¬ f_X7_agrees (gq_I a) (gq_I b) μ = true := fun c => by rw [ag.mp c] at hp; exact absurd hp (by decide)
      obtain ⟨μ', e1, e2, e3, e4⟩ := gl_lk49 og hφ ha (k := k) d f (b + 1) μ (by omega) (by omega) (by omega) (gl_St_F hp hs) hk
      refine ⟨μ', ?_, e2, e3, e4⟩
      rw [L_X7_look_49.eq_2]
      simp (disch := omega) only [Int.reduceToNat, gq_lit, gq_neg, gq_add, gq_sub, gq_mul, gq_nat, Int.toNat_natCast, gq_tadd, gq_tmul, gq_lte, gq_br, gq_bd, gq_ck, Bool.false_eq_true, gq_leT, gq_leF, gq_ltT, gq_ltF, gq_eqT, gq_eqF, if_true, if_false]
      rw [if_neg na]
      exact e1
    · obtain ⟨μ1, t0, t1, t2, t3⟩ := gl_St_T hφ ha (by omega) hab hp hs
      obtain ⟨μ', e1, e2, e3, e4⟩ := gl_lk49 og hφ ha (k := k) d f (b + 1) μ1 (by omega) (by omega) (by omega) t1 (by unfold gl_mk; rw [t3]; exact hk)
      refine ⟨μ', ?_, e2, fun r j h1 h2 => (e3 r j h1 h2).trans (t2 r j h1 h2), e4.trans t3⟩
      rw [L_X7_look_49.eq_2]
      simp (disch := omega) only [Int.reduceToNat, gq_lit, gq_neg, gq_add, gq_sub, gq_mul, gq_nat, Int.toNat_natCast, gq_tadd, gq_tmul, gq_lte, gq_br, gq_bd, gq_ck, Bool.false_eq_true, gq_leT, gq_leF, gq_ltT, gq_ltF, gq_eqT, gq_eqF, if_true, if_false]
      rw [if_pos (ag.mpr hp), t0]
      exact e1
theorem gl_skip {g : Nat → Int} {φ : Nat → Bool} {a : Nat} {μ : gx_M} (hφ : ∀ j, φ j = true ↔ gl_ok g j) (hs : gl_St φ (40 * a) μ) : ∀ i, i ≤ a → i < 41 → gl_St φ (40 * a + i) μ
  | 0, _, _ => hs
  | i + 1, h, h2 => by
    refine gl_St_F ?_ (gl_skip hφ hs i (by omega) (by omega))
    cases hp : φ (40 * a + i)
    · rfl
    · have := ((hφ _).mp hp).1
      omega
theorem gl_lk41 {g : Nat → Int} {φ : Nat → Bool} (og : gq_okG g) (hφ : ∀ j, φ j = true ↔ gl_ok g j) {k : gx_M → Option (Unit × gx_M)} : ∀ (d f a : Nat) (μ : gx_M), d < f → a + d = 40 → gl_St φ (40 * a) μ → gl_mk g μ → ∃ μ', L_X7_look_41 k f (gq_I a) μ = k μ' ∧ gl_St φ 1600 μ' ∧ (∀ r j, r ≠ 82 → r ≠ 83 → μ'.1 r j = μ.1 r j) ∧ μ'.2 = μ.2
  | _, 0, _, _, hf, _, _, _ => absurd hf (Nat.not_lt_zero _)
  | 0, f + 1, a, μ, hf, ha, hs, hk => by
    refine ⟨μ, ?_, ?_, fun _ _ _ _ => rfl, rfl⟩
    · rw [L_X7_look_41.eq_2]
      simp (disch := omega) only [Int.reduceToNat, gq_lit, gq_neg, gq_add, gq_sub, gq_mul, gq_nat, Int.toNat_natCast, gq_tadd, gq_tmul, gq_lte, gq_br, gq_bd, gq_ck, Bool.false_eq_true, gq_leT, gq_leF, gq_ltT, gq_ltF, gq_eqT, gq_eqF, if_true, if_false]
    · rw [show 1600 = 40 * a by omega]; exact hs
  | d + 1, f + 1, a, μ, hf, ha, hs, hk => by
    have hs2 := gl_skip hφ hs a (Nat.le_refl a) (by omega)
    obtain ⟨μ1, a1, a2, a3, a4⟩ := gl_lk49 og hφ (a := a) (by omega) (k := fun (μ24 : gx_M) => L_X7_look_41 k f (gq_I (a + 1 : Nat)) μ24) (40 - a) 4000 a μ (by omega) (by omega) (Nat.le_refl a) hs2 hk
    obtain ⟨μ', e1, e2, e3, e4⟩ := gl_lk41 og hφ (k := k) d f (a + 1) μ1 (by omega) (by omega) a2 (by unfold gl_mk; rw [a4]; exact hk)
    refine ⟨μ', ?_, e2, fun r j h1 h2 => (e3 r j h1 h2).trans (a3 r j h1 h2), e4.trans a4⟩
    rw [L_X7_look_41.eq_2]
    simp (disch := omega) only [Int.reduceToNat, gq_lit, gq_neg, gq_add, gq_sub, gq_mul, gq_nat, Int.toNat_natCast, gq_tadd, gq_tmul, gq_lte, gq_br, gq_bd, gq_ck, Bool.false_eq_true, gq_leT, gq_leF, gq_ltT, gq_ltF, gq_eqT, gq_eqF, if_true, if_false]
    refine Eq.trans a1 ?_
    exact e1
theorem gl_look {μ : gx_M} {a : Nat} {g : Nat → Int} {φ : Nat → Bool} (ha : a < 62 ∨ 89 ≤ a) (og : gq_okG g) (hφ : ∀ j, φ j = true ↔ gl_ok g j) (hc : gq_cG μ a g) : ∃ μ', f_X7_look a 8 μ = some ((), μ') ∧ gl_St φ 1600 μ' ∧ gl_mk g μ' ∧ gq_sm gq_Pc μ μ' := by
  have o0 := og.1
  obtain ⟨μ1, a1, a2, a3, a4, a5⟩ := gl_factsL (a := a) og (k := fun (μ16 : gx_M) => some ((), μ16)) (g 0).toNat 4000 0 (gx_uL (gx_uL μ 82 0 (gq_L 0)) 82 1 (gq_L 0)) (by omega) (by omega) hc
  obtain ⟨μ2, hμ2⟩ : ∃ μ2, μ2 = gx_uI (gx_uI (gx_uI (gx_uI (gx_uI μ1 82 3 (gq_I 0)) 82 4 (gq_I (-1))) 82 5 (gq_I (-1))) 82 6 (gq_I 40)) 82 7 (gq_I 0) := ⟨_, rfl⟩
  obtain ⟨μ3, b1, b2, b3, b4⟩ := gp_af (a := 83) (n := 40) (gq_I 0) (by omega) μ2
  have e82 : ∀ j, μ3.1 82 j = μ2.1 82 j := fun j => b3 _ _ (by omega)
  have s0 : gl_St φ (40 * 0) μ3 := by
    refine ⟨?_, ?_, ?_, ?_, ?_, fun m hm => b2 m hm⟩
    all_goals
      rw [e82, hμ2]
      simp (disch := omega) only [gq_uI1, gq_uI2, gq_uL1, gq_uL2, Nat.reduceEqDiff, false_and, and_false, and_true, true_and, gq_ifF, gq_ifT, if_true, if_false]
      rfl
  have m3 : μ3.2 = μ1.2 := by rw [b4, hμ2]; rfl
  have mk : gl_mk g μ3 := by
    unfold gl_mk
    rw [m3]
    refine ⟨fun m hm => ?_, fun m hm => ?_⟩
    · rw [a4 m hm, gq_uL2, if_neg (by omega), gq_uL2, if_pos ⟨rfl, rfl⟩, gm_0 m hm]
      constructor
      · rintro (h | ⟨k, _, k2⟩)
        · exact absurd h (by decide)
        · exact ⟨k, k2⟩
      · rintro ⟨k, k2⟩
        exact Or.inr ⟨k, Nat.zero_le k, k2⟩
    · rw [a5 m hm, gq_uL2, if_pos ⟨rfl, rfl⟩, gm_0 m hm]
      constructor
      · rintro (h | ⟨k, _, k2⟩)
        · exact absurd h (by decide)
        · exact ⟨k, k2⟩
      · rintro ⟨k, k2⟩
        exact Or.inr ⟨k, Nat.zero_le k, k2⟩
  obtain ⟨μ4, c1, c2, c3, c4⟩ := gl_lk41 og hφ (k := fun (μ26 : gx_M) => some ((), μ26)) 40 4000 0 μ3 (by omega) (by omega) s0 mk
  refine ⟨μ4, ?_, c2, by unfold gl_mk; rw [c4]; exact mk, fun r hr => ⟨?_, ?_⟩⟩
  · unfold f_X7_look f_X7_takeFacts
    simp only [gq_lit, gq_neg, gq_Llit, gq_lte]
    rw [show gq_I ((0 : Nat) : Int) = gq_I 0 from rfl] at a1 c1
    rw [a1, gq_bd, ← hμ2, b1, gq_bd]
    exact c1
  · funext j
    unfold gq_Pc at hr
    rw [c3 r j (by omega) (by omega), b3 r j (by omega), hμ2]
    simp (disch := omega) only [gq_uI1, gq_uI2, gq_uL1, gq_uL2, gq_ifF]
    rw [a2]
    rfl
  · unfold gq_Pc at hr
    rw [c4, m3, a3 r (by omega)]
    funext j
    rw [gq_uL2, if_neg (by omega), gq_uL2, if_neg (by omega)]
