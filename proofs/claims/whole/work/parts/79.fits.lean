/-! fits, span -/
theorem gl_fe_P {f : Int → Nat → Nat → Int} {e : Nat → Nat} {b : Int} (P : Int → Prop) (hb : P b) : ∀ {n : Nat}, (∀ x i, i < n → P x → P (f x i (e i))) → P (gl_fe f e b n)
  | 0, _ => hb
  | n + 1, h => h _ _ (by omega) (gl_fe_P P hb (e := e) (n := n) fun x i hi => h x i (by omega))
theorem gl_les {a b : Int} (h : (-2147483648 ≤ a ∧ a < 2147483648) ∧ -2147483648 ≤ b ∧ b < 2147483648) : f_X12_lesser (gq_I a) (gq_I b) = gq_I (if b < a then b else a) := by
  unfold f_X12_lesser
  by_cases g : b < a
  · rw [if_pos g, if_pos (by rw [gq_le (by omega)]; omega)]
  · rw [if_neg g]
    by_cases g2 : b = a
    · rw [g2, if_pos (by rw [gq_le (by omega)]; omega)]
    · rw [if_neg (by rw [gq_le (by omega)]; omega)]
theorem gl_grt {a b : Int} (h : (-2147483648 ≤ a ∧ a < 2147483648) ∧ -2147483648 ≤ b ∧ b < 2147483648) : f_X12_greater (gq_I a) (gq_I b) = gq_I (if a < b then b else a) := by
  unfold f_X12_greater
  by_cases g : a < b
  · rw [if_pos g, if_pos (by rw [gq_le (by omega)]; omega)]
  · rw [if_neg g]
    by_cases g2 : b = a
    · rw [g2, if_pos (by rw [gq_le (by omega)]; omega)]
    · rw [if_neg (by rw [gq_le (by omega)]; omega)]
def gl_row (ν : gx_M) (C : Nat) (e : Nat → Nat) : Prop := ν.1 206 48 = gq_I (C : Nat) ∧ ∀ i, i < C → ν.1 231 i = gq_I (e i) ∧ e i < 1600 ∧ e i / 40 ≤ e i % 40
theorem gl_ov2 {m : Nat} {e : Nat → Nat} : ∀ n, 0 ≤ gl_fe (gl_ov m) e 0 n ∧ gl_fe (gl_ov m) e 0 n ≤ (n : Nat)
  | 0 => ⟨Int.le_refl 0, Int.le_refl 0⟩
  | n + 1 => by
    have ih := gl_ov2 (m := m) (e := e) n
    show 0 ≤ gl_ov m (gl_fe (gl_ov m) e 0 n) n (e n) ∧ gl_ov m (gl_fe (gl_ov m) e 0 n) n (e n) ≤ (n + 1 : Nat)
    have h2 : gl_ov m (gl_fe (gl_ov m) e 0 n) n (e n) = gl_fe (gl_ov m) e 0 n ∨ gl_ov m (gl_fe (gl_ov m) e 0 n) n (e n) = gl_fe (gl_ov m) e 0 n + 1 := by
      unfold gl_ov
      split
      · exact Or.inr rfl
      · exact Or.inl rfl
    omega
theorem gl_amL {ν : gx_M} {C m : Nat} {e : Nat → Nat} (hC : C ≤ 820) (hm : m < 40) (h : gl_row ν C e) {k : Int32 → Option Int32} : ∀ (d f i : Nat), d < f → i + d = C → L_X12_among_4 ν (gq_I m) k f (gq_I (gl_fe (gl_ov m) e 0 i)) (gq_I i) = k (gq_I (gl_fe (gl_ov m) e 0 C))
  | _, 0, _, hf, _ => absurd hf (Nat.not_lt_zero _)
  | 0, f + 1, i, hf, hi => by
    rw [L_X12_among_4.eq_2, h.1, show i = C by omega]
    simp (disch := omega) only [Int.reduceToNat, gq_lit, gq_neg, gq_add, gq_sub, gq_mul, gq_nat, Int.toNat_natCast, gq_tadd, gq_tmul, gq_lte, gq_br, gq_bd, gq_ck, Bool.false_eq_true, gq_leT, gq_leF, gq_ltT, gq_ltF, gq_eqT, gq_eqF, if_true, if_false]
  | d + 1, f + 1, i, hf, hi => by
    obtain ⟨r1, r2, r3⟩ := h.2 i (by omega)
    rw [← gl_amL hC hm h (k := k) d f (i + 1) (by omega) (by omega), L_X12_among_4.eq_2, h.1, gq_lit]
    have es : gl_fe (gl_ov m) e 0 (i + 1) = if e i / 40 ≤ m ∧ m ≤ e i % 40 then gl_fe (gl_ov m) e 0 i + 1 else gl_fe (gl_ov m) e 0 i := rfl
    simp (disch := omega) only [gq_lte, gq_nat, Int.toNat_natCast, gq_ck, Bool.false_eq_true, gq_leT, gq_leF, gq_ltT, gq_ltF, gq_eqT, gq_eqF, if_true, if_false, r1]
    rw [show (40 : Int32) = gq_I 40 from rfl, gl_em r2, gl_ed r2]
    by_cases g : e i / 40 ≤ m ∧ m ≤ e i % 40
    · rw [if_pos g] at es
      rw [es, if_pos (by rw [gq_inT (by omega)]; trivial)]
      simp only [gq_biT, gq_lit, gq_add]
      rfl
    · rw [if_neg g] at es
      rw [es, if_neg (by rw [gq_inF (by omega)]; exact fun c => c)]
      simp only [gq_biF, gq_lit, gq_add, Int.add_zero]
      rfl
theorem gl_among {ν : gx_M} {C m : Nat} {e : Nat → Nat} (hC : C ≤ 820) (hm : m < 40) (h : gl_row ν C e) : f_X12_among (gq_I m) ν = some (gq_I (gl_fe (gl_ov m) e 0 C)) := by
  unfold f_X12_among
  simp only [gq_lit]
  exact gl_amL hC hm h (k := fun (x2_11 : Int32) => some x2_11) C 4000 0 (by omega) (by omega)
theorem gl_sq1 {ν : gx_M} {C : Nat} {e : Nat → Nat} (hC : C ≤ 820) (h : gl_row ν C e) {k : Int32 → Option Int32} : ∀ (d f i : Nat), d < f → i + d = C → 1 ≤ i → L_X12_sureOf_39 ν true k f (gq_I (gl_fe (gl_su (fun j => j / 40)) e (-1) i)) (gq_I i) = k (gq_I (gl_fe (gl_su (fun j => j / 40)) e (-1) C))
  | _, 0, _, hf, _, _ => absurd hf (Nat.not_lt_zero _)
  | 0, f + 1, i, hf, hi, h1 => by
    rw [L_X12_sureOf_39.eq_2, h.1, show i = C by omega]
    simp (disch := omega) only [Int.reduceToNat, gq_lit, gq_neg, gq_add, gq_sub, gq_mul, gq_nat, Int.toNat_natCast, gq_tadd, gq_tmul, gq_lte, gq_br, gq_bd, gq_ck, Bool.false_eq_true, gq_leT, gq_leF, gq_ltT, gq_ltF, gq_eqT, gq_eqF, if_true, if_false]
  | d + 1, f + 1, i, hf, hi, h1 => by
    obtain ⟨r1, r2, r3⟩ := h.2 i (by omega)
    have bd : -1 ≤ gl_fe (gl_su (fun j => j / 40)) e (-1) i ∧ gl_fe (gl_su (fun j => j / 40)) e (-1) i < 40 := gl_fe_P (fun x => -1 ≤ x ∧ x < 40) (by omega) fun x q hq _ => by
      have := (h.2 q (by omega)).2.1
      rw [gl_su_e (q := fun j => j / 40) (j := e q) (a := e q / 40) rfl]
      split <;> omega
    rw [← gl_sq1 hC h (k := k) d f (i + 1) (by omega) (by omega) (by omega), L_X12_sureOf_39.eq_2, h.1]
    have es : gl_fe (gl_su (fun j => j / 40)) e (-1) (i + 1) = if (i : Int) = 0 ∨ gl_fe (gl_su (fun j => j / 40)) e (-1) i = (e i / 40 : Nat) then ((e i / 40 : Nat) : Int) else -1 := gl_su_e (q := fun j => j / 40) (j := e i) (a := e i / 40) rfl
    simp (disch := omega) only [gq_lte, gq_nat, Int.toNat_natCast, gq_ck, Bool.false_eq_true, gq_leT, gq_leF, gq_ltT, gq_ltF, gq_eqT, gq_eqF, if_true, if_false, r1, gq_lit, gl_ed]
    by_cases g : gl_fe (gl_su (fun j => j / 40)) e (-1) i = (e i / 40 : Nat)
    · rw [if_pos (Or.inr g)] at es
      rw [es, g, if_pos rfl]
      simp only [gq_add]
      rfl
    · rw [if_neg (by omega)] at es
      rw [es, if_neg (by rw [gq_eq (by omega)]; omega)]
      simp only [gq_add, gq_neg]
      rfl
theorem gl_sq2 {ν : gx_M} {C : Nat} {e : Nat → Nat} (hC : C ≤ 820) (h : gl_row ν C e) {k : Int32 → Option Int32} : ∀ (d f i : Nat), d < f → i + d = C → 1 ≤ i → L_X12_sureOf_39 ν false k f (gq_I (gl_fe (gl_su (fun j => j % 40)) e (-1) i)) (gq_I i) = k (gq_I (gl_fe (gl_su (fun j => j % 40)) e (-1) C))
  | _, 0, _, hf, _, _ => absurd hf (Nat.not_lt_zero _)
  | 0, f + 1, i, hf, hi, h1 => by
    rw [L_X12_sureOf_39.eq_2, h.1, show i = C by omega]
    simp (disch := omega) only [Int.reduceToNat, gq_lit, gq_neg, gq_add, gq_sub, gq_mul, gq_nat, Int.toNat_natCast, gq_tadd, gq_tmul, gq_lte, gq_br, gq_bd, gq_ck, Bool.false_eq_true, gq_leT, gq_leF, gq_ltT, gq_ltF, gq_eqT, gq_eqF, if_true, if_false]
  | d + 1, f + 1, i, hf, hi, h1 => by
    obtain ⟨r1, r2, r3⟩ := h.2 i (by omega)
    have bd : -1 ≤ gl_fe (gl_su (fun j => j % 40)) e (-1) i ∧ gl_fe (gl_su (fun j => j % 40)) e (-1) i < 40 := gl_fe_P (fun x => -1 ≤ x ∧ x < 40) (by omega) fun x q hq _ => by
      have := (h.2 q (by omega)).2.1
      rw [gl_su_e (q := fun j => j % 40) (j := e q) (a := e q % 40) rfl]
      split <;> omega
    rw [← gl_sq2 hC h (k := k) d f (i + 1) (by omega) (by omega) (by omega), L_X12_sureOf_39.eq_2, h.1]
    have es : gl_fe (gl_su (fun j => j % 40)) e (-1) (i + 1) = if (i : Int) = 0 ∨ gl_fe (gl_su (fun j => j % 40)) e (-1) i = (e i % 40 : Nat) then ((e i % 40 : Nat) : Int) else -1 := gl_su_e (q := fun j => j % 40) (j := e i) (a := e i % 40) rfl
    simp (disch := omega) only [gq_lte, gq_nat, Int.toNat_natCast, gq_ck, Bool.false_eq_true, gq_leT, gq_leF, gq_ltT, gq_ltF, gq_eqT, gq_eqF, if_true, if_false, r1, gq_lit, gl_em]
    by_cases g : gl_fe (gl_su (fun j => j % 40)) e (-1) i = (e i % 40 : Nat)
    · rw [if_pos (Or.inr g)] at es
      rw [es, g, if_pos rfl]
      simp only [gq_add]
      rfl
    · rw [if_neg (by omega)] at es
      rw [es, if_neg (by rw [gq_eq (by omega)]; omega)]
      simp only [gq_add, gq_neg]
      rfl
theorem gl_sure {ν : gx_M} {C : Nat} {e : Nat → Nat} (hC : C ≤ 820) (h : gl_row ν C e) : f_X12_sureOf true ν = some (gq_I (gl_fe (gl_su (fun j => j / 40)) e (-1) C)) ∧ f_X12_sureOf false ν = some (gq_I (gl_fe (gl_su (fun j => j % 40)) e (-1) C)) := by
  unfold f_X12_sureOf
  rw [h.1]
  simp only [gq_lte, gq_lit, gq_neg, if_true, if_false, Bool.false_eq_true]
  by_cases g : C = 0
  · subst g
    rw [if_pos (c := gq_I ((0 : Nat) : Int) = gq_I 0) rfl, if_pos (c := gq_I ((0 : Nat) : Int) = gq_I 0) rfl]
    refine ⟨?_, ?_⟩
    · rw [L_X12_sureOf_39.eq_2, h.1]
      simp (disch := omega) only [Int.reduceToNat, gq_lit, gq_neg, gq_add, gq_sub, gq_mul, gq_nat, Int.toNat_natCast, gq_tadd, gq_tmul, gq_lte, gq_br, gq_bd, gq_ck, Bool.false_eq_true, gq_leT, gq_leF, gq_ltT, gq_ltF, gq_eqT, gq_eqF, if_true, if_false]
      rfl
    · rw [L_X12_sureOf_39.eq_2, h.1]
      simp (disch := omega) only [Int.reduceToNat, gq_lit, gq_neg, gq_add, gq_sub, gq_mul, gq_nat, Int.toNat_natCast, gq_tadd, gq_tmul, gq_lte, gq_br, gq_bd, gq_ck, Bool.false_eq_true, gq_leT, gq_leF, gq_ltT, gq_ltF, gq_eqT, gq_eqF, if_true, if_false]
      rfl
  · obtain ⟨r1, r2, r3⟩ := h.2 0 (by omega)
    rw [if_neg (by rw [gq_eq (by omega)]; omega), if_neg (by rw [gq_eq (by omega)]; omega), r1, gl_em r2, gl_ed r2]
    refine ⟨?_, ?_⟩
    · have e1 : gl_fe (gl_su (fun j => j / 40)) e (-1) 1 = ((e 0 / 40 : Nat) : Int) := by
        show gl_su _ _ 0 (e 0) = _
        rw [gl_su_e (q := fun j => j / 40) (j := e 0) (a := e 0 / 40) rfl]
        exact if_pos (Or.inl rfl)
      rw [← e1]
      exact gl_sq1 hC h (k := fun (x2_18 : Int32) => some x2_18) (C - 1) 4000 1 (by omega) (by omega) (by omega)
    · have e1 : gl_fe (gl_su (fun j => j % 40)) e (-1) 1 = ((e 0 % 40 : Nat) : Int) := by
        show gl_su _ _ 0 (e 0) = _
        rw [gl_su_e (q := fun j => j % 40) (j := e 0) (a := e 0 % 40) rfl]
        exact if_pos (Or.inl rfl)
      rw [← e1]
      exact gl_sq2 hC h (k := fun (x2_18 : Int32) => some x2_18) (C - 1) 4000 1 (by omega) (by omega) (by omega)
/-- seek, from the second minute on -/
theorem gl_seekL {μ ν : gx_M} {C : Nat} {e : Nat → Nat} (hC : C ≤ 820) (hC0 : 1 ≤ C) (h : gl_row ν C e) (h3 : μ.1 82 3 = gq_I C) (h83 : ∀ m, m < 40 → μ.1 83 m = gq_I (gl_fe (gl_ov m) e 0 C)) {k k2 : Int32 → Option Int32} : ∀ (d f m : Nat) (v : Int) (x : Int), d < f → m + d = 40 → (0 ≤ v ∧ v < 40) → (0 ≤ x ∧ x ≤ 820) → ∃ r : Int32, L_X7_seek_9 μ k f (gq_I v) (gq_I x) (gq_I m) = k r ∧ L_X12_seek_8 ν k2 f (gq_I v) (gq_I x) (gq_I m) = k2 r
  | _, 0, _, _, _, hf, _, _, _ => absurd hf (Nat.not_lt_zero _)
  | 0, f + 1, m, v, x, hf, hm, hv, hx => by
    refine ⟨gq_I v, ?_, ?_⟩
    · rw [L_X7_seek_9.eq_2]
      simp (disch := omega) only [Int.reduceToNat, gq_lit, gq_neg, gq_add, gq_sub, gq_mul, gq_nat, Int.toNat_natCast, gq_tadd, gq_tmul, gq_lte, gq_br, gq_bd, gq_ck, Bool.false_eq_true, gq_leT, gq_leF, gq_ltT, gq_ltF, gq_eqT, gq_eqF, if_true, if_false]
    · rw [L_X12_seek_8.eq_2]
      simp (disch := omega) only [Int.reduceToNat, gq_lit, gq_neg, gq_add, gq_sub, gq_mul, gq_nat, Int.toNat_natCast, gq_tadd, gq_tmul, gq_lte, gq_br, gq_bd, gq_ck, Bool.false_eq_true, gq_leT, gq_leF, gq_ltT, gq_ltF, gq_eqT, gq_eqF, if_true, if_false]
  | d + 1, f + 1, m, v, x, hf, hm, hv, hx => by
    have am := gl_among (m := m) hC (by omega) h
    have c83 := h83 m (by omega)
    have bd := gl_ov2 (m := m) (e := e) C
    obtain ⟨A, hA⟩ : ∃ A, A = gl_fe (gl_ov m) e 0 C := ⟨_, rfl⟩
    rw [← hA] at am c83 bd
    obtain ⟨X, hX⟩ : ∃ X, X = if A < (C : Int) - A then (C : Int) - A else A := ⟨_, rfl⟩
    have bX : 0 ≤ X ∧ X ≤ 820 := by rw [hX]; split <;> omega
    have eg : f_X12_greater (gq_I A) (gq_I C - gq_I A) = gq_I X := by rw [gq_sub, gl_grt (by omega), hX]
    have el := gl_les (a := x) (b := X) (by omega)
    have ec : (if gq_I A < gq_I C - gq_I A then gq_I C - gq_I A else gq_I A) = gq_I X := by
      rw [gq_sub, hX]
      by_cases g : A < (C : Int) - A
      · rw [if_pos g, if_pos (by rw [gq_lt (by omega)]; exact g)]
      · rw [if_neg g, if_neg (by rw [gq_lt (by omega)]; exact g)]
    by_cases g : x ≤ X
    · obtain ⟨r, i1, i2⟩ := gl_seekL hC hC0 h h3 h83 (k := k) (k2 := k2) d f (m + 1) v x (by omega) (by omega) hv hx
      refine ⟨r, ?_, ?_⟩
      · rw [← i1, L_X7_seek_9.eq_2, h3]
        simp (disch := omega) only [gq_lit, gq_neg, gq_lte, gq_br, gq_ck, gq_nat, Int.toNat_natCast, Bool.false_eq_true, gq_leT, gq_leF, gq_ltT, gq_ltF, gq_eqT, gq_eqF, if_true, if_false, c83]
        rw [ec, if_pos (by rw [gq_le (by omega)]; exact g), gq_add]
        rfl
      · rw [← i2, L_X12_seek_8.eq_2, h.1]
        simp (disch := omega) only [gq_lit, gq_neg, gq_lte, gq_br, gq_ck, gq_nat, Int.toNat_natCast, Bool.false_eq_true, gq_leT, gq_leF, gq_ltT, gq_ltF, gq_eqT, gq_eqF, if_true, if_false, am]
        rw [eg, el, if_pos (by rw [gq_le (by omega)]; exact g), if_neg (by omega), gq_add]
        rfl
    · obtain ⟨r, i1, i2⟩ := gl_seekL hC hC0 h h3 h83 (k := k) (k2 := k2) d f (m + 1) m X (by omega) (by omega) (by omega) bX
      refine ⟨r, ?_, ?_⟩
      · rw [← i1, L_X7_seek_9.eq_2, h3]
        simp (disch := omega) only [gq_lit, gq_neg, gq_lte, gq_br, gq_ck, gq_nat, Int.toNat_natCast, Bool.false_eq_true, gq_leT, gq_leF, gq_ltT, gq_ltF, gq_eqT, gq_eqF, if_true, if_false, c83]
        rw [ec, if_neg (by rw [gq_le (by omega)]; exact g), gq_add]
        rfl
      · rw [← i2, L_X12_seek_8.eq_2, h.1]
        simp (disch := omega) only [gq_lit, gq_neg, gq_lte, gq_br, gq_ck, gq_nat, Int.toNat_natCast, Bool.false_eq_true, gq_leT, gq_leF, gq_ltT, gq_ltF, gq_eqT, gq_eqF, if_true, if_false, am]
        rw [eg, el, if_neg (by rw [gq_le (by omega)]; exact g), if_pos (by omega), gq_add]
        rfl
theorem gl_seek {μ ν : gx_M} {C : Nat} {e : Nat → Nat} (hC : C ≤ 820) (h : gl_row ν C e) (h3 : μ.1 82 3 = gq_I C) (h83 : ∀ m, m < 40 → μ.1 83 m = gq_I (gl_fe (gl_ov m) e 0 C)) : ∃ r : Int32, f_X7_seek μ = some r ∧ f_X12_seek ν = some r := by
  unfold f_X7_seek f_X12_seek
  rw [h3]
  simp only [gq_lit, gq_neg, gq_lte]
  by_cases g : C = 0
  · subst g
    refine ⟨gq_I (-1), ?_, ?_⟩
    · rw [L_X7_seek_9.eq_2, h3]
      simp (disch := omega) only [Int.reduceToNat, gq_lit, gq_neg, gq_add, gq_sub, gq_mul, gq_nat, Int.toNat_natCast, gq_tadd, gq_tmul, gq_lte, gq_br, gq_bd, gq_ck, Bool.false_eq_true, gq_leT, gq_leF, gq_ltT, gq_ltF, gq_eqT, gq_eqF, if_true, if_false]
    · rw [L_X12_seek_8.eq_2, h.1]
      simp (disch := omega) only [Int.reduceToNat, gq_lit, gq_neg, gq_add, gq_sub, gq_mul, gq_nat, Int.toNat_natCast, gq_tadd, gq_tmul, gq_lte, gq_br, gq_bd, gq_ck, Bool.false_eq_true, gq_leT, gq_leF, gq_ltT, gq_ltF, gq_eqT, gq_eqF, if_true, if_false]
  · have am := gl_among (m := 0) hC (by omega) h
    have c83 := h83 0 (by omega)
    have bd := gl_ov2 (m := 0) (e := e) C
    obtain ⟨A, hA⟩ : ∃ A, A = gl_fe (gl_ov 0) e 0 C := ⟨_, rfl⟩
    rw [← hA] at am c83 bd
    obtain ⟨X, hX⟩ : ∃ X, X = if A < (C : Int) - A then (C : Int) - A else A := ⟨_, rfl⟩
    have bX : 0 ≤ X ∧ X ≤ 820 := by rw [hX]; split <;> omega
    have eg : f_X12_greater (gq_I A) (gq_I C - gq_I A) = gq_I X := by rw [gq_sub, gl_grt (by omega), hX]
    have el := gl_les (a := 1000000) (b := X) (by omega)
    have ec : (if gq_I A < gq_I C - gq_I A then gq_I C - gq_I A else gq_I A) = gq_I X := by
      rw [gq_sub, hX]
      by_cases g : A < (C : Int) - A
      · rw [if_pos g, if_pos (by rw [gq_lt (by omega)]; exact g)]
      · rw [if_neg g, if_neg (by rw [gq_lt (by omega)]; exact g)]
    obtain ⟨r, i1, i2⟩ := gl_seekL hC (by omega) h h3 h83 (k := fun (x1_17 : Int32) => some x1_17) (k2 := fun (x1_14 : Int32) => some x1_14) 39 3999 1 0 X (by omega) (by omega) (by omega) bX
    have z0 : gq_I 0 = gq_I ((0 : Nat) : Int) := rfl
    rw [z0]
    refine ⟨r, ?_, ?_⟩
    · refine Eq.trans ?_ i1
      rw [L_X7_seek_9.eq_2, h3]
      simp (disch := omega) only [gq_lit, gq_neg, gq_lte, gq_br, gq_ck, gq_nat, Int.toNat_natCast, Bool.false_eq_true, gq_leT, gq_leF, gq_ltT, gq_ltF, gq_eqT, gq_eqF, if_true, if_false, c83]
      rw [ec, gq_add]
      rfl
    · refine Eq.trans ?_ i2
      rw [L_X12_seek_8.eq_2, h.1]
      simp (disch := omega) only [gq_lit, gq_neg, gq_lte, gq_br, gq_ck, gq_nat, Int.toNat_natCast, Bool.false_eq_true, gq_leT, gq_leF, gq_ltT, gq_ltF, gq_eqT, gq_eqF, if_true, if_false, am]
      rw [eg, el, if_neg (by rw [gq_le (by omega)]; omega), if_pos (by omega), gq_add]
      rfl
/-- the class's k-th -/
theorem gl_c13 {μ : gx_M} {g : Nat → Int} {φ : Nat → Bool} {a : Nat} {κ : Int} (og : gq_okG g) (hφ : ∀ j, φ j = true ↔ gl_ok g j) (hk : gl_mk g μ) (ha : a < 40) (hκ : 0 ≤ κ ∧ κ < 2147483648) {k : Int32 → Option Int32} : ∀ (d f b : Nat), d < f → b + d = 40 → a ≤ b → (gm_cnt φ (40 * a + b) : Nat) ≤ κ → ((gm_cnt φ (40 * (a + 1)) : Nat) ≤ κ ∧ L_X7_codeAt_13 (gq_I a) μ (gq_I κ) k f (gq_I (gm_cnt φ (40 * a + b) : Nat)) (gq_I b) = k (gq_I (gm_cnt φ (40 * (a + 1)) : Nat))) ∨ ∃ j, j < 1600 ∧ φ j = true ∧ (gm_cnt φ j : Nat) = κ ∧ L_X7_codeAt_13 (gq_I a) μ (gq_I κ) k f (gq_I (gm_cnt φ (40 * a + b) : Nat)) (gq_I b) = some (gq_I j)
  | _, 0, _, hf, _, _, _ => absurd hf (Nat.not_lt_zero _)
  | 0, f + 1, b, hf, hb, hab, hc => by
    have e : 40 * (a + 1) = 40 * a + b := by omega
    refine Or.inl ⟨by rw [e]; exact hc, ?_⟩
    rw [L_X7_codeAt_13.eq_2, e]
    simp (disch := omega) only [Int.reduceToNat, gq_lit, gq_neg, gq_add, gq_sub, gq_mul, gq_nat, Int.toNat_natCast, gq_tadd, gq_tmul, gq_lte, gq_br, gq_bd, gq_ck, Bool.false_eq_true, gq_leT, gq_leF, gq_ltT, gq_ltF, gq_eqT, gq_eqF, if_true, if_false]
  | d + 1, f + 1, b, hf, hb, hab, hc => by
    have ag := gl_agr og hφ hab (b := b) (by omega) hk
    have le := gm_cnt_le φ (40 * a + b)
    cases hp : φ (40 * a + b)
    · have na : ¬ f_X7_agrees (gq_I a) (gq_I b) μ = true := fun c => by rw [ag.mp c] at hp; exact absurd hp (by decide)
      have step : L_X7_codeAt_13 (gq_I a) μ (gq_I κ) k (f + 1) (gq_I (gm_cnt φ (40 * a + b) : Nat)) (gq_I b) = L_X7_codeAt_13 (gq_I a) μ (gq_I κ) k f (gq_I (gm_cnt φ (40 * a + (b + 1)) : Nat)) (gq_I (b + 1 : Nat)) := by
        rw [show 40 * a + (b + 1) = 40 * a + b + 1 by omega, gl_cntF hp, L_X7_codeAt_13.eq_2]
        simp (disch := omega) only [Int.reduceToNat, gq_lit, gq_neg, gq_add, gq_sub, gq_mul, gq_nat, Int.toNat_natCast, gq_tadd, gq_tmul, gq_lte, gq_br, gq_bd, gq_ck, Bool.false_eq_true, gq_leT, gq_leF, gq_ltT, gq_ltF, gq_eqT, gq_eqF, if_true, if_false]
        rw [if_neg na]
        rfl
      rw [step]
      exact gl_c13 og hφ hk ha hκ d f (b + 1) (by omega) (by omega) (by omega) (by rw [show 40 * a + (b + 1) = 40 * a + b + 1 by omega, gl_cntF hp]; exact hc)
    · by_cases z : (gm_cnt φ (40 * a + b) : Nat) = κ
      · refine Or.inr ⟨40 * a + b, by omega, hp, z, ?_⟩
        rw [L_X7_codeAt_13.eq_2, z]
        simp (disch := omega) only [Int.reduceToNat, gq_lit, gq_neg, gq_add, gq_sub, gq_mul, gq_nat, Int.toNat_natCast, gq_tadd, gq_tmul, gq_lte, gq_br, gq_bd, gq_ck, Bool.false_eq_true, gq_leT, gq_leF, gq_ltT, gq_ltF, gq_eqT, gq_eqF, if_true, if_false]
        rw [if_pos (ag.mpr hp), Int.mul_comm]
        rfl
      · have step : L_X7_codeAt_13 (gq_I a) μ (gq_I κ) k (f + 1) (gq_I (gm_cnt φ (40 * a + b) : Nat)) (gq_I b) = L_X7_codeAt_13 (gq_I a) μ (gq_I κ) k f (gq_I (gm_cnt φ (40 * a + (b + 1)) : Nat)) (gq_I (b + 1 : Nat)) := by
          rw [show 40 * a + (b + 1) = 40 * a + b + 1 by omega, gl_cntT hp, L_X7_codeAt_13.eq_2]
          simp (disch := omega) only [Int.reduceToNat, gq_lit, gq_neg, gq_add, gq_sub, gq_mul, gq_nat, Int.toNat_natCast, gq_tadd, gq_tmul, gq_lte, gq_br, gq_bd, gq_ck, Bool.false_eq_true, gq_leT, gq_leF, gq_ltT, gq_ltF, gq_eqT, gq_eqF, if_true, if_false]
          rw [if_pos (ag.mpr hp)]
          rfl
        rw [step]
        exact gl_c13 og hφ hk ha hκ d f (b + 1) (by omega) (by omega) (by omega) (by rw [show 40 * a + (b + 1) = 40 * a + b + 1 by omega, gl_cntT hp]; omega)
theorem gl_skipc {g : Nat → Int} {φ : Nat → Bool} {a : Nat} (hφ : ∀ j, φ j = true ↔ gl_ok g j) : ∀ i, i ≤ a → i < 41 → gm_cnt φ (40 * a + i) = gm_cnt φ (40 * a)
  | 0, _, _ => rfl
  | i + 1, h, h2 => by
    have hp : φ (40 * a + i) = false := by
      cases hp : φ (40 * a + i)
      · rfl
      · have := ((hφ _).mp hp).1
        omega
    rw [show 40 * a + (i + 1) = 40 * a + i + 1 by omega, gl_cntF hp]
    exact gl_skipc hφ i (by omega) (by omega)
theorem gl_c4 {μ : gx_M} {g : Nat → Int} {φ : Nat → Bool} {κ : Int} (og : gq_okG g) (hφ : ∀ j, φ j = true ↔ gl_ok g j) (hk : gl_mk g μ) (hκ : 0 ≤ κ ∧ κ < 2147483648) {k : Option Int32} : ∀ (d f a : Nat), d < f → a + d = 40 → (gm_cnt φ (40 * a) : Nat) ≤ κ → ((gm_cnt φ 1600 : Nat) ≤ κ ∧ L_X7_codeAt_4 μ (gq_I κ) k f (gq_I (gm_cnt φ (40 * a) : Nat)) (gq_I a) = k) ∨ ∃ j, j < 1600 ∧ φ j = true ∧ (gm_cnt φ j : Nat) = κ ∧ L_X7_codeAt_4 μ (gq_I κ) k f (gq_I (gm_cnt φ (40 * a) : Nat)) (gq_I a) = some (gq_I j)
  | _, 0, _, hf, _, _ => absurd hf (Nat.not_lt_zero _)
  | 0, f + 1, a, hf, ha, hc => by
    refine Or.inl ⟨by rw [show 1600 = 40 * a by omega]; exact hc, ?_⟩
    rw [L_X7_codeAt_4.eq_2]
    simp (disch := omega) only [Int.reduceToNat, gq_lit, gq_neg, gq_add, gq_sub, gq_mul, gq_nat, Int.toNat_natCast, gq_tadd, gq_tmul, gq_lte, gq_br, gq_bd, gq_ck, Bool.false_eq_true, gq_leT, gq_leF, gq_ltT, gq_ltF, gq_eqT, gq_eqF, if_true, if_false]
  | d + 1, f + 1, a, hf, ha, hc => by
    have sk := gl_skipc hφ a (Nat.le_refl a) (by omega)
    have step : L_X7_codeAt_4 μ (gq_I κ) k (f + 1) (gq_I (gm_cnt φ (40 * a) : Nat)) (gq_I a) = L_X7_codeAt_13 (gq_I a) μ (gq_I κ) (fun (x2_14 : Int32) => L_X7_codeAt_4 μ (gq_I κ) k f x2_14 (gq_I (a + 1 : Nat))) 4000 (gq_I (gm_cnt φ (40 * a + a) : Nat)) (gq_I a) := by
      rw [sk, L_X7_codeAt_4.eq_2]
      simp (disch := omega) only [Int.reduceToNat, gq_lit, gq_neg, gq_add, gq_sub, gq_mul, gq_nat, Int.toNat_natCast, gq_tadd, gq_tmul, gq_lte, gq_br, gq_bd, gq_ck, Bool.false_eq_true, gq_leT, gq_leF, gq_ltT, gq_ltF, gq_eqT, gq_eqF, if_true, if_false]
      rfl
    rw [step]
    rcases gl_c13 og hφ hk (a := a) (by omega) hκ (k := fun (x2_14 : Int32) => L_X7_codeAt_4 μ (gq_I κ) k f x2_14 (gq_I (a + 1 : Nat))) (40 - a) 4000 a (by omega) (by omega) (Nat.le_refl a) (by rw [sk]; exact hc) with ⟨h1, h2⟩ | ⟨j, j1, j2, j3, j4⟩
    · rw [h2]
      exact gl_c4 og hφ hk hκ d f (a + 1) (by omega) (by omega) h1
    · exact Or.inr ⟨j, j1, j2, j3, j4⟩
theorem gl_codeAt {μ : gx_M} {g : Nat → Int} {φ : Nat → Bool} {κ : Int} (og : gq_okG g) (hφ : ∀ j, φ j = true ↔ gl_ok g j) (hk : gl_mk g μ) (hκ : 0 ≤ κ ∧ κ < 2147483648) : ((gm_cnt φ 1600 : Nat) ≤ κ ∧ f_X7_codeAt (gq_I κ) μ = some (gq_I (-2))) ∨ ∃ j, j < 1600 ∧ φ j = true ∧ (gm_cnt φ j : Nat) = κ ∧ f_X7_codeAt (gq_I κ) μ = some (gq_I j) := by
  unfold f_X7_codeAt
  simp only [gq_lit, gq_neg]
  exact gl_c4 og hφ hk hκ (k := some (gq_I (-2))) 40 4000 0 (by omega) (by omega) (by show ((0 : Nat) : Int) ≤ κ; omega)
