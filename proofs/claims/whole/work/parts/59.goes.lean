/-! one deed of a year -/
theorem gy_goes {μ ν : gx_M} {s : Nat} {w : Nat → Int} (h : gy_R μ ν s w) (ok : gq_okS w) (hs : s < 8) {k a b c : Int} (hk : 0 ≤ k ∧ k ≤ 6) (ha : -2147483648 ≤ a ∧ a < 2147483648) (hb : -2147483648 ≤ b ∧ b < 2147483648) (hc : -2147483648 ≤ c ∧ c < 2147483648) : gy_st (f_X3_goes (gq_I (6 + k)) (gq_I a) (gq_I b) (gq_I c)) (f_X12_does (gq_I k) (gq_I a) (gq_I b) (gq_I c)) μ ν s w := by
  have key : ∀ F G : gx_M → Option (Bool × gx_M), gy_st F G μ ν s w → f_X3_goes (gq_I (6 + k)) (gq_I a) (gq_I b) (gq_I c) μ = F μ → f_X12_does (gq_I k) (gq_I a) (gq_I b) (gq_I c) ν = G ν → gy_st (f_X3_goes (gq_I (6 + k)) (gq_I a) (gq_I b) (gq_I c)) (f_X12_does (gq_I k) (gq_I a) (gq_I b) (gq_I c)) μ ν s w := by
    intro F G hF e1 e2
    obtain ⟨r, μ', ν', h1, h2, h3⟩ := hF
    exact ⟨r, μ', ν', e1.trans h1, e2.trans h2, h3⟩
  have c1 : k = 0 ∨ k = 1 ∨ k = 2 ∨ k = 3 ∨ k = 4 ∨ k = 5 ∨ k = 6 := by omega
  rcases c1 with rfl | rfl | rfl | rfl | rfl | rfl | rfl
  · refine key _ _ (gy_buys h ok ha hb (x := c)) ?_ rfl
    unfold f_X3_goes
    simp (disch := omega) only [gq_lit, gq_neg, Bool.false_eq_true, gq_leT, gq_leF, gq_ltT, gq_ltF, gq_eqT, gq_eqF, if_true, if_false]
    exact gy_bds _
  · refine key _ _ (gy_thinks h ok ha hb (x := c)) ?_ rfl
    unfold f_X3_goes
    simp (disch := omega) only [gq_lit, gq_neg, Bool.false_eq_true, gq_leT, gq_leF, gq_ltT, gq_ltF, gq_eqT, gq_eqF, if_true, if_false]
    exact gy_bds _
  · refine key _ _ (gy_steals h ok ha hb (x := c)) ?_ rfl
    unfold f_X3_goes
    simp (disch := omega) only [gq_lit, gq_neg, Bool.false_eq_true, gq_leT, gq_leF, gq_ltT, gq_ltF, gq_eqT, gq_eqF, if_true, if_false]
    exact gy_bds _
  · refine key _ _ (gy_sells h ok ha hb (x := c)) ?_ rfl
    unfold f_X3_goes
    simp (disch := omega) only [gq_lit, gq_neg, Bool.false_eq_true, gq_leT, gq_leF, gq_ltT, gq_ltF, gq_eqT, gq_eqF, if_true, if_false]
    exact gy_bds _
  · refine key _ _ (gy_doestask h ok hs ha hb hc) ?_ (gy_task a b c ν)
    unfold f_X3_goes
    simp (disch := omega) only [gq_lit, gq_neg, Bool.false_eq_true, gq_leT, gq_leF, gq_ltT, gq_ltF, gq_eqT, gq_eqF, if_true, if_false]
    exact gy_bds _
  · refine key _ _ (gy_prices h ok ha (d := 1) (by omega)) ?_ (gy_up a b c ν)
    unfold f_X3_goes
    simp (disch := omega) only [gq_lit, gq_neg, Bool.false_eq_true, gq_leT, gq_leF, gq_ltT, gq_ltF, gq_eqT, gq_eqF, if_true, if_false]
    exact gy_bds _
  · refine key _ _ (gy_prices h ok ha (d := -1) (by omega)) ?_ (gy_down a b c ν)
    unfold f_X3_goes
    simp (disch := omega) only [gq_lit, gq_neg, Bool.false_eq_true, gq_leT, gq_leF, gq_ltT, gq_ltF, gq_eqT, gq_eqF, if_true, if_false]
    exact gy_bds _
