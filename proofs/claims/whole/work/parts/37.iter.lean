/-! one line -/
def gp_iterT (of : Nat) (μ ν : gx_M) (t : Nat → Int) (len p : Nat) : Prop := (∃ (μ' ν' : gx_M) (x : Nat), f_X4_readLine (gq_I of) μ = some (false, μ') ∧ (∀ k3 n, L_X12_lines_2 (gq_I of) k3 (n + 2) true ν = k3 false ν') ∧ (x ≤ 600 ∧ μ'.1 42 6 = gq_I 1 ∧ μ'.1 42 7 = gq_I x ∧ ν'.1 206 16 = gq_I x) ∧ (gq_ln μ' 53 40 ∧ gq_ln μ' 56 8) ∧ gq_rd ν' ∧ gp_kc μ μ' ∧ gp_km ν ν') ∨ (∃ (k2 q2 e2 p2 : Nat) (v2 f2 pl2 : Int) (fu2 : Nat) (μ' ν' : gx_M), f_X4_readLine (gq_I of) μ = some (true, μ') ∧ (∀ k3 n, L_X12_lines_2 (gq_I of) k3 (n + 1) true ν = L_X12_lines_2 (gq_I of) k3 n true ν') ∧ gp_R μ' ν' t len p2 k2 q2 e2 v2 f2 pl2 ∧ gp_X of μ' ν' f2 fu2 ∧ (p < p2 ∧ p2 ≤ len ∧ fu2 ≤ p2) ∧ gp_kc μ μ' ∧ gp_km ν ν')
theorem gp_k0 {k : Nat} (h : k ≠ 0) (h2 : k ≤ 4) : (gq_I (k : Int) = gq_I 0) = False := gq_eqF (by omega)
set_option maxHeartbeats 4000000 in
theorem gp_iter {of : Nat} (ho : of < 4) (LL : ∀ r, gt_fk of ≤ r → r < gt_fk (of + 1) → gp_LL of r) {t : Nat → Int} {len p k q e : Nat} {v f pl : Int} {fu : Nat} {μ ν : gx_M} (ok : gt_okt t) (hl : len ≤ 600) (h : gp_R μ ν t len p k q e v f pl) (hX : gp_X of μ ν f fu) (hfu : fu ≤ p) (hk : k ≠ 0) : gp_iterT of μ ν t len p := by
  have tb := gt_tk_b h.1
  have kb := tb.2.2.2.2.2.2 hk
  obtain ⟨μ1, a1, hA, a2, a3⟩ := gp_adv ok hl h
  have hA0 := hA
  obtain ⟨b1, ⟨b2, b3, b4, b5, b6, b7⟩, ⟨b8, b9, b10, b11, b12, b13, b14⟩, b15⟩ := hA0
  obtain ⟨z, c1, c2⟩ := gt_kind ok hl b1 b2 b3 b4 b5 ho
  have hW := gt_W_b b1 ok hl
  obtain ⟨ν1, e1⟩ : ∃ ν1, ν1 = gx_uI ν 206 23 (gq_I 1) := ⟨_, rfl⟩
  have f1 : ∀ a j, ¬ (a = 206 ∧ j = 23) → ν1.1 a j = ν.1 a j := fun a j g => by
    rw [e1, gq_uI1, if_neg g]
  have g1 : ν1.2 = ν.2 := by rw [e1]; rfl
  have X1 : gp_X of μ1 ν1 f fu := gp_X_w hX (fun a j g => a2 _ _ (by omega)) fun a j g => f1 _ _ (by omega)
  have mk0 : gt_mk k ≠ 0 ∧ 0 ≤ gt_mk k ∧ gt_mk k ≤ 4 ∧ (gt_mk k = 2 ↔ k = 1) := by
    unfold gt_mk
    rcases (show k = 1 ∨ k = 2 ∨ k = 3 ∨ k = 4 by omega) with h | h | h | h <;> subst h <;> decide
  -- the check's step, up to the line itself
  have hw : (if (ν1.1 206 13) = 2 then f_X12_lineOf (gq_I of) (ν1.2 206 15) (gq_I q) ν1 else f_X12_lineOf (gq_I of) 0 (gq_I q) ν1) = f_X12_lineOf (gq_I of) (gq_L (gt_W t q e k)) (gq_I q) ν1 := by
    rw [f1 _ _ (by omega), b10, g1]
    by_cases k1 : k = 1
    · rw [b12 k1]
      simp (disch := omega) only [gq_lit, Bool.false_eq_true, gq_leT, gq_leF, gq_ltT, gq_ltF, gq_eqT, gq_eqF, if_true, if_false]
    · have w0 : gt_W t q e k = 0 := by unfold gt_W; rw [if_neg k1]
      rw [w0]
      simp (disch := omega) only [gq_lit, Bool.false_eq_true, gq_leT, gq_leF, gq_ltT, gq_ltF, gq_eqT, gq_eqF, if_true, if_false]
      rfl
  have mstep : ∀ k3 n, L_X12_lines_2 (gq_I of) k3 (n + 1) true ν = gx_bd (f_X12_lineOf (gq_I of) (gq_L (gt_W t q e k)) (gq_I q) ν1) (fun (r12 : Bool) (μ13 : gx_M) => if r12 = true then if (μ13.1 206 13) = 4 then gx_bd (f_X12_token μ13) (fun (_ : Unit) (μ24 : gx_M) => L_X12_lines_2 (gq_I of) k3 n true μ24) else L_X12_lines_2 (gq_I of) k3 n false (gx_uI μ13 206 16 (μ13.1 206 12)) else L_X12_lines_2 (gq_I of) k3 n false μ13) := by
    intro k3 n
    rw [L_X12_lines_2.eq_2, b10, b11]
    simp (disch := omega) only [Int.reduceToNat, gq_lit, gq_neg, gq_add, gq_sub, gq_mul, gq_nat, Int.toNat_natCast, gq_tadd, gq_tmul, gq_lte, gq_br, gq_bd, gq_ck, Bool.false_eq_true, gq_leT, gq_leF, gq_ltT, gq_ltF, gq_eqT, gq_eqF, if_true, if_false, gq_biT]
    rw [← e1, ← hw]
    have key : ∀ (A B : Option (Bool × gx_M)) (c : Prop) [Decidable c] (T : Bool → gx_M → Option (Bool × gx_M)), (if c then gx_bd A T else gx_bd B T) = gx_bd (if c then A else B) T := by
      intro A B c _ T
      split <;> rfl
    simp only [gq_lit, gq_Llit, key]
    refine congrArg _ (funext fun r12 => funext fun μ13 => ?_)
    cases r12
    · simp only [Bool.false_eq_true, if_false]
    · simp only [if_true, f_X12_fails, gq_lte, gq_bd, Bool.false_eq_true, if_false]
  -- both stop, the check at once
  have hstop : ∀ (μ' ν' : gx_M) (x : Nat), f_X4_readLine (gq_I of) μ = some (false, μ') → f_X12_lineOf (gq_I of) (gq_L (gt_W t q e k)) (gq_I q) ν1 = some (false, ν') → (x ≤ 600 ∧ μ'.1 42 6 = gq_I 1 ∧ μ'.1 42 7 = gq_I x ∧ ν'.1 206 16 = gq_I x) → (gq_ln μ' 53 40 ∧ gq_ln μ' 56 8) → gq_rd ν' → gp_kc μ μ' → gp_km ν1 ν' → gp_iterT of μ ν t len p := by
    intro μ' ν' x s1 s2 s3 s4 s5 s6 s7
    refine Or.inl ⟨μ', ν', x, s1, fun k3 n => ?_, s3, s4, s5, s6, fun a j g => ?_, fun a j g => ?_⟩
    · rw [show n + 2 = (n + 1) + 1 from rfl, mstep, s2, gq_bd, if_neg (by decide), L_X12_lines_2.eq_2, if_neg (by decide)]
    · rw [s7.1 a j g, f1 a j (by omega)]
    · rw [s7.2 a j g, g1]
  have kcA : gp_kc μ μ1 := ⟨fun a j g => a2 _ _ (by omega), a3⟩
  have f17 : gt_fk (of + 1) ≤ 17 := by
    rcases (show of = 0 ∨ of = 1 ∨ of = 2 ∨ of = 3 by omega) with h | h | h | h <;> subst h <;> decide
  have unf : f_X4_readLine (gq_I of) μ = gx_br (f_X4_kindOfLine (gq_I of) μ1) (fun (r4 : Int32) => if gq_I 0 ≤ r4 then gx_bd (f_X4_countFurther (gq_I of) r4 μ1) (fun (_ : Unit) (μ7 : gx_M) => L_X4_readLine_48 r4 (fun (μ21 : gx_M) => gx_bd (f_X8_advance μ21) (fun (_ : Unit) (μ23 : gx_M) => if (μ23.1 43 3) = gq_I 3 then if (μ23.1 42 6) = gq_I 0 then gx_bd (f_X4_tellLine (gq_I of) r4 μ23) (fun (_ : Unit) (μ27 : gx_M) => some (true, μ27)) else some (true, μ23) else gx_bd (f_X4_stopReading μ23) (fun (r28 : Bool) (μ29 : gx_M) => some (r28, μ29)))) 4000 (gq_I 0) μ7) else gx_bd (f_X4_stopReading μ1) (fun (r30 : Bool) (μ31 : gx_M) => some (r30, μ31))) := by
    have kk : k ≤ 4 := tb.2.2.2.2.1
    have kn : (gq_I (k : Int) = gq_I 0) = False := gp_k0 hk kk
    unfold f_X4_readLine
    rw [a1, gq_bd, b4]
    simp only [gq_lit, kn, if_false]
  rcases c2 with ⟨c2, c3⟩ | ⟨r, c2, c3, c4, c5⟩
  · have nk := gp_noKind (x := gq_I q) (q := q) (ν := ν1) ho hW (fun i i1 i2 i3 => c3 i i1 i2 ((gt_W_i b1 (by omega)).mp i3)) (by rw [f1 _ _ (by omega)]; exact b11)
    refine hstop (gx_uI (gx_uI μ1 42 6 (gq_I 1)) 42 7 (gq_I q)) (gx_uI ν1 206 16 (gq_I q)) q ?_ nk ⟨by omega, ?_, ?_, ?_⟩ ⟨?_, ?_⟩ ?_ ?_ ?_
    · rw [unf, c1, c2]
      unfold f_X4_stopReading
      simp (disch := omega) only [Int.reduceToNat, gq_lit, gq_neg, gq_add, gq_sub, gq_mul, gq_nat, Int.toNat_natCast, gq_tadd, gq_tmul, gq_lte, gq_br, gq_bd, gq_ck, Bool.false_eq_true, gq_leT, gq_leF, gq_ltT, gq_ltF, gq_eqT, gq_eqF, if_true, if_false, gq_uI1, gq_uI2, gq_uL1, gq_uL2, Nat.reduceEqDiff, false_and, and_false, and_true, true_and, b5]
    · simp only [gq_uI1, gq_uI2, gq_uL1, gq_uL2, Nat.reduceEqDiff, false_and, and_false, and_true, true_and, if_true, if_false]
    · simp only [gq_uI1, gq_uI2, gq_uL1, gq_uL2, Nat.reduceEqDiff, false_and, and_false, and_true, true_and, if_true, if_false]
    · simp only [gq_uI1, gq_uI2, gq_uL1, gq_uL2, Nat.reduceEqDiff, false_and, and_false, and_true, true_and, if_true, if_false]
    · exact gq_ln_w X1.2.1.1 fun j => by simp only [gq_uI1, gq_uI2, gq_uL1, gq_uL2, Nat.reduceEqDiff, false_and, and_false, and_true, true_and, if_false]
    · exact gq_ln_w X1.2.1.2 fun j => by simp only [gq_uI1, gq_uI2, gq_uL1, gq_uL2, Nat.reduceEqDiff, false_and, and_false, and_true, true_and, if_false]
    · exact gq_rd_w X1.2.2.2.1 fun j => by simp only [gq_uI1, gq_uI2, gq_uL1, gq_uL2, Nat.reduceEqDiff, false_and, and_false, and_true, true_and, if_false]
    · exact gp_kc_tr kcA ⟨fun a j g => by simp (disch := omega) only [gq_uI1, gq_uI2, gq_uL1, gq_uL2, gq_ifF], rfl⟩
    · exact ⟨fun a j g => by simp (disch := omega) only [gq_uI1, gq_uI2, gq_uL1, gq_uL2, gq_ifF], fun a j g => rfl⟩
  · have r17 : r < 17 := by
      omega
    have k1 : k = 1 := c5.1
    have wk := (gt_W_i b1 r17).mpr c5
    have hA1 : gp_A μ1 ν1 t len p 1 q e v f pl := by
      rw [← k1]
      exact gp_A_m hA (fun a j g => f1 _ _ (by omega)) (by rw [g1])
    have c5' := c5
    rw [k1] at c5'
    have unf2 : f_X4_readLine (gq_I of) μ = gp_cl of r (fun (μ21 : gx_M) => gx_bd (f_X8_advance μ21) (fun (_ : Unit) (μ23 : gx_M) => if (μ23.1 43 3) = gq_I 3 then if (μ23.1 42 6) = gq_I 0 then gx_bd (f_X4_tellLine (gq_I of) (gq_I r) μ23) (fun (_ : Unit) (μ27 : gx_M) => some (true, μ27)) else some (true, μ23) else gx_bd (f_X4_stopReading μ23) (fun (r28 : Bool) (μ29 : gx_M) => some (r28, μ29)))) μ1 := by
      rw [unf, c1, c2]
      unfold gp_cl
      simp (disch := omega) only [gq_br, gq_leT, if_true]
    have lo : gt_W t q e k = gt_kw r := wk
    rcases LL r c3 c4 t len p q e v f pl fu μ1 ν1 ok hl hA1 c5' X1 (by omega) (by rw [e1]; simp only [gq_uI1, gq_uI2, gq_uL1, gq_uL2, Nat.reduceEqDiff, false_and, and_false, and_true, true_and, if_true]) with hs | ⟨k2, q2, e2, p2, v2, f2, pl2, fu2, μ', ν', d1, d2, d3, d4, d5, d6, d7, d8, d9, d10, d11, d12⟩
    · obtain ⟨μ', ν', x, s1, s2, s3, s4, s5, s6, s7⟩ := hs (fun (μ21 : gx_M) => gx_bd (f_X8_advance μ21) (fun (_ : Unit) (μ23 : gx_M) => if (μ23.1 43 3) = gq_I 3 then if (μ23.1 42 6) = gq_I 0 then gx_bd (f_X4_tellLine (gq_I of) (gq_I r) μ23) (fun (_ : Unit) (μ27 : gx_M) => some (true, μ27)) else some (true, μ23) else gx_bd (f_X4_stopReading μ23) (fun (r28 : Bool) (μ29 : gx_M) => some (r28, μ29))))
      exact hstop μ' ν' x (by rw [unf2, s1]) (by rw [lo]; exact s2) s3 s4 s5 (gp_kc_tr kcA s6) s7
    · have tb2 := gt_tk_b d3.1
      obtain ⟨μ2, x1, x2, x3, x4⟩ := gp_adv ok hl d3
      obtain ⟨y1, ⟨y2, y3, y4, y5, y6, y7⟩, ⟨y8, y9, y10, y11, y12, y13, y14⟩, y15⟩ := x2
      by_cases k3 : k2 = 3
      · have m4 : ν'.1 206 13 = gq_I 4 := by rw [y10, k3]; rfl
        have hmm : ∀ K3 n, L_X12_lines_2 (gq_I of) K3 (n + 1) true ν = gx_bd (f_X12_token ν') (fun (_ : Unit) (μ24 : gx_M) => L_X12_lines_2 (gq_I of) K3 n true μ24) := fun K3 n => by
          rw [mstep, lo, d2, gq_bd, if_pos rfl, m4]
          simp (disch := omega) only [gq_lit, Bool.false_eq_true, gq_leT, gq_leF, gq_ltT, gq_ltF, gq_eqT, gq_eqF, if_true, if_false]
        by_cases hf : f2 = 0
        · obtain ⟨μ3, z1, z2, z3, z4, z5⟩ := d12 hf μ2 x3
          have A3 : gp_A μ3 ν' t len p2 k2 q2 e2 v2 f2 pl2 := gp_A_c ⟨y1, ⟨y2, y3, y4, y5, y6, y7⟩, ⟨y8, y9, y10, y11, y12, y13, y14⟩, y15⟩ fun a j g => z4 _ _ (by omega) (by omega)
          obtain ⟨k4, q4, e4, v4, f4, pl4, ν4, w1, w2, w3, w4, w5, w6⟩ := gp_next ok hl A3 (by omega) False
          have n0 : gp_n3 False f2 q2 μ3 = μ3 := by unfold gp_n3; rw [if_neg (fun g => g.1)]
          have l0 : gp_l3 False f2 q2 ν' = ν' := by unfold gp_l3; rw [if_neg (fun g => g.1)]
          rw [n0] at w2
          rw [l0] at w1
          refine Or.inr ⟨k4, q4, e4, e2, v4, f4, pl4, fu2, μ3, ν4, ?_, fun K3 n => ?_, w2, ⟨?_, z3, ?_, gq_rd_w d8 fun j => w5 _ _ (by omega), gp_CN_w d9 fun j => w5 _ _ (by omega), fun g => gp_CR_w z2 (fun _ _ _ => rfl) fun a j g2 => w5 _ _ (by omega)⟩, by omega, ?_, ?_⟩
          · rw [unf2, d1, x1, gq_bd, y4, k3]
            simp (disch := omega) only [y6, hf, gq_bd, Bool.false_eq_true, gq_leT, gq_leF, gq_ltT, gq_ltF, gq_eqT, gq_eqF, if_true, if_false, z1]
          · rw [hmm, w1, gq_bd]
          · rw [z4 _ _ (by omega) (by omega), x3 _ _ (by omega)]; exact d5
          · obtain ⟨⟨m, q1, q2⟩, o, q3, q4⟩ := d7
            exact ⟨⟨m, by rw [w5 _ _ (by omega)]; exact q1, q2⟩, o, by rw [w5 _ _ (by omega)]; exact q3, q4⟩
          · exact gp_kc_tr kcA (gp_kc_tr d10 ⟨fun a j g => by rw [z4 _ _ (by omega) (by omega), x3 _ _ (by omega)], by rw [z5, x4]⟩)
          · refine ⟨fun a j g => ?_, fun a j g => ?_⟩
            · rw [w5 _ _ (by omega), d11.1 _ _ g, f1 _ _ (by omega)]
            · rw [w6 _ _ (by omega), d11.2 _ _ g, g1]
        · obtain ⟨k4, q4, e4, v4, f4, pl4, ν4, w1, w2, w3, w4, w5, w6⟩ := gp_next ok hl (⟨y1, ⟨y2, y3, y4, y5, y6, y7⟩, ⟨y8, y9, y10, y11, y12, y13, y14⟩, y15⟩ : gp_A μ2 ν' t len p2 k2 q2 e2 v2 f2 pl2) (by omega) False
          have n0 : gp_n3 False f2 q2 μ2 = μ2 := by unfold gp_n3; rw [if_neg (fun g => g.1)]
          have l0 : gp_l3 False f2 q2 ν' = ν' := by unfold gp_l3; rw [if_neg (fun g => g.1)]
          rw [n0] at w2
          rw [l0] at w1
          refine Or.inr ⟨k4, q4, e4, e2, v4, f4, pl4, fu2, μ2, ν4, ?_, fun K3 n => ?_, w2, ⟨?_, ⟨gq_ln_w d6.1 fun j => x3 _ _ (by omega), gq_ln_w d6.2 fun j => x3 _ _ (by omega)⟩, ?_, gq_rd_w d8 fun j => w5 _ _ (by omega), gp_CN_w d9 fun j => w5 _ _ (by omega), fun g => absurd (w3.mp g).1 hf⟩, by omega, ?_, ?_⟩
          · rw [unf2, d1, x1, gq_bd, y4, k3]
            have hfb : (-2147483648 ≤ f2 ∧ f2 < 2147483648) := by omega
            simp (disch := omega) only [y6, gq_bd, Bool.false_eq_true, gq_leT, gq_leF, gq_ltT, gq_ltF, gq_eqT, gq_eqF, if_true, if_false]
          · rw [hmm, w1, gq_bd]
          · rw [x3 _ _ (by omega)]; exact d5
          · obtain ⟨⟨m, q1, q2⟩, o, q3, q4⟩ := d7
            exact ⟨⟨m, by rw [w5 _ _ (by omega)]; exact q1, q2⟩, o, by rw [w5 _ _ (by omega)]; exact q3, q4⟩
          · exact gp_kc_tr kcA (gp_kc_tr d10 ⟨fun a j g => by rw [x3 _ _ (by omega)], by rw [x4]⟩)
          · refine ⟨fun a j g => ?_, fun a j g => ?_⟩
            · rw [w5 _ _ (by omega), d11.1 _ _ g, f1 _ _ (by omega)]
            · rw [w6 _ _ (by omega), d11.2 _ _ g, g1]
      · have mk2 : gt_mk k2 ≠ 4 ∧ 0 ≤ gt_mk k2 ∧ gt_mk k2 ≤ 4 := by
          unfold gt_mk
          rcases (show k2 = 0 ∨ k2 = 1 ∨ k2 = 2 ∨ k2 = 4 by omega) with h | h | h | h <;> subst h <;> decide
        refine Or.inl ⟨gx_uI (gx_uI μ2 42 6 (gq_I 1)) 42 7 (gq_I q2), gx_uI ν' 206 16 (gq_I q2), q2, ?_, fun K3 n => ?_, ⟨by omega, ?_, ?_, ?_⟩, ⟨gq_ln_w d6.1 fun j => ?_, gq_ln_w d6.2 fun j => ?_⟩, gq_rd_w d8 fun j => ?_, ?_, ?_⟩
        · rw [unf2, d1, x1, gq_bd, y4]
          unfold f_X4_stopReading
          simp (disch := omega) only [Int.reduceToNat, gq_lit, gq_neg, gq_add, gq_sub, gq_mul, gq_nat, Int.toNat_natCast, gq_tadd, gq_tmul, gq_lte, gq_br, gq_bd, gq_ck, Bool.false_eq_true, gq_leT, gq_leF, gq_ltT, gq_ltF, gq_eqT, gq_eqF, if_true, if_false, gq_uI1, gq_uI2, gq_uL1, gq_uL2, Nat.reduceEqDiff, false_and, and_false, and_true, true_and, y5]
        · rw [show n + 2 = (n + 1) + 1 from rfl, mstep, lo, d2, gq_bd, if_pos rfl, y10, y11]
          simp (disch := omega) only [gq_lit, Bool.false_eq_true, gq_leT, gq_leF, gq_ltT, gq_ltF, gq_eqT, gq_eqF, if_true, if_false]
          rw [L_X12_lines_2.eq_2]
          simp only [Bool.false_eq_true, if_false]
        · simp only [gq_uI1, gq_uI2, gq_uL1, gq_uL2, Nat.reduceEqDiff, false_and, and_false, and_true, true_and, if_true, if_false]
        · simp only [gq_uI1, gq_uI2, gq_uL1, gq_uL2, Nat.reduceEqDiff, false_and, and_false, and_true, true_and, if_true, if_false]
        · simp only [gq_uI1, gq_uI2, gq_uL1, gq_uL2, Nat.reduceEqDiff, false_and, and_false, and_true, true_and, if_true, if_false]
        · simp only [gq_uI1, gq_uI2, gq_uL1, gq_uL2, Nat.reduceEqDiff, false_and, and_false, and_true, true_and, if_false]; exact x3 _ _ (by omega)
        · simp only [gq_uI1, gq_uI2, gq_uL1, gq_uL2, Nat.reduceEqDiff, false_and, and_false, and_true, true_and, if_false]; exact x3 _ _ (by omega)
        · simp only [gq_uI1, gq_uI2, gq_uL1, gq_uL2, Nat.reduceEqDiff, false_and, and_false, and_true, true_and, if_false]
        · exact gp_kc_tr kcA (gp_kc_tr d10 ⟨fun a j g => by simp (disch := omega) only [gq_uI1, gq_uI2, gq_uL1, gq_uL2, gq_ifF]; exact x3 _ _ (by omega), by rw [gq_uI2, gq_uI2, x4]⟩)
        · refine ⟨fun a j g => ?_, fun a j g => ?_⟩
          · simp (disch := omega) only [gq_uI1, gq_uI2, gq_uL1, gq_uL2, gq_ifF]
            rw [d11.1 _ _ g, f1 _ _ (by omega)]
          · rw [gq_uI2, d11.2 _ _ g, g1]
