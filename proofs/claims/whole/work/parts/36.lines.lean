/-! all lines, if each kind of line goes -/
def gp_CN (of : Nat) (ν : gx_M) (fu : Nat) : Prop := (of = 0 → ν.1 216 2 = gq_I (if fu ≤ 6 then (fu : Int) else 6)) ∧ (of = 1 → ν.1 216 0 = gq_I (if fu ≤ 40 then (fu : Int) else 40)) ∧ (of = 2 → ν.1 216 0 = gq_I (if fu ≤ 8 then (fu : Int) else 8))
/-- a street as far as it is told; m, o: the last minute, the last person told of -/
def gp_pS (w : Nat → Int) (m o : Int) : Prop := (1 ≤ w 0 ∧ w 0 ≤ 40) ∧ (1 ≤ w 1 ∧ w 1 ≤ 4) ∧ (0 ≤ w 2 ∧ w 2 ≤ 6) ∧ (∀ p, p < 4 → 0 ≤ w (3 + p) ∧ w (3 + p) ≤ 99) ∧ (∀ b : Nat, (b : Int) < w 2 → (1 ≤ w (7 + b) ∧ w (7 + b) ≤ 9) ∧ (0 ≤ w (13 + b) ∧ w (13 + b) ≤ w (19 + b) ∧ w (19 + b) ≤ m) ∧ 0 ≤ w (25 + b) ∧ w (25 + b) ≤ 99) ∧ (∀ j, j < 40 → 0 ≤ w (31 + j) ∧ w (31 + j) ≤ 9) ∧ (∀ j, j < 40 → -1 ≤ w (71 + j) ∧ w (71 + j) ≤ o) ∧ (-1 ≤ m ∧ m ≤ 39) ∧ -1 ≤ o ∧ o ≤ 3
def gp_CR (of : Nat) (μ ν : gx_M) (fu : Nat) : Prop := (of = 0 → ∃ (w : Nat → Int) (m o : Int), gq_cS μ 45 w ∧ (∀ j, j < 111 → ν.1 216 j = gq_I (w j)) ∧ w 2 = fu ∧ gp_pS w m o ∧ (μ.1 42 9 = gq_I m ∧ μ.1 42 10 = gq_I o ∧ ν.1 206 21 = gq_I m ∧ ν.1 206 22 = gq_I o)) ∧ (of = 1 → ∃ y : Nat → Int, gq_cY μ 53 y ∧ (∀ j, j < 161 → ν.1 216 j = gq_I (y j)) ∧ y 0 = fu ∧ gq_okY y) ∧ (of = 2 → ∃ y : Nat → Int, gq_cG μ 56 y ∧ (∀ j, j < 17 → ν.1 216 j = gq_I (y j)) ∧ y 0 = fu ∧ gq_okG y) ∧ (of = 3 → ∃ (w : Nat → Int) (o : Int), gq_cV μ 59 w ∧ (∀ j, j < 37 → ν.1 216 j = gq_I (w j)) ∧ gq_okV w ∧ (-1 ≤ o ∧ o ≤ 5) ∧ μ.1 42 10 = gq_I o ∧ ν.1 206 22 = gq_I o)
def gp_F2 (ν : gx_M) : Prop := (∃ m : Int, ν.1 206 21 = gq_I m ∧ -1 ≤ m ∧ m ≤ 99) ∧ ∃ o : Int, ν.1 206 22 = gq_I o ∧ -1 ≤ o ∧ o ≤ 99
/-- all but the token -/
def gp_X (of : Nat) (μ ν : gx_M) (f : Int) (fu : Nat) : Prop := μ.1 42 8 = gq_I fu ∧ (gq_ln μ 53 40 ∧ gq_ln μ 56 8) ∧ gp_F2 ν ∧ gq_rd ν ∧ gp_CN of ν fu ∧ (f = 0 → gp_CR of μ ν fu)
/-- the rows that reading changes -/
def gp_kc (μ μ' : gx_M) : Prop := (∀ a j, ¬ (42 ≤ a ∧ a ≤ 61) → μ'.1 a j = μ.1 a j) ∧ μ'.2 = μ.2
def gp_km (ν ν' : gx_M) : Prop := (∀ a j, ¬ (a = 206 ∨ a = 216 ∨ a = 217) → ν'.1 a j = ν.1 a j) ∧ ∀ a j, ¬ a = 206 → ν'.2 a j = ν.2 a j
theorem gp_kc_tr {a b c : gx_M} (h : gp_kc a b) (h2 : gp_kc b c) : gp_kc a c := ⟨fun x j h3 => (h2.1 x j h3).trans (h.1 x j h3), h2.2.trans h.2⟩
theorem gp_km_tr {a b c : gx_M} (h : gp_km a b) (h2 : gp_km b c) : gp_km a c := ⟨fun x j h3 => (h2.1 x j h3).trans (h.1 x j h3), fun x j h3 => (h2.2 x j h3).trans (h.2 x j h3)⟩
/-- both stop at x -/
def gp_stop (A B : Option (Bool × gx_M)) (μ ν : gx_M) : Prop := ∃ (μ' ν' : gx_M) (x : Nat), A = some (false, μ') ∧ B = some (false, ν') ∧ (x ≤ 600 ∧ μ'.1 42 6 = gq_I 1 ∧ μ'.1 42 7 = gq_I x ∧ ν'.1 206 16 = gq_I x) ∧ (gq_ln μ' 53 40 ∧ gq_ln μ' 56 8) ∧ gq_rd ν' ∧ gp_kc μ μ' ∧ gp_km ν ν'
/-- class: from the word on; K behind the numbers -/
def gp_cl (of r : Nat) (K : gx_M → Option (Bool × gx_M)) (μ : gx_M) : Option (Bool × gx_M) := gx_bd (f_X4_countFurther (gq_I of) (gq_I r) μ) (fun (_ : Unit) (μ7 : gx_M) => L_X4_readLine_48 (gq_I r) K 4000 (gq_I 0) μ7)
def gp_LL (of r : Nat) : Prop := ∀ (t : Nat → Int) (len p q e : Nat) (v f pl : Int) (fu : Nat) (μ ν : gx_M), gt_okt t → len ≤ 600 → gp_A μ ν t len p 1 q e v f pl → gt_isw t q e 1 r → gp_X of μ ν f fu → fu ≤ 600 → ν.1 206 23 = gq_I 1 → (∀ K, gp_stop (gp_cl of r K μ) (f_X12_lineOf (gq_I of) (gq_L (gt_kw r)) (gq_I q) ν) μ ν) ∨ ∃ (k2 q2 e2 p2 : Nat) (v2 f2 pl2 : Int) (fu2 : Nat) (μ' ν' : gx_M), (∀ K, gp_cl of r K μ = K μ') ∧ f_X12_lineOf (gq_I of) (gq_L (gt_kw r)) (gq_I q) ν = some (true, ν') ∧ gp_R μ' ν' t len p2 k2 q2 e2 v2 f2 pl2 ∧ (e ≤ p2 ∧ p2 ≤ len ∧ fu2 ≤ fu + 1) ∧ μ'.1 42 8 = gq_I fu2 ∧ (gq_ln μ' 53 40 ∧ gq_ln μ' 56 8) ∧ gp_F2 ν' ∧ gq_rd ν' ∧ gp_CN of ν' fu2 ∧ gp_kc μ μ' ∧ gp_km ν ν' ∧ (f2 = 0 → ∀ μ1, (∀ a j, ¬ (a = 43 ∧ 2 ≤ j) → μ1.1 a j = μ'.1 a j) → ∃ μ3, f_X4_tellLine (gq_I of) (gq_I r) μ1 = some ((), μ3) ∧ gp_CR of μ3 ν' fu2 ∧ (gq_ln μ3 53 40 ∧ gq_ln μ3 56 8) ∧ (∀ a j, ¬ (45 ≤ a ∧ a ≤ 60) → ¬ (a = 42 ∧ 9 ≤ j) → μ3.1 a j = μ1.1 a j) ∧ μ3.2 = μ1.2)
theorem gp_A_c {t : Nat → Int} {len p k q e : Nat} {v f pl : Int} {μ ν μ' : gx_M} (h : gp_A μ ν t len p k q e v f pl) (g : ∀ a j, a = 43 ∨ a = 44 ∨ (a = 42 ∧ (j = 6 ∨ j = 7)) → μ'.1 a j = μ.1 a j) : gp_A μ' ν t len p k q e v f pl := by
  obtain ⟨h1, ⟨c1, c2, c3, c4, c5, c6⟩, h3, h4⟩ := h
  refine ⟨h1, ⟨gt_C_w c1 fun a j g3 => g a j (by omega), ?_, ?_, ?_, ?_, ?_⟩, h3, h4⟩
  · rw [g _ _ (by omega)]; exact c2
  · rw [g _ _ (by omega)]; exact c3
  · rw [g _ _ (by omega)]; exact c4
  · rw [g _ _ (by omega)]; exact c5
  · rw [g _ _ (by omega)]; exact c6
theorem gp_A_m {t : Nat → Int} {len p k q e : Nat} {v f pl : Int} {μ ν ν' : gx_M} (h : gp_A μ ν t len p k q e v f pl) (g : ∀ a j, (a = 206 ∧ 10 ≤ j ∧ j ≤ 18 ∧ j ≠ 16) ∨ a = 207 → ν'.1 a j = ν.1 a j) (g2 : ν'.2 206 15 = ν.2 206 15) : gp_A μ ν' t len p k q e v f pl := by
  obtain ⟨h1, h2, ⟨m1, m2, m3, m4, m6, m7, m8⟩, h4⟩ := h
  refine ⟨h1, h2, ⟨gt_M_w m1 fun a j g3 => g a j (by omega), ?_, ?_, ?_, fun g3 => ?_, ?_, fun g3 => ?_⟩, h4⟩
  · rw [g _ _ (by omega)]; exact m2
  · rw [g _ _ (by omega)]; exact m3
  · rw [g _ _ (by omega)]; exact m4
  · rw [g2]; exact m6 g3
  · rw [g _ _ (by omega)]; exact m7
  · rw [g _ _ (by omega)]; exact m8 g3
theorem gp_CR_w {of fu : Nat} {μ ν μ' ν' : gx_M} (h : gp_CR of μ ν fu) (hc : ∀ a j, (45 ≤ a ∧ a ≤ 60) ∨ (a = 42 ∧ 9 ≤ j) → μ'.1 a j = μ.1 a j) (hm : ∀ a j, a = 216 ∨ (a = 206 ∧ (j = 21 ∨ j = 22)) → ν'.1 a j = ν.1 a j) : gp_CR of μ' ν' fu := by
  obtain ⟨h0, h1, h2, h3⟩ := h
  refine ⟨fun g => ?_, fun g => ?_, fun g => ?_, fun g => ?_⟩
  · obtain ⟨w, m, o, a1, a2, a3, a4, a5, a6, a7, a8⟩ := h0 g
    refine ⟨w, m, o, gq_cS_sm a1 fun i hi => ?_, fun j hj => ?_, a3, a4, ?_, ?_, ?_, ?_⟩
    · funext j; exact hc _ _ (by omega)
    · rw [hm _ _ (by omega)]; exact a2 j hj
    · rw [hc _ _ (by omega)]; exact a5
    · rw [hc _ _ (by omega)]; exact a6
    · rw [hm _ _ (by omega)]; exact a7
    · rw [hm _ _ (by omega)]; exact a8
  · obtain ⟨y, a1, a2, a3, a4⟩ := h1 g
    refine ⟨y, gq_cY_sm a1 fun i hi => ?_, fun j hj => ?_, a3, a4⟩
    · funext j; exact hc _ _ (by omega)
    · rw [hm _ _ (by omega)]; exact a2 j hj
  · obtain ⟨y, a1, a2, a3, a4⟩ := h2 g
    refine ⟨y, gq_cG_sm a1 fun i hi => ?_, fun j hj => ?_, a3, a4⟩
    · funext j; exact hc _ _ (by omega)
    · rw [hm _ _ (by omega)]; exact a2 j hj
  · obtain ⟨w, o, a1, a2, a3, a4, a5, a6⟩ := h3 g
    refine ⟨w, o, gq_cV_sm a1 fun i hi => ?_, fun j hj => ?_, a3, a4, ?_, ?_⟩
    · funext j; exact hc _ _ (by omega)
    · rw [hm _ _ (by omega)]; exact a2 j hj
    · rw [hc _ _ (by omega)]; exact a5
    · rw [hm _ _ (by omega)]; exact a6
theorem gp_CN_w {of fu : Nat} {ν ν' : gx_M} (h : gp_CN of ν fu) (hm : ∀ j, ν'.1 216 j = ν.1 216 j) : gp_CN of ν' fu := by
  unfold gp_CN at h ⊢
  rw [hm, hm]
  exact h
theorem gp_X_w {of fu : Nat} {f : Int} {μ ν μ' ν' : gx_M} (h : gp_X of μ ν f fu) (hc : ∀ a j, (45 ≤ a ∧ a ≤ 60) ∨ (a = 42 ∧ 8 ≤ j) → μ'.1 a j = μ.1 a j) (hm : ∀ a j, a = 216 ∨ a = 217 ∨ (a = 206 ∧ (j = 21 ∨ j = 22)) → ν'.1 a j = ν.1 a j) : gp_X of μ' ν' f fu := by
  obtain ⟨h1, ⟨h2, h2'⟩, ⟨⟨m, h3, h3'⟩, o, h4, h4'⟩, h5, h6, h7⟩ := h
  refine ⟨?_, ⟨gq_ln_w h2 fun j => hc _ _ (by omega), gq_ln_w h2' fun j => hc _ _ (by omega)⟩, ⟨⟨m, ?_, h3'⟩, o, ?_, h4'⟩, gq_rd_w h5 fun j => hm _ _ (by omega), gp_CN_w h6 fun j => hm _ _ (by omega), fun g => gp_CR_w (h7 g) (fun a j g2 => hc _ _ (by omega)) fun a j g2 => hm _ _ (by omega)⟩
  · rw [hc _ _ (by omega)]; exact h1
  · rw [hm _ _ (by omega)]; exact h3
  · rw [hm _ _ (by omega)]; exact h4
theorem gp_noKind {of : Nat} {W : Int} {x : Int32} {q : Nat} {ν : gx_M} (ho : of < 4) (hW : 0 ≤ W ∧ W < 9223372036854775808) (h : ∀ i, gt_fk of ≤ i → i < gt_fk (of + 1) → W ≠ gt_kw i) (h4 : ν.1 206 12 = gq_I q) : f_X12_lineOf (gq_I of) (gq_L W) x ν = some (false, gx_uI ν 206 16 (gq_I q)) := by
  unfold f_X12_lineOf
  rcases (show of = 0 ∨ of = 1 ∨ of = 2 ∨ of = 3 by omega) with rfl | rfl | rfl | rfl
  · have e0 : W ≠ 30796695599342963 := fun e => h 0 (by decide) (by decide) (e.trans (by decide +kernel))
    have e1 : W ≠ 123580963646565 := fun e => h 1 (by decide) (by decide) (e.trans (by decide +kernel))
    have e2 : W ≠ 427070942835 := fun e => h 2 (by decide) (by decide) (e.trans (by decide +kernel))
    have e3 : W ≠ 482955846501 := fun e => h 3 (by decide) (by decide) (e.trans (by decide +kernel))
    have e4 : W ≠ 6840691 := fun e => h 4 (by decide) (by decide) (e.trans (by decide +kernel))
    have e5 : W ≠ 7094703684652987251 := fun e => h 5 (by decide) (by decide) (e.trans (by decide +kernel))
    unfold f_X12_streetLine f_X12_fails
    simp (disch := omega) only [Int.reduceToNat, gq_lit, gq_neg, gq_add, gq_sub, gq_mul, gq_nat, Int.toNat_natCast, gq_tadd, gq_tmul, gq_lte, gq_br, gq_bd, gq_ck, Bool.false_eq_true, gq_leT, gq_leF, gq_ltT, gq_ltF, gq_eqT, gq_eqF, if_true, if_false, gq_Llit, gq_Leq, e0, e1, e2, e3, e4, e5, h4]
  · have e0 : W ≠ 6452601 := fun e => h 6 (by decide) (by decide) (e.trans (by decide +kernel))
    have e1 : W ≠ 499967946347 := fun e => h 7 (by decide) (by decide) (e.trans (by decide +kernel))
    have e2 : W ≠ 495874040172 := fun e => h 8 (by decide) (by decide) (e.trans (by decide +kernel))
    have e3 : W ≠ 1936026732 := fun e => h 9 (by decide) (by decide) (e.trans (by decide +kernel))
    have e4 : W ≠ 25711 := fun e => h 10 (by decide) (by decide) (e.trans (by decide +kernel))
    have e5 : W ≠ 110386589361522 := fun e => h 11 (by decide) (by decide) (e.trans (by decide +kernel))
    have e6 : W ≠ 27980807330096498 := fun e => h 12 (by decide) (by decide) (e.trans (by decide +kernel))
    unfold f_X12_yearLine f_X12_deedBy f_X12_fails
    simp (disch := omega) only [Int.reduceToNat, gq_lit, gq_neg, gq_add, gq_sub, gq_mul, gq_nat, Int.toNat_natCast, gq_tadd, gq_tmul, gq_lte, gq_br, gq_bd, gq_ck, Bool.false_eq_true, gq_leT, gq_leF, gq_ltT, gq_ltF, gq_eqT, gq_eqF, if_true, if_false, gq_Llit, gq_Leq, e0, e1, e2, e3, e4, e5, e6, h4]
  · have e0 : W ≠ 1735356005 := fun e => h 13 (by decide) (by decide) (e.trans (by decide +kernel))
    have e1 : W ≠ 499967685221 := fun e => h 14 (by decide) (by decide) (e.trans (by decide +kernel))
    unfold f_X12_logLine f_X12_fails
    simp (disch := omega) only [Int.reduceToNat, gq_lit, gq_neg, gq_add, gq_sub, gq_mul, gq_nat, Int.toNat_natCast, gq_tadd, gq_tmul, gq_lte, gq_br, gq_bd, gq_ck, Bool.false_eq_true, gq_leT, gq_leF, gq_ltT, gq_ltF, gq_eqT, gq_eqF, if_true, if_false, gq_Llit, gq_Leq, e0, e1, h4]
  · have e0 : W ≠ 448311223411 := fun e => h 15 (by decide) (by decide) (e.trans (by decide +kernel))
    have e1 : W ≠ 512970880104 := fun e => h 16 (by decide) (by decide) (e.trans (by decide +kernel))
    unfold f_X12_swapLine f_X12_fails
    simp (disch := omega) only [Int.reduceToNat, gq_lit, gq_neg, gq_add, gq_sub, gq_mul, gq_nat, Int.toNat_natCast, gq_tadd, gq_tmul, gq_lte, gq_br, gq_bd, gq_ck, Bool.false_eq_true, gq_leT, gq_leF, gq_ltT, gq_ltF, gq_eqT, gq_eqF, if_true, if_false, gq_Llit, gq_Leq, e0, e1, h4]
