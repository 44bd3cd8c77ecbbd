/-! one number of a line, on both sides -/
def gt_sh (r : Nat) : Nat := ([17, 18, 19, 20, 21, 22, 23, 23, 23, 23, 24, 27, 27, 27, 27, 25, 26] : List Nat).getD r 0
theorem gt_shapeOf : ∀ r : Nat, r < 17 → f_X4_shapeOf (gq_I r) = gt_sh r := by decide +kernel
theorem gt_sh_b : ∀ r : Nat, r < 17 → gt_sh r < 28 ∧ gt_wl (gt_sh r) ≤ 4 := by decide +kernel
/-- class and check, at one token: f the fault, pl its place -/
def gp_R (μ ν : gx_M) (t : Nat → Int) (len p k q e : Nat) (v f pl : Int) : Prop := gt_tk t len p k q e v ∧ (gt_C μ t len ∧ μ.1 43 2 = gq_I p ∧ μ.1 42 6 = gq_I f ∧ μ.1 42 7 = gq_I pl) ∧ (gt_M ν t len ∧ ν.1 206 10 = gq_I e ∧ ν.1 206 13 = gq_I (gt_mk k) ∧ ν.1 206 12 = gq_I q ∧ (k = 2 → ν.1 206 14 = gq_I v) ∧ (k = 1 → ν.2 206 15 = gq_L (gt_W t q e k)) ∧ ν.1 206 17 = gq_I f ∧ (f ≠ 0 → ν.1 206 18 = gq_I pl)) ∧ (f = 0 ∧ pl = -1 ∨ (f = 2 ∨ f = 3) ∧ 0 ≤ pl ∧ pl < q)
def gp_fc (i : Nat) (μ μ' : gx_M) : Prop := (∀ a j, ¬ (a = 43 ∧ 2 ≤ j) → ¬ (a = 42 ∧ (j = 6 ∨ j = 7)) → ¬ (a = 61 ∧ j = i) → μ'.1 a j = μ.1 a j) ∧ μ'.2 = μ.2
def gp_fm (i : Nat) (ν ν' : gx_M) : Prop := (∀ a j, ¬ (a = 206 ∧ 10 ≤ j ∧ j ≤ 23 ∧ j ≠ 11 ∧ j ≠ 21 ∧ j ≠ 22) → ¬ (a = 217 ∧ j = i) → ν'.1 a j = ν.1 a j) ∧ ∀ a j, ¬ (a = 206 ∧ j = 15) → ν'.2 a j = ν.2 a j
/-- a later fault does not strike an earlier one -/
theorem gp_later {nf f pl : Int} {q : Nat} {ν : gx_M} (hn : 1 ≤ nf ∧ nf ≤ 9) (hq : q ≤ 600) (h7 : ν.1 206 17 = gq_I f) (h8 : f ≠ 0 → ν.1 206 18 = gq_I pl) (hf : f = 0 ∧ pl = -1 ∨ (f = 2 ∨ f = 3) ∧ 0 ≤ pl ∧ pl < q) : f_X12_later (gq_I nf) (gq_I q) ν = some ((), if f = 0 then gx_uI (gx_uI ν 206 17 (gq_I nf)) 206 18 (gq_I q) else ν) := by
  unfold f_X12_later
  rw [h7]
  rcases hf with ⟨h1, h2⟩ | ⟨h1, h2, h3⟩
  · rw [if_pos h1]
    simp (disch := omega) only [Int.reduceToNat, gq_lit, gq_neg, gq_add, gq_sub, gq_mul, gq_nat, Int.toNat_natCast, gq_tadd, gq_tmul, gq_lte, gq_br, gq_bd, gq_ck, Bool.false_eq_true, gq_leT, gq_leF, gq_ltT, gq_ltF, gq_eqT, gq_eqF, if_true, if_false]
  · have h4 : f ≠ 0 := by omega
    rw [if_neg h4, h8 h4]
    simp (disch := omega) only [Int.reduceToNat, gq_lit, gq_neg, gq_add, gq_sub, gq_mul, gq_nat, Int.toNat_natCast, gq_tadd, gq_tmul, gq_lte, gq_br, gq_bd, gq_ck, Bool.false_eq_true, gq_leT, gq_leF, gq_ltT, gq_ltF, gq_eqT, gq_eqF, if_true, if_false]
theorem gp_note {nf f pl : Int} {q : Nat} {μ : gx_M} (h6 : μ.1 42 6 = gq_I f) (hf : f = 0 ∧ pl = -1 ∨ (f = 2 ∨ f = 3) ∧ 0 ≤ pl ∧ pl < q) : f_X4_note (gq_I nf) (gq_I q) μ = some ((), if f = 0 then gx_uI (gx_uI μ 42 6 (gq_I nf)) 42 7 (gq_I q) else μ) := by
  unfold f_X4_note
  rw [h6]
  by_cases h : f = 0
  · rw [if_pos h]
    simp (disch := omega) only [Int.reduceToNat, gq_lit, gq_neg, gq_add, gq_sub, gq_mul, gq_nat, Int.toNat_natCast, gq_tadd, gq_tmul, gq_lte, gq_br, gq_bd, gq_ck, Bool.false_eq_true, gq_leT, gq_leF, gq_ltT, gq_ltF, gq_eqT, gq_eqF, if_true, if_false]
  · rw [if_neg h]
    simp (disch := omega) only [Int.reduceToNat, gq_lit, gq_neg, gq_add, gq_sub, gq_mul, gq_nat, Int.toNat_natCast, gq_tadd, gq_tmul, gq_lte, gq_br, gq_bd, gq_ck, Bool.false_eq_true, gq_leT, gq_leF, gq_ltT, gq_ltF, gq_eqT, gq_eqF, if_true, if_false]
theorem gp_takeN {s lo0 lo hi v f pl : Int} {i q : Nat} {μ : gx_M} (hi4 : i < 4) (hv : 0 ≤ v ∧ v ≤ 99) (hl0 : 0 ≤ lo0 ∧ lo0 ≤ 99) (hhi : 0 ≤ hi ∧ hi ≤ 99) (h1 : f_X4_leastOf (gq_I s) = gq_I lo0) (h2 : f_X4_mostOf (gq_I s) = gq_I hi) (hs : 0 ≤ s ∧ s ≤ 200) (hb : (s ≠ 116 ∧ lo = lo0) ∨ (s = 116 ∧ 0 < i ∧ μ.1 61 (i - 1) = gq_I lo ∧ lo0 = 0 ∧ 0 ≤ lo ∧ lo ≤ 99)) (h5 : μ.1 43 5 = gq_I v) (h4 : μ.1 43 4 = gq_I q) (h6 : μ.1 42 6 = gq_I f) (hf : f = 0 ∧ pl = -1 ∨ (f = 2 ∨ f = 3) ∧ 0 ≤ pl ∧ pl < q) : f_X4_takeNumber (gq_I s) (gq_I i) μ = some ((), gx_uI (if lo ≤ v ∧ v ≤ hi then μ else if f = 0 then gx_uI (gx_uI μ 42 6 (gq_I 2)) 42 7 (gq_I q) else μ) 61 i (gq_I v)) := by
  have nt := gp_note (nf := 2) h6 hf
  unfold f_X4_takeNumber
  rcases hb with ⟨b1, b2⟩ | ⟨b1, b2, b3, b4, b5, b6⟩
  · subst b2
    by_cases g : lo ≤ v ∧ v ≤ hi
    · rw [if_pos g]
      simp (disch := omega) only [Int.reduceToNat, gq_lit, gq_neg, gq_add, gq_sub, gq_mul, gq_nat, Int.toNat_natCast, gq_tadd, gq_tmul, gq_lte, gq_br, gq_bd, gq_ck, Bool.false_eq_true, gq_leT, gq_leF, gq_ltT, gq_ltF, gq_eqT, gq_eqF, if_true, if_false, h5, h1, h2]
    · rw [if_neg g]
      by_cases g1 : v < lo
      · simp (disch := omega) only [Int.reduceToNat, gq_lit, gq_neg, gq_add, gq_sub, gq_mul, gq_nat, Int.toNat_natCast, gq_tadd, gq_tmul, gq_lte, gq_br, gq_bd, gq_ck, Bool.false_eq_true, gq_leT, gq_leF, gq_ltT, gq_ltF, gq_eqT, gq_eqF, if_true, if_false, h5, h1, h2, h4, nt]
      · simp (disch := omega) only [Int.reduceToNat, gq_lit, gq_neg, gq_add, gq_sub, gq_mul, gq_nat, Int.toNat_natCast, gq_tadd, gq_tmul, gq_lte, gq_br, gq_bd, gq_ck, Bool.false_eq_true, gq_leT, gq_leF, gq_ltT, gq_ltF, gq_eqT, gq_eqF, if_true, if_false, h5, h1, h2, h4, nt]
  · subst b1 b4
    have e1 : ((i : Int) - 1).toNat = i - 1 := by omega
    by_cases g : lo ≤ v ∧ v ≤ hi
    · rw [if_pos g]
      simp (disch := omega) only [Int.reduceToNat, gq_lit, gq_neg, gq_add, gq_sub, gq_mul, gq_nat, Int.toNat_natCast, gq_tadd, gq_tmul, gq_lte, gq_br, gq_bd, gq_ck, Bool.false_eq_true, gq_leT, gq_leF, gq_ltT, gq_ltF, gq_eqT, gq_eqF, if_true, if_false, h5, h1, h2, e1, b3]
    · rw [if_neg g]
      by_cases g0 : lo ≤ v
      · simp (disch := omega) only [Int.reduceToNat, gq_lit, gq_neg, gq_add, gq_sub, gq_mul, gq_nat, Int.toNat_natCast, gq_tadd, gq_tmul, gq_lte, gq_br, gq_bd, gq_ck, Bool.false_eq_true, gq_leT, gq_leF, gq_ltT, gq_ltF, gq_eqT, gq_eqF, if_true, if_false, h5, h1, h2, h4, nt, e1, b3]
      · by_cases g1 : hi < v
        · simp (disch := omega) only [Int.reduceToNat, gq_lit, gq_neg, gq_add, gq_sub, gq_mul, gq_nat, Int.toNat_natCast, gq_tadd, gq_tmul, gq_lte, gq_br, gq_bd, gq_ck, Bool.false_eq_true, gq_leT, gq_leF, gq_ltT, gq_ltF, gq_eqT, gq_eqF, if_true, if_false, h5, h1, h2, h4, nt, e1, b3]
        · simp (disch := omega) only [Int.reduceToNat, gq_lit, gq_neg, gq_add, gq_sub, gq_mul, gq_nat, Int.toNat_natCast, gq_tadd, gq_tmul, gq_lte, gq_br, gq_bd, gq_ck, Bool.false_eq_true, gq_leT, gq_leF, gq_ltT, gq_ltF, gq_eqT, gq_eqF, if_true, if_false, h5, h1, h2, h4, nt, e1, b3]
/-- no number: both stop -/
theorem gp_noC {t : Nat → Int} {len p k q e i r : Nat} {v f pl : Int} {μ ν : gx_M} (ok : gt_okt t) (hl : len ≤ 600) (h : gp_R μ ν t len p k q e v f pl) (hk : k ≠ 2) (hr : r < 17) (hi : i < gt_wl (gt_sh r)) : ∃ μ', (∀ (K : gx_M → Option (Bool × gx_M)) (fu : Nat), L_X4_readLine_48 (gq_I r) K (fu + 1) (gq_I i) μ = some (false, μ')) ∧ μ'.1 42 6 = gq_I 1 ∧ μ'.1 42 7 = gq_I q ∧ (∀ a j, ¬ (a = 43 ∧ 2 ≤ j) → ¬ (a = 42 ∧ (j = 6 ∨ j = 7)) → μ'.1 a j = μ.1 a j) ∧ μ'.2 = μ.2 := by
  obtain ⟨hk2, ⟨c1, c2, c3, c4⟩, -, -⟩ := h
  have sb := gt_sh_b r hr
  have tb := gt_tk_b hk2
  obtain ⟨μ1, a1, ⟨a2, a3, a4, a5⟩, a6, a7⟩ := gt_adv ok hl hk2 c1 c2
  refine ⟨gx_uI (gx_uI μ1 42 6 (gq_I 1)) 42 7 (gq_I q), ?_, ?_, ?_, fun a j h1 h2 => ?_, ?_⟩
  · intro K fu
    rw [L_X4_readLine_48.eq_2, gt_shapeOf r hr, gt_len _ sb.1]
    unfold f_X4_stopReading
    simp (disch := omega) only [Int.reduceToNat, gq_lit, gq_neg, gq_add, gq_sub, gq_mul, gq_nat, Int.toNat_natCast, gq_tadd, gq_tmul, gq_lte, gq_br, gq_bd, gq_ck, Bool.false_eq_true, gq_leT, gq_leF, gq_ltT, gq_ltF, gq_eqT, gq_eqF, if_true, if_false, a1, a3, gq_uI1, gq_uI2, gq_uL1, gq_uL2, Nat.reduceEqDiff, false_and, and_false, and_true, true_and, a4]
  · simp only [gq_uI1, gq_uI2, gq_uL1, gq_uL2, Nat.reduceEqDiff, false_and, and_false, and_true, true_and, if_true, if_false]
  · simp only [gq_uI1, gq_uI2, gq_uL1, gq_uL2, Nat.reduceEqDiff, false_and, and_false, and_true, true_and, if_true, if_false]
  · simp (disch := omega) only [gq_uI1, gq_uI2, gq_uL1, gq_uL2, gq_ifF, a6 a j h1]
  · rw [gq_uI2, gq_uI2, a7]
theorem gp_noM {t : Nat → Int} {len p k q e : Nat} {v f pl : Int} {μ ν : gx_M} (h : gp_R μ ν t len p k q e v f pl) (hk : k ≠ 2) {x y z : Int32} : f_X12_take x y z ν = some (false, gx_uI ν 206 16 (gq_I q)) := by
  obtain ⟨hk2, -, ⟨m1, m2, m3, m4, m5, m6, m7, m8⟩, -⟩ := h
  have tb := gt_tk_b hk2
  have hm : gt_mk k ≠ 3 ∧ 0 ≤ gt_mk k ∧ gt_mk k ≤ 4 := by
    unfold gt_mk
    rcases (show k = 0 ∨ k = 1 ∨ k = 2 ∨ k = 3 ∨ k = 4 by omega) with h | h | h | h | h <;> subst h <;> first | (exact absurd rfl hk) | decide
  unfold f_X12_take f_X12_fails
  simp (disch := omega) only [Int.reduceToNat, gq_lit, gq_neg, gq_add, gq_sub, gq_mul, gq_nat, Int.toNat_natCast, gq_tadd, gq_tmul, gq_lte, gq_br, gq_bd, gq_ck, Bool.false_eq_true, gq_leT, gq_leF, gq_ltT, gq_ltF, gq_eqT, gq_eqF, if_true, if_false, m3, m4]
theorem gp_ff {f pl lo hi v : Int} {q q2 : Nat} (hf : f = 0 ∧ pl = -1 ∨ (f = 2 ∨ f = 3) ∧ 0 ≤ pl ∧ pl < q) (hq : q < q2) : ((if lo ≤ v ∧ v ≤ hi then f else if f = 0 then 2 else f) = 0 ∧ (if lo ≤ v ∧ v ≤ hi then pl else if f = 0 then (q : Int) else pl) = -1 ∨ ((if lo ≤ v ∧ v ≤ hi then f else if f = 0 then 2 else f) = 2 ∨ (if lo ≤ v ∧ v ≤ hi then f else if f = 0 then 2 else f) = 3) ∧ 0 ≤ (if lo ≤ v ∧ v ≤ hi then pl else if f = 0 then (q : Int) else pl) ∧ (if lo ≤ v ∧ v ≤ hi then pl else if f = 0 then (q : Int) else pl) < q2) ∧ ((if lo ≤ v ∧ v ≤ hi then f else if f = 0 then 2 else f) = 0 ↔ f = 0 ∧ lo ≤ v ∧ v ≤ hi) := by
  by_cases h : lo ≤ v ∧ v ≤ hi
  · rw [if_pos h, if_pos h]
    exact ⟨by omega, fun g => ⟨g, h⟩, fun g => g.1⟩
  · rw [if_neg h, if_neg h]
    by_cases g : f = 0
    · rw [if_pos g, if_pos g]
      exact ⟨by omega, fun g => by omega, fun g => absurd g.2 h⟩
    · rw [if_neg g, if_neg g]
      exact ⟨by omega, fun g2 => absurd g2 g, fun g2 => absurd g2.1 g⟩
set_option maxHeartbeats 4000000 in
theorem gp_yes {t : Nat → Int} {len p k q e i i' r : Nat} {v f pl s lo0 lo hi g : Int} {μ ν : gx_M} (ok : gt_okt t) (hl : len ≤ 600) (h : gp_R μ ν t len p k q e v f pl) (hk : k = 2) (hr : r < 17) (hi4 : i < gt_wl (gt_sh r)) (hs : gt_wc (gt_sh r) i = s) (hi5 : i' < 5) (hl0 : 0 ≤ lo0 ∧ lo0 ≤ 99) (hhi : 0 ≤ hi ∧ hi ≤ 99) (h1 : f_X4_leastOf (gq_I s) = gq_I lo0) (h2 : f_X4_mostOf (gq_I s) = gq_I hi) (hb : (s ≠ 116 ∧ lo = lo0) ∨ (s = 116 ∧ 0 < i ∧ μ.1 61 (i - 1) = gq_I lo ∧ lo0 = 0 ∧ 0 ≤ lo ∧ lo ≤ 99)) (hg : ν.1 206 23 = gq_I g) : ∃ k2 q2 e2 v2 f' pl' μ' ν', (∀ (K : gx_M → Option (Bool × gx_M)) (fu : Nat), L_X4_readLine_48 (gq_I r) K (fu + 1) (gq_I i) μ = L_X4_readLine_48 (gq_I r) K fu (gq_I (i + 1 : Nat)) μ') ∧ f_X12_take (gq_I i') (gq_I lo) (gq_I hi) ν = some (true, ν') ∧ gp_R μ' ν' t len e k2 q2 e2 v2 f' pl' ∧ μ'.1 61 i = gq_I v ∧ ν'.1 217 i' = gq_I v ∧ (0 ≤ v ∧ v ≤ 99) ∧ (f' = 0 ↔ f = 0 ∧ lo ≤ v ∧ v ≤ hi) ∧ ν'.1 206 23 = (if lo ≤ v ∧ v ≤ hi then gq_I g else gq_I 0) ∧ gp_fc i μ μ' ∧ gp_fm i' ν ν' := by
  obtain ⟨hk2, ⟨c1, c2, c3, c4⟩, ⟨m1, m2, m3, m4, m5, m6, m7, m8⟩, hf⟩ := h
  have sb := gt_sh_b r hr
  have tb := gt_tk_b hk2
  have tv := gt_tk_v hk2 hk
  have wf := gt_wc_f _ sb.1 i hi4
  rw [hs] at wf
  obtain ⟨μ1, a1, ⟨a2, a3, a4, a5⟩, a6, a7⟩ := gt_adv ok hl hk2 c1 c2
  have b1 : μ1.1 61 (i - 1) = μ.1 61 (i - 1) := a6 _ _ (by omega)
  have tn := gp_takeN (μ := μ1) (pl := pl) (i := i) (q := q) (lo := lo) (by omega) tv hl0 hhi h1 h2 (by omega) (by rw [b1]; exact hb) (a5 hk) a4 (by rw [a6 _ _ (by omega)]; exact c3) hf
  obtain ⟨f', ef⟩ : ∃ f' : Int, f' = if lo ≤ v ∧ v ≤ hi then f else if f = 0 then 2 else f := ⟨_, rfl⟩
  obtain ⟨pl', ep⟩ : ∃ pl' : Int, pl' = if lo ≤ v ∧ v ≤ hi then pl else if f = 0 then (q : Int) else pl := ⟨_, rfl⟩
  obtain ⟨μ2, e2⟩ : ∃ μ2, μ2 = gx_uI (if lo ≤ v ∧ v ≤ hi then μ1 else if f = 0 then gx_uI (gx_uI μ1 42 6 (gq_I 2)) 42 7 (gq_I q) else μ1) 61 i (gq_I v) := ⟨_, rfl⟩
  rw [← e2] at tn
  have F2 : ∀ a j, ¬ (a = 42 ∧ (j = 6 ∨ j = 7)) → ¬ (a = 61 ∧ j = i) → μ2.1 a j = μ1.1 a j := fun a j g1 g2 => by
    rw [e2, gq_uI1, if_neg g2]
    split
    · rfl
    · split
      · simp (disch := omega) only [gq_uI1, gq_uI2, gq_uL1, gq_uL2, gq_ifF]
      · rfl
  have G2 : μ2.2 = μ1.2 := by
    rw [e2, gq_uI2]
    split
    · rfl
    · split <;> rfl
  have x6 : μ2.1 42 6 = gq_I f' := by
    rw [e2, gq_uI1, if_neg (by omega), ef]
    split
    · rw [a6 _ _ (by omega)]; exact c3
    · split
      · simp only [gq_uI1, gq_uI2, gq_uL1, gq_uL2, Nat.reduceEqDiff, false_and, and_false, and_true, true_and, if_true, if_false]
      · rw [a6 _ _ (by omega)]; exact c3
  have x7 : μ2.1 42 7 = gq_I pl' := by
    rw [e2, gq_uI1, if_neg (by omega), ep]
    split
    · rw [a6 _ _ (by omega)]; exact c4
    · split
      · simp only [gq_uI1, gq_uI2, gq_uL1, gq_uL2, Nat.reduceEqDiff, false_and, and_false, and_true, true_and, if_true, if_false]
      · rw [a6 _ _ (by omega)]; exact c4
  obtain ⟨k2, q2, e2', v2, hk3⟩ := gt_tk_ex t (len := len) (p := e) tb.2.2.1
  have tb2 := gt_tk_b hk3
  obtain ⟨ν1, e3⟩ : ∃ ν1, ν1 = gx_uI ν 217 i' (gq_I v) := ⟨_, rfl⟩
  have lt := gp_later (nf := 2) (q := q) (ν := ν1) (by omega) (by omega) (by rw [e3]; simp only [gq_uI1, gq_uI2, gq_uL1, gq_uL2, Nat.reduceEqDiff, false_and, and_false, and_true, true_and, if_false]; exact m7) (fun h => by rw [e3]; simp only [gq_uI1, gq_uI2, gq_uL1, gq_uL2, Nat.reduceEqDiff, false_and, and_false, and_true, true_and, if_false]; exact m8 h) hf
  obtain ⟨ν2, e4⟩ : ∃ ν2, ν2 = if lo ≤ v ∧ v ≤ hi then ν1 else gx_uI (if f = 0 then gx_uI (gx_uI ν1 206 17 (gq_I 2)) 206 18 (gq_I q) else ν1) 206 23 (gq_I 0) := ⟨_, rfl⟩
  have F4 : ∀ a j, ¬ (a = 206 ∧ (j = 17 ∨ j = 18 ∨ j = 23)) → ν2.1 a j = ν1.1 a j := fun a j g1 => by
    rw [e4]
    split
    · rfl
    · rw [gq_uI1, if_neg (by omega)]
      split
      · simp (disch := omega) only [gq_uI1, gq_uI2, gq_uL1, gq_uL2, gq_ifF]
      · rfl
  have G4 : ν2.2 = ν.2 := by
    rw [e4]
    split
    · rw [e3]; rfl
    · rw [gq_uI2]
      split
      · rw [e3]; rfl
      · rw [e3]; rfl
  have M4 : gt_M ν2 t len := gt_M_w m1 fun a j g => by rw [F4 a j (by omega), e3, gq_uI1, if_neg (by omega)]
  obtain ⟨ν3, b1, ⟨b2, b3, b4, b5, b6⟩, b7, b8⟩ := gt_tok ok hl hk3 M4 (by rw [F4 _ _ (by omega), e3]; simp only [gq_uI1, gq_uI2, gq_uL1, gq_uL2, Nat.reduceEqDiff, false_and, and_false, and_true, true_and, if_false]; exact m2)
  have y7 : ν3.1 206 17 = gq_I f' := by
    rw [b7 _ _ (by omega), e4, ef]
    split
    · rw [e3]; simp only [gq_uI1, gq_uI2, gq_uL1, gq_uL2, Nat.reduceEqDiff, false_and, and_false, and_true, true_and, if_false]; exact m7
    · rw [gq_uI1, if_neg (by omega)]
      split
      · simp only [gq_uI1, gq_uI2, gq_uL1, gq_uL2, Nat.reduceEqDiff, false_and, and_false, and_true, true_and, if_true, if_false]
      · rw [e3]; simp only [gq_uI1, gq_uI2, gq_uL1, gq_uL2, Nat.reduceEqDiff, false_and, and_false, and_true, true_and, if_false]; exact m7
  refine ⟨k2, q2, e2', v2, f', pl', μ2, ν3, ?_, ?_, ⟨hk3, ⟨gt_C_w c1 fun a j g => ?_, ?_, x6, x7⟩, ⟨gt_M_w M4 fun a j g => b7 _ _ (by omega), b2, b3, b4, b5, fun g => ?_, y7, fun g => ?_⟩, ?_⟩, ?_, ?_, tv, ?_, ?_, ⟨fun a j g1 g2 g3 => ?_, ?_⟩, fun a j g1 g2 => ?_, fun a j g1 => ?_⟩
  · intro K fu
    rw [L_X4_readLine_48.eq_2, gt_shapeOf r hr, gt_len _ sb.1]
    have ch := gt_chr (μ := μ1) sb.1 hi4
    simp (disch := omega) only [Int.reduceToNat, gq_lit, gq_neg, gq_add, gq_sub, gq_mul, gq_nat, Int.toNat_natCast, gq_tadd, gq_tmul, gq_lte, gq_br, gq_bd, gq_ck, Bool.false_eq_true, gq_leT, gq_leF, gq_ltT, gq_ltF, gq_eqT, gq_eqF, if_true, if_false, a1, a3, ch, wf.1, tn]
    rfl
  · have mm : gt_mk k = 3 := by rw [hk]; rfl
    have n4 : ν1.1 206 14 = gq_I v := by rw [e3]; simp only [gq_uI1, gq_uI2, gq_uL1, gq_uL2, Nat.reduceEqDiff, false_and, and_false, and_true, true_and, if_false]; exact m5 hk
    have n2 : ν1.1 206 12 = gq_I q := by rw [e3]; simp only [gq_uI1, gq_uI2, gq_uL1, gq_uL2, Nat.reduceEqDiff, false_and, and_false, and_true, true_and, if_false]; exact m4
    unfold f_X12_take
    by_cases g : lo ≤ v ∧ v ≤ hi
    · rw [if_pos g] at e4
      rw [m3, mm, m5 hk]
      simp (disch := omega) only [Int.reduceToNat, gq_lit, gq_neg, gq_add, gq_sub, gq_mul, gq_nat, Int.toNat_natCast, gq_tadd, gq_tmul, gq_lte, gq_br, gq_bd, gq_ck, Bool.false_eq_true, gq_leT, gq_leF, gq_ltT, gq_ltF, gq_eqT, gq_eqF, if_true, if_false, gq_inT]
      rw [← e3]
      simp (disch := omega) only [n4, gq_inT, if_true]
      rw [← e4, b1]
      rfl
    · rw [if_neg g] at e4
      rw [m3, mm, m5 hk]
      simp (disch := omega) only [Int.reduceToNat, gq_lit, gq_neg, gq_add, gq_sub, gq_mul, gq_nat, Int.toNat_natCast, gq_tadd, gq_tmul, gq_lte, gq_br, gq_bd, gq_ck, Bool.false_eq_true, gq_leT, gq_leF, gq_ltT, gq_ltF, gq_eqT, gq_eqF, if_true, if_false, gq_inF]
      rw [← e3]
      simp (disch := omega) only [n4, n2, gq_inF, if_false, lt, gq_bd, gq_biF]
      rw [← e4, b1]
      rfl
  · rw [F2 _ _ (by omega) (by omega)]; exact a6 _ _ (by omega)
  · rw [F2 _ _ (by omega) (by omega)]; exact a2
  · rw [b6 g]
    unfold gt_W
    rw [if_pos g]
    split <;> rfl
  · rw [b7 _ _ (by omega), e4, ep]
    split
    · rename_i g2
      rw [if_pos g2] at ef
      rw [e3]; simp only [gq_uI1, gq_uI2, gq_uL1, gq_uL2, Nat.reduceEqDiff, false_and, and_false, and_true, true_and, if_false]; exact m8 (by omega)
    · rename_i g2
      rw [if_neg g2] at ef
      rw [gq_uI1, if_neg (by omega)]
      split
      · simp only [gq_uI1, gq_uI2, gq_uL1, gq_uL2, Nat.reduceEqDiff, false_and, and_false, and_true, true_and, if_true, if_false]
      · rw [e3]; simp only [gq_uI1, gq_uI2, gq_uL1, gq_uL2, Nat.reduceEqDiff, false_and, and_false, and_true, true_and, if_false]; rename_i g3; exact m8 g3
  · rw [ef, ep]
    exact (gp_ff hf (by have := tb.2.2.2.2.2.2 (by rw [hk]; decide); have := tb2.1; omega)).1
  · rw [e2, gq_uI1, if_pos ⟨rfl, rfl⟩]
  · rw [b7 _ _ (by omega), F4 _ _ (by omega), e3, gq_uI1, if_pos ⟨rfl, rfl⟩]
  · rw [ef]
    exact (gp_ff hf (Nat.lt_succ_self q)).2
  · rw [b7 _ _ (by omega), e4]
    split
    · rw [e3]; simp only [gq_uI1, gq_uI2, gq_uL1, gq_uL2, Nat.reduceEqDiff, false_and, and_false, and_true, true_and, if_false]; exact hg
    · simp only [gq_uI1, gq_uI2, gq_uL1, gq_uL2, Nat.reduceEqDiff, false_and, and_false, and_true, true_and, if_true]
  · rw [F2 _ _ g2 g3, a6 _ _ g1]
  · rw [G2, a7]
  · rw [b7 _ _ (by omega), F4 _ _ (by omega), e3, gq_uI1, if_neg g2]
  · rw [b8 _ _ g1, G4]
