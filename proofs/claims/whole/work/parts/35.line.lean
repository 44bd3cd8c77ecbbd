/-! what a line begins with, and its numbers by the check's words -/
theorem gp_R_m {t : Nat → Int} {len p k q e : Nat} {v f pl : Int} {μ ν ν' : gx_M} (h : gp_R μ ν t len p k q e v f pl) (g : ∀ a j, (a = 206 ∧ 10 ≤ j ∧ j ≤ 18 ∧ j ≠ 16) ∨ a = 207 → ν'.1 a j = ν.1 a j) (g2 : ν'.2 206 15 = ν.2 206 15) : gp_R μ ν' t len p k q e v f pl := by
  obtain ⟨h1, h2, ⟨m1, m2, m3, m4, m5, m6, m7, m8⟩, h4⟩ := h
  refine ⟨h1, h2, ⟨gt_M_w m1 fun a j g3 => g a j (by omega), ?_, ?_, ?_, fun g3 => ?_, fun g3 => ?_, ?_, fun g3 => ?_⟩, h4⟩
  · rw [g _ _ (by omega)]; exact m2
  · rw [g _ _ (by omega)]; exact m3
  · rw [g _ _ (by omega)]; exact m4
  · rw [g _ _ (by omega)]; exact m5 g3
  · rw [g2]; exact m6 g3
  · rw [g _ _ (by omega)]; exact m7
  · rw [g _ _ (by omega)]; exact m8 g3
theorem gp_R_c {t : Nat → Int} {len p k q e : Nat} {v f pl : Int} {μ ν μ' : gx_M} (h : gp_R μ ν t len p k q e v f pl) (g : ∀ a j, a = 43 ∨ a = 44 ∨ (a = 42 ∧ (j = 6 ∨ j = 7)) → μ'.1 a j = μ.1 a j) : gp_R μ' ν t len p k q e v f pl := by
  obtain ⟨h1, ⟨c1, c2, c3, c4⟩, h3, h4⟩ := h
  refine ⟨h1, ⟨gt_C_w c1 fun a j g3 => g a j (by omega), ?_, ?_, ?_⟩, h3, h4⟩
  · rw [g _ _ (by omega)]; exact c2
  · rw [g _ _ (by omega)]; exact c3
  · rw [g _ _ (by omega)]; exact c4
/-- the class has the token too -/
def gp_A (μ ν : gx_M) (t : Nat → Int) (len p k q e : Nat) (v f pl : Int) : Prop := gt_tk t len p k q e v ∧ (gt_C μ t len ∧ μ.1 43 2 = gq_I e ∧ μ.1 43 3 = gq_I k ∧ μ.1 43 4 = gq_I q ∧ μ.1 42 6 = gq_I f ∧ μ.1 42 7 = gq_I pl) ∧ (gt_M ν t len ∧ ν.1 206 10 = gq_I e ∧ ν.1 206 13 = gq_I (gt_mk k) ∧ ν.1 206 12 = gq_I q ∧ (k = 1 → ν.2 206 15 = gq_L (gt_W t q e k)) ∧ ν.1 206 17 = gq_I f ∧ (f ≠ 0 → ν.1 206 18 = gq_I pl)) ∧ (f = 0 ∧ pl = -1 ∨ (f = 2 ∨ f = 3) ∧ 0 ≤ pl ∧ pl < q)
theorem gp_adv {t : Nat → Int} {len p k q e : Nat} {v f pl : Int} {μ ν : gx_M} (ok : gt_okt t) (hl : len ≤ 600) (h : gp_R μ ν t len p k q e v f pl) : ∃ μ', f_X8_advance μ = some ((), μ') ∧ gp_A μ' ν t len p k q e v f pl ∧ (∀ a j, ¬ (a = 43 ∧ 2 ≤ j) → μ'.1 a j = μ.1 a j) ∧ μ'.2 = μ.2 := by
  obtain ⟨h1, ⟨c1, c2, c3, c4⟩, ⟨m1, m2, m3, m4, m5, m6, m7, m8⟩, h4⟩ := h
  obtain ⟨μ1, a1, ⟨a2, a3, a4, a5⟩, a6, a7⟩ := gt_adv ok hl h1 c1 c2
  refine ⟨μ1, a1, ⟨h1, ⟨gt_C_w c1 fun a j g => a6 _ _ (by omega), a2, a3, a4, ?_, ?_⟩, ⟨m1, m2, m3, m4, m6, m7, m8⟩, h4⟩, a6, a7⟩
  · rw [a6 _ _ (by omega)]; exact c3
  · rw [a6 _ _ (by omega)]; exact c4
/-- on to the next token; o: one too many is noted here -/
def gp_n3 (o : Prop) [Decidable o] (f : Int) (q : Nat) (μ : gx_M) : gx_M := if o ∧ f = 0 then gx_uI (gx_uI μ 42 6 (gq_I 3)) 42 7 (gq_I q) else μ
def gp_l3 (o : Prop) [Decidable o] (f : Int) (q : Nat) (ν : gx_M) : gx_M := if o ∧ f = 0 then gx_uI (gx_uI ν 206 17 (gq_I 3)) 206 18 (gq_I q) else ν
theorem gp_n3_f (o : Prop) [Decidable o] (f : Int) (q : Nat) (μ : gx_M) : (∀ a j, ¬ (a = 42 ∧ (j = 6 ∨ j = 7)) → (gp_n3 o f q μ).1 a j = μ.1 a j) ∧ (gp_n3 o f q μ).2 = μ.2 := by
  unfold gp_n3
  split
  · exact ⟨fun a j h => by simp (disch := omega) only [gq_uI1, gq_uI2, gq_uL1, gq_uL2, gq_ifF], rfl⟩
  · exact ⟨fun _ _ _ => rfl, rfl⟩
theorem gp_l3_f (o : Prop) [Decidable o] (f : Int) (q : Nat) (ν : gx_M) : (∀ a j, ¬ (a = 206 ∧ (j = 17 ∨ j = 18)) → (gp_l3 o f q ν).1 a j = ν.1 a j) ∧ (gp_l3 o f q ν).2 = ν.2 := by
  unfold gp_l3
  split
  · exact ⟨fun a j h => by simp (disch := omega) only [gq_uI1, gq_uI2, gq_uL1, gq_uL2, gq_ifF], rfl⟩
  · exact ⟨fun _ _ _ => rfl, rfl⟩
theorem gp_next {t : Nat → Int} {len p k q e : Nat} {v f pl : Int} {μ ν : gx_M} (ok : gt_okt t) (hl : len ≤ 600) (h : gp_A μ ν t len p k q e v f pl) (hk : k ≠ 0) (o : Prop) [Decidable o] : ∃ k2 q2 e2 v2 f' pl' ν', f_X12_token (gp_l3 o f q ν) = some ((), ν') ∧ gp_R (gp_n3 o f q μ) ν' t len e k2 q2 e2 v2 f' pl' ∧ (f' = 0 ↔ f = 0 ∧ ¬ o) ∧ q < q2 ∧ (∀ a j, ¬ (a = 206 ∧ 10 ≤ j ∧ j ≤ 18 ∧ j ≠ 11) → ν'.1 a j = ν.1 a j) ∧ (∀ a j, ¬ (a = 206 ∧ j = 15) → ν'.2 a j = ν.2 a j) := by
  obtain ⟨h1, ⟨c1, c2, c3, c4, c5, c6⟩, ⟨m1, m2, m3, m4, m6, m7, m8⟩, h4⟩ := h
  have tb := gt_tk_b h1
  have nf := gp_n3_f o f q μ
  have lf := gp_l3_f o f q ν
  obtain ⟨k2, q2, e2, v2, hk3⟩ := gt_tk_ex t (len := len) (p := e) tb.2.2.1
  have tb2 := gt_tk_b hk3
  have M2 : gt_M (gp_l3 o f q ν) t len := gt_M_w m1 fun a j g => lf.1 _ _ (by omega)
  obtain ⟨ν', b1, ⟨b2, b3, b4, b5, b6⟩, b7, b8⟩ := gt_tok ok hl hk3 M2 (by rw [lf.1 _ _ (by omega)]; exact m2)
  refine ⟨k2, q2, e2, v2, if o ∧ f = 0 then 3 else f, if o ∧ f = 0 then (q : Int) else pl, ν', b1, ⟨hk3, ⟨gt_C_w c1 fun a j g => nf.1 _ _ (by omega), ?_, ?_, ?_⟩, ⟨gt_M_w M2 fun a j g => b7 _ _ (by omega), b2, b3, b4, b5, fun g => ?_, ?_, fun g => ?_⟩, ?_⟩, ?_, by omega, fun a j g => ?_, fun a j g => ?_⟩
  · rw [nf.1 _ _ (by omega)]; exact c2
  · unfold gp_n3
    split
    · simp only [gq_uI1, gq_uI2, gq_uL1, gq_uL2, Nat.reduceEqDiff, false_and, and_false, and_true, true_and, if_true, if_false]
    · exact c5
  · unfold gp_n3
    split
    · simp only [gq_uI1, gq_uI2, gq_uL1, gq_uL2, Nat.reduceEqDiff, false_and, and_false, and_true, true_and, if_true, if_false]
    · exact c6
  · rw [b6 g]
    unfold gt_W
    rw [if_pos g]
    split <;> rfl
  · rw [b7 _ _ (by omega)]
    unfold gp_l3
    split
    · simp only [gq_uI1, gq_uI2, gq_uL1, gq_uL2, Nat.reduceEqDiff, false_and, and_false, and_true, true_and, if_true, if_false]
    · exact m7
  · rw [b7 _ _ (by omega)]
    unfold gp_l3
    split
    · simp only [gq_uI1, gq_uI2, gq_uL1, gq_uL2, Nat.reduceEqDiff, false_and, and_false, and_true, true_and, if_true, if_false]
    · rename_i g2
      rw [if_neg g2] at g
      exact m8 g
  · split
    · omega
    · omega
  · split
    · rename_i g2
      exact ⟨fun g => by omega, fun g => absurd g2.1 g.2⟩
    · rename_i g2
      exact ⟨fun g => ⟨g, fun g3 => g2 ⟨g3, g⟩⟩, fun g => g.1⟩
  · rw [b7 _ _ (by omega), lf.1 _ _ (by omega)]
  · rw [b8 _ _ g, lf.2]
def gp_fh (i : Nat) (ν ν' : gx_M) : Prop := (∀ a j, ¬ (a = 206 ∧ 10 ≤ j ∧ j ≤ 23 ∧ j ≠ 11) → ¬ (a = 217 ∧ j = i) → ν'.1 a j = ν.1 a j) ∧ ∀ a j, ¬ (a = 206 ∧ j = 15) → ν'.2 a j = ν.2 a j
theorem gp_sT {t : Nat → Int} {len p k q e i i' r : Nat} {v f pl s lo0 lo hi g m o : Int} {μ ν : gx_M} (ok : gt_okt t) (hl : len ≤ 600) (h : gp_R μ ν t len p k q e v f pl) (hk : k = 2) (hr : r < 17) (hi4 : i < gt_wl (gt_sh r)) (hs : gt_wc (gt_sh r) i = s) (hi5 : i' < 5) (hl0 : 0 ≤ lo0 ∧ lo0 ≤ 99) (hhi : 0 ≤ hi ∧ hi ≤ 99) (h1 : f_X4_leastOf (gq_I s) = gq_I lo0) (h2 : f_X4_mostOf (gq_I s) = gq_I hi) (hb : (s ≠ 116 ∧ lo = lo0) ∨ (s = 116 ∧ 0 < i ∧ μ.1 61 (i - 1) = gq_I lo ∧ lo0 = 0 ∧ 0 ≤ lo ∧ lo ≤ 99)) (hg : ν.1 206 23 = gq_I g) (hm : ν.1 206 21 = gq_I m) (ho : ν.1 206 22 = gq_I o) : ∃ k2 q2 e2 v2 f' pl' μ' ν', (∀ K fu, L_X4_readLine_48 (gq_I r) K (fu + 1) (gq_I i) μ = L_X4_readLine_48 (gq_I r) K fu (gq_I (i + 1 : Nat)) μ') ∧ f_X12_take (gq_I i') (gq_I lo) (gq_I hi) ν = some (true, ν') ∧ gp_R μ' ν' t len e k2 q2 e2 v2 f' pl' ∧ (μ'.1 61 i = gq_I v ∧ ν'.1 217 i' = gq_I v ∧ 0 ≤ v ∧ v ≤ 99) ∧ (f' = 0 ↔ f = 0 ∧ lo ≤ v ∧ v ≤ hi) ∧ (ν'.1 206 23 = (if lo ≤ v ∧ v ≤ hi then gq_I g else gq_I 0) ∧ ν'.1 206 21 = gq_I m ∧ ν'.1 206 22 = gq_I o) ∧ gp_fc i μ μ' ∧ gp_fh i' ν ν' := by
  obtain ⟨k2, q2, e2, v2, f', pl', μ', ν', a1, a2, a3, a4, a5, a6, a7, a8, a9, a10⟩ := gp_yes ok hl h hk hr hi4 hs hi5 hl0 hhi h1 h2 hb hg
  refine ⟨k2, q2, e2, v2, f', pl', μ', ν', a1, a2, a3, ⟨a4, a5, a6⟩, a7, ⟨a8, ?_, ?_⟩, a9, fun a j g1 g2 => a10.1 a j (by omega) g2, a10.2⟩
  · rw [a10.1 _ _ (by omega) (by omega)]; exact hm
  · rw [a10.1 _ _ (by omega) (by omega)]; exact ho
theorem gp_gr {a b : Int} (h : (-2147483648 ≤ a ∧ a < 2147483648) ∧ -2147483648 ≤ b ∧ b < 2147483648) : f_X12_greater (gq_I a) (gq_I b) = gq_I (if a ≤ b then b else a) := by
  unfold f_X12_greater
  simp (disch := omega) only [gq_le]
  split <;> rfl
theorem gp_ls {a b : Int} (h : (-2147483648 ≤ a ∧ a < 2147483648) ∧ -2147483648 ≤ b ∧ b < 2147483648) : f_X12_lesser (gq_I a) (gq_I b) = gq_I (if b ≤ a then b else a) := by
  unfold f_X12_lesser
  simp (disch := omega) only [gq_le]
  split <;> rfl
theorem gp_sM {t : Nat → Int} {len p k q e i i' r : Nat} {v f pl s lo0 lo g m o : Int} {μ ν : gx_M} (ok : gt_okt t) (hl : len ≤ 600) (h : gp_R μ ν t len p k q e v f pl) (hk : k = 2) (hr : r < 17) (hi4 : i < gt_wl (gt_sh r)) (hs : gt_wc (gt_sh r) i = s) (hi5 : i' < 5) (hl0 : 0 ≤ lo0 ∧ lo0 ≤ 99) (h1 : f_X4_leastOf (gq_I s) = gq_I lo0) (h2 : f_X4_mostOf (gq_I s) = gq_I 39) (hb : (s ≠ 116 ∧ lo = lo0) ∨ (s = 116 ∧ 0 < i ∧ μ.1 61 (i - 1) = gq_I lo ∧ lo0 = 0 ∧ 0 ≤ lo ∧ lo ≤ 99)) (hg : ν.1 206 23 = gq_I g) (hm : ν.1 206 21 = gq_I m) (hmb : -1 ≤ m ∧ m ≤ 99) (ho : ν.1 206 22 = gq_I o) : ∃ k2 q2 e2 v2 f' pl' μ' ν', (∀ K fu, L_X4_readLine_48 (gq_I r) K (fu + 1) (gq_I i) μ = L_X4_readLine_48 (gq_I r) K fu (gq_I (i + 1 : Nat)) μ') ∧ f_X12_takeMinute (gq_I i') (gq_I lo) ν = some (true, ν') ∧ gp_R μ' ν' t len e k2 q2 e2 v2 f' pl' ∧ (μ'.1 61 i = gq_I v ∧ ν'.1 217 i' = gq_I v ∧ 0 ≤ v ∧ v ≤ 99) ∧ (f' = 0 ↔ f = 0 ∧ lo ≤ v ∧ v ≤ 39) ∧ (ν'.1 206 23 = (if lo ≤ v ∧ v ≤ 39 then gq_I g else gq_I 0) ∧ ν'.1 206 21 = gq_I (if m ≤ v then v else m) ∧ ν'.1 206 22 = gq_I o) ∧ gp_fc i μ μ' ∧ gp_fh i' ν ν' := by
  obtain ⟨k2, q2, e2, v2, f', pl', μ', ν', a1, a2, a3, a4, a5, a6, a7, a8⟩ := gp_sT ok hl h hk hr hi4 hs hi5 hl0 (by omega) h1 h2 hb hg hm ho
  refine ⟨k2, q2, e2, v2, f', pl', μ', gx_uI ν' 206 21 (gq_I (if m ≤ v then v else m)), a1, ?_, gp_R_m a3 (fun a j g => ?_) ?_, ⟨a4.1, ?_, a4.2.2⟩, a5, ⟨?_, ?_, ?_⟩, a7, ⟨fun a j g1 g2 => ?_, ?_⟩⟩
  · unfold f_X12_takeMinute
    simp (disch := omega) only [Int.reduceToNat, gq_lit, gq_neg, gq_add, gq_sub, gq_mul, gq_nat, Int.toNat_natCast, gq_tadd, gq_tmul, gq_lte, gq_br, gq_bd, gq_ck, Bool.false_eq_true, gq_leT, gq_leF, gq_ltT, gq_ltF, gq_eqT, gq_eqF, if_true, if_false, a2, a6.2.1, a4.2.1, gp_gr]
  · simp (disch := omega) only [gq_uI1, gq_uI2, gq_uL1, gq_uL2, gq_ifF]
  · rfl
  · rw [gq_uI1, if_neg (by omega)]; exact a4.2.1
  · rw [gq_uI1, if_neg (by omega)]; exact a6.1
  · rw [gq_uI1, if_pos ⟨rfl, rfl⟩]
  · rw [gq_uI1, if_neg (by omega)]; exact a6.2.2
  · rw [gq_uI1, if_neg (by omega)]; exact a8.1 a j g1 g2
  · exact a8.2
theorem gp_sO {t : Nat → Int} {len p k q e i i' r : Nat} {v f pl s lo hi g m o : Int} {μ ν : gx_M} (ok : gt_okt t) (hl : len ≤ 600) (h : gp_R μ ν t len p k q e v f pl) (hk : k = 2) (hr : r < 17) (hi4 : i < gt_wl (gt_sh r)) (hs : gt_wc (gt_sh r) i = s) (hi5 : i' < 5) (hhi : 0 ≤ hi ∧ hi ≤ 99) (h1 : f_X4_leastOf (gq_I s) = gq_I 0) (h2 : f_X4_mostOf (gq_I s) = gq_I hi) (hb : s ≠ 116) (hg : ν.1 206 23 = gq_I g) (hm : ν.1 206 21 = gq_I m) (ho : ν.1 206 22 = gq_I o) (hob : -1 ≤ o ∧ o ≤ 99) : ∃ k2 q2 e2 v2 f' pl' μ' ν', (∀ K fu, L_X4_readLine_48 (gq_I r) K (fu + 1) (gq_I i) μ = L_X4_readLine_48 (gq_I r) K fu (gq_I (i + 1 : Nat)) μ') ∧ f_X12_takeOne (gq_I i') (gq_I hi) ν = some (true, ν') ∧ gp_R μ' ν' t len e k2 q2 e2 v2 f' pl' ∧ (μ'.1 61 i = gq_I v ∧ ν'.1 217 i' = gq_I v ∧ 0 ≤ v ∧ v ≤ 99) ∧ (f' = 0 ↔ f = 0 ∧ 0 ≤ v ∧ v ≤ hi) ∧ (ν'.1 206 23 = (if 0 ≤ v ∧ v ≤ hi then gq_I g else gq_I 0) ∧ ν'.1 206 21 = gq_I m ∧ ν'.1 206 22 = gq_I (if o ≤ v then v else o)) ∧ gp_fc i μ μ' ∧ gp_fh i' ν ν' := by
  obtain ⟨k2, q2, e2, v2, f', pl', μ', ν', a1, a2, a3, a4, a5, a6, a7, a8⟩ := gp_sT (lo := 0) ok hl h hk hr hi4 hs hi5 (by omega) hhi h1 h2 (Or.inl ⟨hb, rfl⟩) hg hm ho
  refine ⟨k2, q2, e2, v2, f', pl', μ', gx_uI ν' 206 22 (gq_I (if o ≤ v then v else o)), a1, ?_, gp_R_m a3 (fun a j g => ?_) ?_, ⟨a4.1, ?_, a4.2.2⟩, a5, ⟨?_, ?_, ?_⟩, a7, ⟨fun a j g1 g2 => ?_, ?_⟩⟩
  · unfold f_X12_takeOne
    simp (disch := omega) only [Int.reduceToNat, gq_lit, gq_neg, gq_add, gq_sub, gq_mul, gq_nat, Int.toNat_natCast, gq_tadd, gq_tmul, gq_lte, gq_br, gq_bd, gq_ck, Bool.false_eq_true, gq_leT, gq_leF, gq_ltT, gq_ltF, gq_eqT, gq_eqF, if_true, if_false, a2, a6.2.2, a4.2.1, gp_gr]
  · simp (disch := omega) only [gq_uI1, gq_uI2, gq_uL1, gq_uL2, gq_ifF]
  · rfl
  · rw [gq_uI1, if_neg (by omega)]; exact a4.2.1
  · rw [gq_uI1, if_neg (by omega)]; exact a6.1
  · rw [gq_uI1, if_neg (by omega)]; exact a6.2.1
  · rw [gq_uI1, if_pos ⟨rfl, rfl⟩]
  · rw [gq_uI1, if_neg (by omega)]; exact a8.1 a j g1 g2
  · exact a8.2
theorem gp_noMM {t : Nat → Int} {len p k q e : Nat} {v f pl : Int} {μ ν : gx_M} (h : gp_R μ ν t len p k q e v f pl) (hk : k ≠ 2) {x y : Int32} : f_X12_takeMinute x y ν = some (false, gx_uI ν 206 16 (gq_I q)) := by
  unfold f_X12_takeMinute
  rw [gp_noM h hk]
  rfl
theorem gp_noMO {t : Nat → Int} {len p k q e : Nat} {v f pl : Int} {μ ν : gx_M} (h : gp_R μ ν t len p k q e v f pl) (hk : k ≠ 2) {x y : Int32} : f_X12_takeOne x y ν = some (false, gx_uI ν 206 16 (gq_I q)) := by
  unfold f_X12_takeOne
  rw [gp_noM h hk]
  rfl
