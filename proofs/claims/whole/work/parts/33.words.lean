/-! words -/
def gt_wl (i : Nat) : Nat := gx_stl.getD i 0
def gt_wc (i j : Nat) : Int := (gx_sc i j).toInt
theorem gt_len : ∀ i, i < 28 → f_J0_length_8abf5 i = gq_I (gt_wl i) := by decide +kernel
theorem gt_wl_b : ∀ i, i < 28 → 1 ≤ gt_wl i ∧ gt_wl i ≤ 8 := by decide +kernel
theorem gt_wc_f : ∀ i, i < 28 → ∀ j, j < gt_wl i → gx_nc (gx_sc i j &&& gq_I 255) = gq_I (gt_wc i j) ∧ 1 ≤ gt_wc i j ∧ gt_wc i j ≤ 127 := by decide +kernel
theorem gt_chr {i j : Nat} {μ : gx_M} (hi : i < 28) (hj : j < gt_wl i) : f_J0_charAt_5068e i (gq_I j) μ = some (gx_sc i j &&& gq_I 255) := by
  have b := gt_wl_b i hi
  have e : gx_sl i = gq_I (gt_wl i) := gq_oN _
  have e6 : gx_six i (gq_I j) = true := by
    unfold gx_six
    rw [decide_eq_true_iff]
    rw [show gx_stl.getD i 0 = gt_wl i from rfl]
    simp (disch := omega) only [Int.reduceToNat, gq_lit, gq_neg, gq_add, gq_sub, gq_mul, gq_nat, Int.toNat_natCast, gq_tadd, gq_tmul, gq_lte, gq_br, gq_bd, gq_ck, Bool.false_eq_true, gq_leT, gq_leF, gq_ltT, gq_ltF, gq_eqT, gq_eqF, if_true, if_false, false_or, not_false_eq_true]
    omega
  unfold f_J0_charAt_5068e f_J1_charAt_3b067 f_J0_checkIndex_df160 f_J3_checkIndex_8e157 f_J0_isLatin1_aae02
  rw [e]
  simp (disch := omega) only [Int.reduceToNat, gq_lit, gq_neg, gq_add, gq_sub, gq_mul, gq_nat, Int.toNat_natCast, gq_tadd, gq_tmul, gq_lte, gq_br, gq_bd, gq_ck, Bool.false_eq_true, gq_leT, gq_leF, gq_ltT, gq_ltF, gq_eqT, gq_eqF, if_true, if_false, e6, gq_ckT]
def gt_isw (t : Nat → Int) (q e k i : Nat) : Prop := k = 1 ∧ e - q = gt_wl i ∧ ∀ j, j < gt_wl i → t (q + j) = gt_wc i j
theorem gt_isW {t : Nat → Int} {len q e i : Nat} {μ : gx_M} (ok : gt_okt t) (hl : len ≤ 600) (he : e ≤ len) (hi : i < 28) (hC : gt_C μ t len) (h4 : μ.1 43 4 = gq_I q) (hq : q + gt_wl i = e) : ∀ (d f j : Nat), d < f → j + d = gt_wl i → ∃ b, L_X8_isWord_28 i μ (some true) f (gq_I j) = some b ∧ (b = true ↔ ∀ j', j ≤ j' → j' < gt_wl i → t (q + j') = gt_wc i j')
  | _, 0, _, hf, _ => absurd hf (Nat.not_lt_zero _)
  | 0, f + 1, j, hf, hj => by
    have b := gt_wl_b i hi
    refine ⟨true, ?_, fun _ j' h1 h2 => absurd h1 (by omega), fun _ => rfl⟩
    rw [L_X8_isWord_28.eq_2, gt_len i hi]
    simp (disch := omega) only [Int.reduceToNat, gq_lit, gq_neg, gq_add, gq_sub, gq_mul, gq_nat, Int.toNat_natCast, gq_tadd, gq_tmul, gq_lte, gq_br, gq_bd, gq_ck, Bool.false_eq_true, gq_leT, gq_leF, gq_ltT, gq_ltF, gq_eqT, gq_eqF, if_true, if_false]
  | d + 1, f + 1, j, hf, hj => by
    have b := gt_wl_b i hi
    have o := ok (q + j) (by omega)
    have c := hC.2 (q + j) (by omega)
    obtain ⟨w1, w2, w3⟩ := gt_wc_f i hi j (by omega)
    have ch := gt_chr (μ := μ) hi (by omega : j < gt_wl i)
    obtain ⟨b', i1, i2⟩ := gt_isW ok hl he hi hC h4 hq d f (j + 1) (by omega) (by omega)
    by_cases hh : t (q + j) = gt_wc i j
    · refine ⟨b', ?_, ?_⟩
      · rw [L_X8_isWord_28.eq_2, gt_len i hi, h4, ← i1]
        simp (disch := omega) only [Int.reduceToNat, gq_lit, gq_neg, gq_add, gq_sub, gq_mul, gq_nat, Int.toNat_natCast, gq_tadd, gq_tmul, gq_lte, gq_br, gq_bd, gq_ck, Bool.false_eq_true, gq_leT, gq_leF, gq_ltT, gq_ltF, gq_eqT, gq_eqF, if_true, if_false, ch, c, w1]
        rfl
      · rw [i2]
        exact ⟨fun h j' h1 h2 => if h3 : j' = j then h3 ▸ hh else h j' (by omega) h2, fun h j' h1 h2 => h j' (by omega) h2⟩
    · refine ⟨false, ?_, ?_⟩
      · rw [L_X8_isWord_28.eq_2, gt_len i hi, h4]
        simp (disch := omega) only [Int.reduceToNat, gq_lit, gq_neg, gq_add, gq_sub, gq_mul, gq_nat, Int.toNat_natCast, gq_tadd, gq_tmul, gq_lte, gq_br, gq_bd, gq_ck, Bool.false_eq_true, gq_leT, gq_leF, gq_ltT, gq_ltF, gq_eqT, gq_eqF, if_true, if_false, ch, c, w1]
      · exact ⟨fun h => absurd h (by decide), fun h => absurd (h j (by omega) (by omega)) hh⟩
theorem gt_word {t : Nat → Int} {len p k q e : Nat} {v : Int} {i : Nat} {μ : gx_M} (ok : gt_okt t) (hl : len ≤ 600) (hk : gt_tk t len p k q e v) (hi : i < 28) (hC : gt_C μ t len) (h2 : μ.1 43 2 = gq_I e) (h3 : μ.1 43 3 = gq_I k) (h4 : μ.1 43 4 = gq_I q) : ∃ b, f_X8_isWord i μ = some b ∧ (b = true ↔ gt_isw t q e k i) := by
  have hb := gt_tk_b hk
  have b := gt_wl_b i hi
  unfold f_X8_isWord
  rw [h3, gt_len i hi, h2, h4]
  by_cases k1 : k = 1
  · by_cases k2 : gt_wl i = e - q
    · obtain ⟨b', i1, i2⟩ := gt_isW ok hl hb.2.2.1 hi hC h4 (by omega) (gt_wl i) 4000 0 (by omega) (by omega)
      refine ⟨b', ?_, ?_⟩
      · simp (disch := omega) only [Int.reduceToNat, gq_lit, gq_neg, gq_add, gq_sub, gq_mul, gq_nat, Int.toNat_natCast, gq_tadd, gq_tmul, gq_lte, gq_br, gq_bd, gq_ck, Bool.false_eq_true, gq_leT, gq_leF, gq_ltT, gq_ltF, gq_eqT, gq_eqF, if_true, if_false]
        exact i1
      · rw [i2]
        exact ⟨fun h => ⟨k1, k2.symm, fun j hj => h j (by omega) hj⟩, fun h j _ hj => h.2.2 j hj⟩
    · refine ⟨false, ?_, fun h => absurd h (by decide), fun h => absurd h.2.1.symm k2⟩
      simp (disch := omega) only [Int.reduceToNat, gq_lit, gq_neg, gq_add, gq_sub, gq_mul, gq_nat, Int.toNat_natCast, gq_tadd, gq_tmul, gq_lte, gq_br, gq_bd, gq_ck, Bool.false_eq_true, gq_leT, gq_leF, gq_ltT, gq_ltF, gq_eqT, gq_eqF, if_true, if_false]
  · refine ⟨false, ?_, fun h => absurd h (by decide), fun h => absurd h.1 k1⟩
    simp (disch := omega) only [Int.reduceToNat, gq_lit, gq_neg, gq_add, gq_sub, gq_mul, gq_nat, Int.toNat_natCast, gq_tadd, gq_tmul, gq_lte, gq_br, gq_bd, gq_ck, Bool.false_eq_true, gq_leT, gq_leF, gq_ltT, gq_ltF, gq_eqT, gq_eqF, if_true, if_false]
theorem gt_wordOf : ∀ i : Nat, i < 17 → f_X4_wordOf (gq_I i) = i := by decide +kernel
theorem gt_kinds {t : Nat → Int} {len p k q e : Nat} {v : Int} {μ : gx_M} (ok : gt_okt t) (hl : len ≤ 600) (hk : gt_tk t len p k q e v) (hC : gt_C μ t len) (h2 : μ.1 43 2 = gq_I e) (h3 : μ.1 43 3 = gq_I k) (h4 : μ.1 43 4 = gq_I q) {of hi : Nat} (ho : of < 4) (hf : gx_fk (of + 1) = gq_I hi) (hh : hi ≤ 17) : ∀ (d f i : Nat), d < f → i + d = hi → ∃ z : Int, L_X4_kindOfLine_6 (gq_I of) μ (some (gq_I (-1))) f (gq_I i) = some (gq_I z) ∧ ((z = -1 ∧ ∀ i', i ≤ i' → i' < hi → ¬ gt_isw t q e k i') ∨ ∃ i' : Nat, z = i' ∧ i ≤ i' ∧ i' < hi ∧ gt_isw t q e k i')
  | _, 0, _, hf, _ => absurd hf (Nat.not_lt_zero _)
  | 0, f + 1, i, hf', hi' => by
    refine ⟨-1, ?_, Or.inl ⟨rfl, fun i' h1 h2 => absurd h1 (by omega)⟩⟩
    rw [L_X4_kindOfLine_6.eq_2]
    have e1 : ((of : Int) + 1).toNat = of + 1 := by omega
    simp (disch := omega) only [gq_lit, gq_add, gq_ck, gq_nat, e1, hf, Bool.false_eq_true, gq_leT, gq_leF, gq_ltT, gq_ltF, gq_eqT, gq_eqF, if_true, if_false]
  | d + 1, f + 1, i, hf', hi' => by
    obtain ⟨b, w1, w2⟩ := gt_word ok hl hk (by omega : i < 28) hC h2 h3 h4
    have e1 : ((of : Int) + 1).toNat = of + 1 := by omega
    by_cases hb : b = true
    · refine ⟨i, ?_, Or.inr ⟨i, rfl, by omega, by omega, w2.mp hb⟩⟩
      rw [L_X4_kindOfLine_6.eq_2, gt_wordOf i (by omega), w1, hb]
      simp (disch := omega) only [gq_lit, gq_add, gq_ck, gq_nat, e1, hf, Bool.false_eq_true, gq_leT, gq_leF, gq_ltT, gq_ltF, gq_eqT, gq_eqF, if_true, if_false, gq_br]
    · obtain ⟨z, i1, i2⟩ := gt_kinds ok hl hk hC h2 h3 h4 ho hf hh d f (i + 1) (by omega) (by omega)
      refine ⟨z, ?_, ?_⟩
      · rw [L_X4_kindOfLine_6.eq_2, gt_wordOf i (by omega), w1, ← i1]
        simp (disch := omega) only [gq_lit, gq_add, gq_ck, gq_nat, e1, hf, Bool.false_eq_true, gq_leT, gq_leF, gq_ltT, gq_ltF, gq_eqT, gq_eqF, if_true, if_false, gq_br, hb]
        rfl
      · rcases i2 with ⟨i2, i3⟩ | ⟨i', i2, i3, i4, i5⟩
        · exact Or.inl ⟨i2, fun i' g1 g2 => if g3 : i' = i then fun g4 => hb (w2.mpr (g3 ▸ g4)) else i3 i' (by omega) g2⟩
        · exact Or.inr ⟨i', i2, by omega, i4, i5⟩
def gt_fk (of : Nat) : Nat := if of = 0 then 0 else if of = 1 then 6 else if of = 2 then 13 else if of = 3 then 15 else 17
theorem gt_fk_e : ∀ j, j < 5 → gx_fk j = gq_I (gt_fk j) := by decide +kernel
/-- the kind of a line -/
theorem gt_kind {t : Nat → Int} {len p k q e : Nat} {v : Int} {μ : gx_M} (ok : gt_okt t) (hl : len ≤ 600) (hk : gt_tk t len p k q e v) (hC : gt_C μ t len) (h2 : μ.1 43 2 = gq_I e) (h3 : μ.1 43 3 = gq_I k) (h4 : μ.1 43 4 = gq_I q) {of : Nat} (ho : of < 4) : ∃ z : Int, f_X4_kindOfLine (gq_I of) μ = some (gq_I z) ∧ ((z = -1 ∧ ∀ i, gt_fk of ≤ i → i < gt_fk (of + 1) → ¬ gt_isw t q e k i) ∨ ∃ i : Nat, z = i ∧ gt_fk of ≤ i ∧ i < gt_fk (of + 1) ∧ gt_isw t q e k i) := by
  have b1 : gt_fk of ≤ gt_fk (of + 1) ∧ gt_fk (of + 1) ≤ 17 := by
    rcases (show of = 0 ∨ of = 1 ∨ of = 2 ∨ of = 3 by omega) with h | h | h | h <;> subst h <;> decide
  obtain ⟨z, i1, i2⟩ := gt_kinds ok hl hk hC h2 h3 h4 ho (gt_fk_e (of + 1) (by omega)) b1.2 (gt_fk (of + 1) - gt_fk of) 4000 (gt_fk of) (by omega) (by omega)
  refine ⟨z, ?_, i2⟩
  unfold f_X4_kindOfLine
  have f0 := gt_fk_e of (by omega)
  simp (disch := omega) only [gq_lit, gq_neg, gq_ck, gq_lte, gq_nat, Int.toNat_natCast, f0]
  exact i1
theorem gt_inj : ∀ (n m : Nat) (u c : Nat → Int), (∀ j, j < n → 1 ≤ u j ∧ u j ≤ 127) → (∀ j, j < m → 1 ≤ c j ∧ c j ≤ 127) → gt_val u n = gt_val c m → n = m ∧ ∀ j, j < n → u j = c j
  | 0, 0, _, _, _, _, _ => ⟨rfl, fun j hj => absurd hj (by omega)⟩
  | 0, m + 1, u, c, _, hc, h => by
    have r := (gt_val_r (u := c) (n := m) fun j hj => by have := hc j (by omega); omega).1
    have := hc m (by omega)
    have h2 : (0 : Int) = 256 * gt_val c m + c m := h
    omega
  | n + 1, 0, u, c, hu, _, h => by
    have r := (gt_val_r (u := u) (n := n) fun j hj => by have := hu j (by omega); omega).1
    have := hu n (by omega)
    have h2 : 256 * gt_val u n + u n = (0 : Int) := h
    omega
  | n + 1, m + 1, u, c, hu, hc, h => by
    have h2 : 256 * gt_val u n + u n = 256 * gt_val c m + c m := h
    have h3 := hu n (by omega)
    have h4 := hc m (by omega)
    obtain ⟨h5, h6⟩ := gt_inj n m u c (fun j hj => hu j (by omega)) (fun j hj => hc j (by omega)) (by omega)
    subst h5
    refine ⟨rfl, fun j hj => ?_⟩
    by_cases hj2 : j = n
    · subst hj2; omega
    · exact h6 j (by omega)
theorem gt_val_c {u c : Nat → Int} : ∀ {n : Nat}, (∀ j, j < n → u j = c j) → gt_val u n = gt_val c n
  | 0, _ => rfl
  | n + 1, h => by
    show 256 * gt_val u n + u n = 256 * gt_val c n + c n
    rw [gt_val_c (n := n) fun j hj => h j (by omega), h n (by omega)]
/-- the check's word -/
def gt_W (t : Nat → Int) (q e k : Nat) : Int := if k = 1 then (if e - q ≤ 8 then gt_val (fun j => t (q + j)) (e - q) else 0) else 0
def gt_kw (i : Nat) : Int := gt_val (gt_wc i) (gt_wl i)
theorem gt_kw_p : ∀ i, i < 17 → 0 < gt_kw i := by decide +kernel
theorem gt_W_i {t : Nat → Int} {len p k q e : Nat} {v : Int} (hk : gt_tk t len p k q e v) {i : Nat} (hi : i < 17) : gt_W t q e k = gt_kw i ↔ gt_isw t q e k i := by
  have kp := gt_kw_p i hi
  have b := gt_wl_b i (by omega)
  unfold gt_W
  by_cases k1 : k = 1
  · rw [if_pos k1]
    have hL : ∀ j, j < e - q → 1 ≤ (fun j => t (q + j)) j ∧ (fun j => t (q + j)) j ≤ 127 := fun j hj => by
      obtain ⟨_, h3⟩ := hk
      rcases h3 with ⟨h4, h5, h6⟩ | ⟨h4, ⟨h5, h6, h7⟩ | ⟨h5, h6, h7, h8⟩ | ⟨h5, h6, h7, h8⟩⟩
      · omega
      · have := h7.2.2.1 (q + j) (by omega) (by omega)
        unfold gt_let at this
        show 1 ≤ t (q + j) ∧ t (q + j) ≤ 127
        omega
      · split at h8 <;> omega
      · split at h8 <;> omega
    by_cases k2 : e - q ≤ 8
    · rw [if_pos k2]
      constructor
      · intro h
        obtain ⟨h1, h2⟩ := gt_inj _ _ _ _ hL (fun j hj => (gt_wc_f i (by omega) j hj).2) h
        exact ⟨k1, h1, fun j hj => h2 j (by omega)⟩
      · intro h
        rw [h.2.1]
        exact gt_val_c fun j hj => h.2.2 j hj
    · rw [if_neg k2]
      exact ⟨fun h => absurd h (by omega), fun h => absurd h.2.1 (by omega)⟩
  · rw [if_neg k1]
    exact ⟨fun h => absurd h (by omega), fun h => absurd h.1 k1⟩
theorem gt_W_b {t : Nat → Int} {len p k q e : Nat} {v : Int} (hk : gt_tk t len p k q e v) (ok : gt_okt t) (hl : len ≤ 600) : 0 ≤ gt_W t q e k ∧ gt_W t q e k < 9223372036854775808 := by
  have hb := gt_tk_b hk
  unfold gt_W
  split
  · rename_i k1
    have hL : ∀ j, j < e - q → 0 ≤ (fun j => t (q + j)) j ∧ (fun j => t (q + j)) j ≤ 127 := fun j hj => by
      obtain ⟨_, h3⟩ := hk
      rcases h3 with ⟨h4, h5, h6⟩ | ⟨h4, ⟨h5, h6, h7⟩ | ⟨h5, h6, h7, h8⟩ | ⟨h5, h6, h7, h8⟩⟩
      · omega
      · have := h7.2.2.1 (q + j) (by omega) (by omega)
        unfold gt_let at this
        show 0 ≤ t (q + j) ∧ t (q + j) ≤ 127
        omega
      · split at h8 <;> omega
      · split at h8 <;> omega
    split
    · rename_i k2
      refine ⟨(gt_val_r hL).1, ?_⟩
      by_cases k3 : e - q ≤ 7
      · have := gt_val_b hL k3; omega
      · have k4 : e - q = 8 := by omega
        rw [k4] at hL ⊢
        have := gt_val_b (u := fun j => t (q + j)) (n := 7) (fun j hj => hL j (by omega)) (by omega)
        have h7 := hL 7 (by omega)
        show 256 * gt_val (fun j => t (q + j)) 7 + (fun j => t (q + j)) 7 < _
        omega
    · omega
  · omega
