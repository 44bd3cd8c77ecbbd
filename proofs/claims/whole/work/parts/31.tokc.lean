/-! tokens: what the class reads -/
def gt_let (x : Int) : Prop := 97 ≤ x ∧ x ≤ 122
def gt_dig (x : Int) : Prop := 48 ≤ x ∧ x ≤ 57
def gt_bl (x : Int) : Prop := x = 10 ∨ x = 32
def gt_run (P : Int → Prop) (t : Nat → Int) (len p e : Nat) : Prop := p ≤ e ∧ e ≤ len ∧ (∀ j, p ≤ j → j < e → P (t j)) ∧ (e < len → ¬ P (t e))
theorem gt_run_ex (P : Int → Prop) (t : Nat → Int) (len : Nat) : ∀ d p, p + d = len → ∃ e, gt_run P t len p e
  | 0, p, h => ⟨p, by omega, by omega, fun j h1 h2 => absurd h1 (by omega), fun h1 => absurd h1 (by omega)⟩
  | d + 1, p, h => by
    by_cases hp : P (t p)
    · obtain ⟨e, h1, h2, h3, h4⟩ := gt_run_ex P t len d (p + 1) (by omega)
      refine ⟨e, by omega, h2, fun j h5 h6 => ?_, h4⟩
      by_cases hj : j = p
      · rw [hj]; exact hp
      · exact h3 j (by omega) h6
    · exact ⟨p, by omega, by omega, fun j h1 h2 => absurd h1 (by omega), fun _ => hp⟩
/-- the value of a row of n digits from q on, as far as it is one -/
def gt_num (t : Nat → Int) (q n : Nat) : Int := if n = 0 then 0 else if n = 1 then t q - 48 else 10 * (t q - 48) + (t (q + 1) - 48)
/-- the token from p on: its kind (0 none, 1 word, 2 number, 3 stop, 4 wrong), its place, its end, its number -/
def gt_tk (t : Nat → Int) (len p k q e : Nat) (v : Int) : Prop := gt_run gt_bl t len p q ∧ ((k = 0 ∧ q = len ∧ e = len) ∨ (q < len ∧ ((k = 1 ∧ gt_let (t q) ∧ gt_run gt_let t len q e) ∨ (gt_dig (t q) ∧ gt_run gt_dig t len q e ∧ v = gt_num t q (e - q) ∧ k = if e - q ≤ 2 then 2 else 4) ∨ (¬ gt_let (t q) ∧ ¬ gt_dig (t q) ∧ e = q + 1 ∧ k = if t q = 59 then 3 else 4))))
theorem gt_tk_ex (t : Nat → Int) {len p : Nat} (h : p ≤ len) : ∃ k q e v, gt_tk t len p k q e v := by
  obtain ⟨q, hq⟩ := gt_run_ex gt_bl t len (len - p) p (by omega)
  by_cases h1 : q < len
  · by_cases h2 : gt_let (t q)
    · obtain ⟨e, he⟩ := gt_run_ex gt_let t len (len - q) q (by omega)
      exact ⟨1, q, e, 0, hq, Or.inr ⟨h1, Or.inl ⟨rfl, h2, he⟩⟩⟩
    · by_cases h3 : gt_dig (t q)
      · obtain ⟨e, he⟩ := gt_run_ex gt_dig t len (len - q) q (by omega)
        exact ⟨_, q, e, _, hq, Or.inr ⟨h1, Or.inr (Or.inl ⟨h3, he, rfl, rfl⟩)⟩⟩
      · exact ⟨_, q, q + 1, 0, hq, Or.inr ⟨h1, Or.inr (Or.inr ⟨h2, h3, rfl, rfl⟩)⟩⟩
  · have := hq.2.1
    exact ⟨0, q, len, 0, hq, Or.inl ⟨rfl, by omega, rfl⟩⟩
theorem gt_run_lt {P : Int → Prop} {t : Nat → Int} {len q e : Nat} (h : gt_run P t len q e) (hq : q < len) (hp : P (t q)) : q < e := by
  obtain ⟨h1, h2, h3, h4⟩ := h
  rcases Nat.lt_or_eq_of_le h1 with h5 | h5
  · exact h5
  · subst h5
    exact absurd hp (h4 hq)
theorem gt_tk_b {t : Nat → Int} {len p k q e : Nat} {v : Int} (h : gt_tk t len p k q e v) : p ≤ q ∧ q ≤ len ∧ e ≤ len ∧ q ≤ e ∧ k ≤ 4 ∧ (k = 0 → q = len) ∧ (k ≠ 0 → q < e ∧ q < len) := by
  obtain ⟨⟨h1, h2, _, _⟩, h3⟩ := h
  rcases h3 with ⟨h4, h5, h6⟩ | ⟨h4, ⟨h5, h6, h7⟩ | ⟨h5, h6, h7, h8⟩ | ⟨h5, h6, h7, h8⟩⟩
  · omega
  · have := gt_run_lt h7 h4 h6
    have := h7.2.1
    omega
  · have := gt_run_lt h6 h4 h5
    have := h6.2.1
    split at h8 <;> omega
  · split at h8 <;> omega
theorem gt_tk_v {t : Nat → Int} {len p k q e : Nat} {v : Int} (h : gt_tk t len p k q e v) (hk : k = 2) : 0 ≤ v ∧ v ≤ 99 := by
  obtain ⟨_, h3⟩ := h
  rcases h3 with ⟨h4, h5, h6⟩ | ⟨h4, ⟨h5, h6, h7⟩ | ⟨h5, h6, h7, h8⟩ | ⟨h5, h6, h7, h8⟩⟩
  · omega
  · omega
  · have g1 := gt_run_lt h6 h4 h5
    rw [h7]
    unfold gt_num
    unfold gt_dig at h5
    rw [if_neg (by omega)]
    split
    · omega
    · have g2 := h6.2.2.1 (q + 1) (by omega) (by omega)
      unfold gt_dig at g2
      omega
  · split at h8 <;> omega
theorem gt_isL {x : Int} (h : -2147483648 ≤ x ∧ x < 2147483648) : (f_X8_isLetter (gq_I x) = true) = gt_let x := by
  apply propext
  unfold f_X8_isLetter gt_let
  simp (disch := omega) only [gq_lit, gq_lt]
  by_cases h1 : x < 97
  · rw [if_pos h1]; exact ⟨fun h2 => absurd h2 (by decide), fun h2 => absurd h1 (by omega)⟩
  · rw [if_neg h1]
    by_cases h2 : 122 < x
    · rw [if_pos h2]; exact ⟨fun h2 => absurd h2 (by decide), fun h3 => absurd h2 (by omega)⟩
    · rw [if_neg h2]; exact ⟨fun _ => by omega, fun _ => rfl⟩
theorem gt_isD {x : Int} (h : -2147483648 ≤ x ∧ x < 2147483648) : (f_X8_isDigit (gq_I x) = true) = gt_dig x := by
  apply propext
  unfold f_X8_isDigit gt_dig
  simp (disch := omega) only [gq_lit, gq_lt]
  by_cases h1 : x < 48
  · rw [if_pos h1]; exact ⟨fun h2 => absurd h2 (by decide), fun h2 => absurd h1 (by omega)⟩
  · rw [if_neg h1]
    by_cases h2 : 57 < x
    · rw [if_pos h2]; exact ⟨fun h2 => absurd h2 (by decide), fun h3 => absurd h2 (by omega)⟩
    · rw [if_neg h2]; exact ⟨fun _ => by omega, fun _ => rfl⟩
theorem gq_uI_uI (μ : gx_M) (a k : Nat) (x y : Int32) : gx_uI (gx_uI μ a k x) a k y = gx_uI μ a k y :=
  gq_mext (fun b j => by
    rw [gq_uI1, gq_uI1, gq_uI1]
    by_cases h : b = a ∧ j = k
    · rw [if_pos h, if_pos h]
    · rw [if_neg h, if_neg h, if_neg h]) fun _ _ => rfl
theorem gq_uI_id {μ : gx_M} {a k : Nat} {x : Int32} (h : μ.1 a k = x) : gx_uI μ a k x = μ :=
  gq_mext (fun b j => by
    rw [gq_uI1]
    by_cases h1 : b = a ∧ j = k
    · rw [if_pos h1, h1.1, h1.2, h]
    · rw [if_neg h1]) fun _ _ => rfl
def gt_okt (t : Nat → Int) : Prop := ∀ k, k < 600 → -128 ≤ t k ∧ t k ≤ 127
def gt_C (μ : gx_M) (t : Nat → Int) (len : Nat) : Prop := μ.1 43 1 = gq_I len ∧ ∀ k, k < 600 → μ.1 44 k = gq_I (t k)
theorem gt_C_w {μ ν : gx_M} {t : Nat → Int} {len : Nat} (h : gt_C μ t len) (e : ∀ a j, (a = 43 ∧ j = 1) ∨ a = 44 → ν.1 a j = μ.1 a j) : gt_C ν t len :=
  ⟨by rw [e _ _ (by omega)]; exact h.1, fun k hk => by rw [e _ _ (by omega)]; exact h.2 k hk⟩
theorem gt_takeW {t : Nat → Int} {len e : Nat} (ok : gt_okt t) (hl : len ≤ 600) (he : e ≤ len) (hz : e < len → ¬ gt_let (t e)) {k : gx_M → Option (Unit × gx_M)} : ∀ (d f p : Nat) (μ : gx_M), d < f → p + d = e → gt_C μ t len → μ.1 43 2 = gq_I p → (∀ j, p ≤ j → j < e → gt_let (t j)) → L_X8_takeWord_0 k f μ = k (gx_uI μ 43 2 (gq_I e))
  | _, 0, _, _, hf, _, _, _, _ => absurd hf (Nat.not_lt_zero _)
  | 0, f + 1, p, μ, hf, hp, hC, h2, hP => by
    have e0 : p = e := by omega
    subst e0
    rw [L_X8_takeWord_0.eq_2, gq_uI_id h2, hC.1, h2]
    by_cases h : p < len
    · have o := ok p (by omega)
      have n := hz h
      have c := hC.2 p (by omega)
      rw [← gt_isL (by omega)] at n
      simp (disch := omega) only [Int.reduceToNat, gq_lit, gq_neg, gq_add, gq_sub, gq_mul, gq_nat, Int.toNat_natCast, gq_tadd, gq_tmul, gq_lte, gq_br, gq_bd, gq_ck, Bool.false_eq_true, gq_leT, gq_leF, gq_ltT, gq_ltF, gq_eqT, gq_eqF, if_true, if_false, c, n]
    · simp (disch := omega) only [Bool.false_eq_true, gq_leT, gq_leF, gq_ltT, gq_ltF, gq_eqT, gq_eqF, if_true, if_false]
  | d + 1, f + 1, p, μ, hf, hp, hC, h2, hP => by
    have o := ok p (by omega)
    have n := hP p (by omega) (by omega)
    have c := hC.2 p (by omega)
    rw [← gt_isL (by omega)] at n
    have ih := gt_takeW ok hl he hz (k := k) d f (p + 1) (gx_uI μ 43 2 (gq_I (p + 1 : Nat))) (by omega) (by omega) (gt_C_w hC fun a j h => by simp (disch := omega) only [gq_uI1, gq_uI2, gq_uL1, gq_uL2, gq_ifF]) (by simp only [gq_uI1, gq_uI2, gq_uL1, gq_uL2, Nat.reduceEqDiff, false_and, and_false, and_true, true_and, if_true]) (fun j h3 h4 => hP j (by omega) h4)
    rw [gq_uI_uI] at ih
    rw [L_X8_takeWord_0.eq_2, hC.1, h2, ← ih]
    simp (disch := omega) only [Int.reduceToNat, gq_lit, gq_neg, gq_add, gq_sub, gq_mul, gq_nat, Int.toNat_natCast, gq_tadd, gq_tmul, gq_lte, gq_br, gq_bd, gq_ck, Bool.false_eq_true, gq_leT, gq_leF, gq_ltT, gq_ltF, gq_eqT, gq_eqF, if_true, if_false, c, n]
    rfl
theorem gt_takeN {t : Nat → Int} {len q e : Nat} (ok : gt_okt t) (hl : len ≤ 600) (he : e ≤ len) (hz : e < len → ¬ gt_dig (t e)) {k : gx_M → Option (Unit × gx_M)} : ∀ (d f n : Nat) (μ : gx_M), d < f → q + n + d = e → gt_C μ t len → μ.1 43 2 = gq_I (q + n : Nat) → μ.1 43 4 = gq_I q → μ.1 43 5 = gq_I (gt_num t q n) → (∀ j, q ≤ j → j < e → gt_dig (t j)) → L_X8_takeNumber_5 k f μ = k (gx_uI (gx_uI μ 43 5 (gq_I (gt_num t q (e - q)))) 43 2 (gq_I e))
  | _, 0, _, _, hf, _, _, _, _, _, _ => absurd hf (Nat.not_lt_zero _)
  | 0, f + 1, n, μ, hf, hp, hC, h2, h4, h5, hP => by
    have e0 : e = q + n := by omega
    subst e0
    rw [show q + n - q = n by omega, gq_uI_id h5, gq_uI_id h2, L_X8_takeNumber_5.eq_2, hC.1, h2]
    by_cases h : q + n < len
    · have o := ok (q + n) (by omega)
      have z := hz h
      have c := hC.2 (q + n) (by omega)
      rw [← gt_isD (by omega)] at z
      simp (disch := omega) only [Int.reduceToNat, gq_lit, gq_neg, gq_add, gq_sub, gq_mul, gq_nat, Int.toNat_natCast, gq_tadd, gq_tmul, gq_lte, gq_br, gq_bd, gq_ck, Bool.false_eq_true, gq_leT, gq_leF, gq_ltT, gq_ltF, gq_eqT, gq_eqF, if_true, if_false, c, z]
    · simp (disch := omega) only [Bool.false_eq_true, gq_leT, gq_leF, gq_ltT, gq_ltF, gq_eqT, gq_eqF, if_true, if_false]
  | d + 1, f + 1, n, μ, hf, hp, hC, h2, h4, h5, hP => by
    have o := ok (q + n) (by omega)
    have z := hP (q + n) (by omega) (by omega)
    have z2 := z
    unfold gt_dig at z2
    have c := hC.2 (q + n) (by omega)
    rw [← gt_isD (by omega)] at z
    have ih := gt_takeN (q := q) ok hl he hz (k := k) d f (n + 1) (gx_uI (gx_uI μ 43 5 (gq_I (gt_num t q (n + 1)))) 43 2 (gq_I (q + (n + 1) : Nat))) (by omega) (by omega) (gt_C_w hC fun a j h => by simp (disch := omega) only [gq_uI1, gq_uI2, gq_uL1, gq_uL2, gq_ifF]) (by simp only [gq_uI1, gq_uI2, gq_uL1, gq_uL2, Nat.reduceEqDiff, false_and, and_false, and_true, true_and, if_true]) (by simp only [gq_uI1, gq_uI2, gq_uL1, gq_uL2, Nat.reduceEqDiff, false_and, and_false, and_true, true_and, if_true, if_false]; exact h4) (by simp only [gq_uI1, gq_uI2, gq_uL1, gq_uL2, Nat.reduceEqDiff, false_and, and_false, and_true, true_and, if_true, if_false]) hP
    have em : gx_uI (gx_uI (gx_uI (gx_uI μ 43 5 (gq_I (gt_num t q (n + 1)))) 43 2 (gq_I (q + (n + 1) : Nat))) 43 5 (gq_I (gt_num t q (e - q)))) 43 2 (gq_I e) = gx_uI (gx_uI μ 43 5 (gq_I (gt_num t q (e - q)))) 43 2 (gq_I e) :=
      gq_mext (fun b j => by
        simp only [gq_uI1, gq_uI2, gq_uL1, gq_uL2]
        by_cases h1 : b = 43 ∧ j = 2
        · simp only [h1, and_self, if_true]
        · by_cases h2 : b = 43 ∧ j = 5
          · rw [if_neg h1, if_pos h2, if_neg h1, if_pos h2]
          · rw [if_neg h1, if_neg h2, if_neg h1, if_neg h2, if_neg h1, if_neg h2]) fun _ _ => rfl
    rw [em] at ih
    rw [L_X8_takeNumber_5.eq_2, hC.1, h2, ← ih]
    by_cases h : 2 ≤ n
    · have en : gt_num t q (n + 1) = gt_num t q n := by
        unfold gt_num
        rw [if_neg (by omega), if_neg (by omega), if_neg (by omega), if_neg (by omega)]
      simp (disch := omega) only [Int.reduceToNat, gq_lit, gq_neg, gq_add, gq_sub, gq_mul, gq_nat, Int.toNat_natCast, gq_tadd, gq_tmul, gq_lte, gq_br, gq_bd, gq_ck, Bool.false_eq_true, gq_leT, gq_leF, gq_ltT, gq_ltF, gq_eqT, gq_eqF, if_true, if_false, c, z, h2, h4, h5, en, gq_uI1, gq_uI2, gq_uL1, gq_uL2, Nat.reduceEqDiff, false_and, and_false, and_true, true_and]
      rfl
    · have en : gt_num t q (n + 1) = gt_num t q n * 10 + t (q + n) - 48 := by
        unfold gt_num
        rcases (show n = 0 ∨ n = 1 by omega) with rfl | rfl
        · simp only [Nat.zero_add, Nat.reduceEqDiff, if_true, if_false, Nat.add_zero]; omega
        · simp only [Nat.reduceAdd, Nat.reduceEqDiff, if_true, if_false]; omega
      simp (disch := omega) only [Int.reduceToNat, gq_lit, gq_neg, gq_add, gq_sub, gq_mul, gq_nat, Int.toNat_natCast, gq_tadd, gq_tmul, gq_lte, gq_br, gq_bd, gq_ck, Bool.false_eq_true, gq_leT, gq_leF, gq_ltT, gq_ltF, gq_eqT, gq_eqF, if_true, if_false, c, z, h2, h4, h5, en, gq_uI1, gq_uI2, gq_uL1, gq_uL2, Nat.reduceEqDiff, false_and, and_false, and_true, true_and]
      rfl
theorem gt_skip {t : Nat → Int} {len e : Nat} (ok : gt_okt t) (hl : len ≤ 600) (he : e ≤ len) (hz : e < len → ¬ gt_bl (t e)) {k : gx_M → Option (Unit × gx_M)} : ∀ (d f p : Nat) (μ : gx_M), d < f → p + d = e → gt_C μ t len → μ.1 43 2 = gq_I p → (∀ j, p ≤ j → j < e → gt_bl (t j)) → L_X8_advance_0 k f μ = k (gx_uI μ 43 2 (gq_I e))
  | _, 0, _, _, hf, _, _, _, _ => absurd hf (Nat.not_lt_zero _)
  | 0, f + 1, p, μ, hf, hp, hC, h2, hP => by
    have e0 : p = e := by omega
    subst e0
    rw [L_X8_advance_0.eq_2, gq_uI_id h2, hC.1, h2]
    by_cases h : p < len
    · have o := ok p (by omega)
      have n := hz h
      have c := hC.2 p (by omega)
      unfold gt_bl at n
      simp (disch := omega) only [Int.reduceToNat, gq_lit, gq_neg, gq_add, gq_sub, gq_mul, gq_nat, Int.toNat_natCast, gq_tadd, gq_tmul, gq_lte, gq_br, gq_bd, gq_ck, Bool.false_eq_true, gq_leT, gq_leF, gq_ltT, gq_ltF, gq_eqT, gq_eqF, if_true, if_false, c]
    · simp (disch := omega) only [Bool.false_eq_true, gq_leT, gq_leF, gq_ltT, gq_ltF, gq_eqT, gq_eqF, if_true, if_false]
  | d + 1, f + 1, p, μ, hf, hp, hC, h2, hP => by
    have o := ok p (by omega)
    have n := hP p (by omega) (by omega)
    have c := hC.2 p (by omega)
    have ih := gt_skip ok hl he hz (k := k) d f (p + 1) (gx_uI μ 43 2 (gq_I (p + 1 : Nat))) (by omega) (by omega) (gt_C_w hC fun a j h => by simp (disch := omega) only [gq_uI1, gq_uI2, gq_uL1, gq_uL2, gq_ifF]) (by simp only [gq_uI1, gq_uI2, gq_uL1, gq_uL2, Nat.reduceEqDiff, false_and, and_false, and_true, true_and, if_true]) (fun j h3 h4 => hP j (by omega) h4)
    rw [gq_uI_uI] at ih
    rw [L_X8_advance_0.eq_2, hC.1, h2, ← ih]
    rcases n with n | n
    · simp (disch := omega) only [Int.reduceToNat, gq_lit, gq_neg, gq_add, gq_sub, gq_mul, gq_nat, Int.toNat_natCast, gq_tadd, gq_tmul, gq_lte, gq_br, gq_bd, gq_ck, Bool.false_eq_true, gq_leT, gq_leF, gq_ltT, gq_ltF, gq_eqT, gq_eqF, if_true, if_false, c]
      rw [h2, gq_add]; rfl
    · simp (disch := omega) only [Int.reduceToNat, gq_lit, gq_neg, gq_add, gq_sub, gq_mul, gq_nat, Int.toNat_natCast, gq_tadd, gq_tmul, gq_lte, gq_br, gq_bd, gq_ck, Bool.false_eq_true, gq_leT, gq_leF, gq_ltT, gq_ltF, gq_eqT, gq_eqF, if_true, if_false, c]
      rw [h2, gq_add]; rfl
/-- the class's next token -/
theorem gt_adv {t : Nat → Int} {len p k q e : Nat} {v : Int} (ok : gt_okt t) (hl : len ≤ 600) (hk : gt_tk t len p k q e v) {μ : gx_M} (hC : gt_C μ t len) (h2 : μ.1 43 2 = gq_I p) : ∃ μ', f_X8_advance μ = some ((), μ') ∧ (μ'.1 43 2 = gq_I e ∧ μ'.1 43 3 = gq_I k ∧ μ'.1 43 4 = gq_I q ∧ (k = 2 → μ'.1 43 5 = gq_I v)) ∧ (∀ a j, ¬ (a = 43 ∧ 2 ≤ j) → μ'.1 a j = μ.1 a j) ∧ μ'.2 = μ.2 := by
  obtain ⟨⟨s1, s2, s3, s4⟩, hk⟩ := hk
  have sk := fun K => gt_skip ok hl s2 s4 (k := K) (q - p) 4000 p μ (by omega) (by omega) hC h2 s3
  unfold f_X8_advance
  rw [sk]
  obtain ⟨μ1, e1⟩ : ∃ μ1, μ1 = gx_uI (gx_uI μ 43 2 (gq_I q)) 43 4 (gq_I q) := ⟨_, rfl⟩
  have f1 : ∀ a j, ¬ (a = 43 ∧ 2 ≤ j) → μ1.1 a j = μ.1 a j := fun a j h => by
    rw [e1]; simp (disch := omega) only [gq_uI1, gq_uI2, gq_uL1, gq_uL2, gq_ifF]
  have C1 : gt_C μ1 t len := gt_C_w hC fun a j h => f1 a j (by omega)
  have x2 : μ1.1 43 2 = gq_I q := by rw [e1]; simp only [gq_uI1, gq_uI2, gq_uL1, gq_uL2, Nat.reduceEqDiff, false_and, and_false, and_true, true_and, if_true, if_false]
  have x4 : μ1.1 43 4 = gq_I q := by rw [e1]; simp only [gq_uI1, gq_uI2, gq_uL1, gq_uL2, Nat.reduceEqDiff, false_and, and_false, and_true, true_and, if_true, if_false]
  have u2 : (gx_uI μ 43 2 (gq_I q)).1 43 2 = gq_I q := by simp only [gq_uI1, gq_uI2, gq_uL1, gq_uL2, Nat.reduceEqDiff, false_and, and_false, and_true, true_and, if_true, if_false]
  simp only [gq_lte, u2]
  rw [← e1, x2, C1.1]
  rcases hk with ⟨h4, h5, h6⟩ | ⟨h4, ⟨h5, h6, h7⟩ | ⟨h5, h6, h7, h8⟩ | ⟨h5, h6, h7, h8⟩⟩
  · refine ⟨gx_uI μ1 43 3 (gq_I k), ?_, ⟨?_, ?_, ?_, fun h => absurd h (by omega)⟩, fun a j h => ?_, ?_⟩
    · subst h4
      simp (disch := omega) only [gq_lit, Bool.false_eq_true, gq_leT, gq_leF, gq_ltT, gq_ltF, gq_eqT, gq_eqF, if_true, if_false]
      rfl
    · simp only [gq_uI1, gq_uI2, gq_uL1, gq_uL2, Nat.reduceEqDiff, false_and, and_false, and_true, true_and, if_false, x2]; rw [h6, h5]
    · simp only [gq_uI1, gq_uI2, gq_uL1, gq_uL2, Nat.reduceEqDiff, false_and, and_false, and_true, true_and, if_true]
    · simp only [gq_uI1, gq_uI2, gq_uL1, gq_uL2, Nat.reduceEqDiff, false_and, and_false, and_true, true_and, if_false, x4]
    · rw [gq_uI1, if_neg (by omega), f1 a j h]
    · rw [gq_uI2, e1]; rfl
  · have o := ok q (by omega)
    have c := C1.2 q (by omega)
    have l1 := h6
    rw [← gt_isL (by omega)] at l1
    have hel := h7.2.1
    have tw := gt_takeW ok hl h7.2.1 h7.2.2.2 (k := fun (μ8 : gx_M) => gx_lt (gx_uI μ8 43 3 1) (fun (μ9 : gx_M) => some ((), μ9))) (e - q) 4000 q μ1 (by omega) (by have := h7.1; omega) C1 x2 h7.2.2.1
    refine ⟨gx_uI (gx_uI μ1 43 2 (gq_I e)) 43 3 (gq_I k), ?_, ⟨?_, ?_, ?_, fun h => absurd h (by omega)⟩, fun a j h => ?_, ?_⟩
    · unfold f_X8_takeWord
      rw [tw, h5]
      simp (disch := omega) only [Int.reduceToNat, gq_lit, gq_neg, gq_add, gq_sub, gq_mul, gq_nat, Int.toNat_natCast, gq_tadd, gq_tmul, gq_lte, gq_br, gq_bd, gq_ck, Bool.false_eq_true, gq_leT, gq_leF, gq_ltT, gq_ltF, gq_eqT, gq_eqF, if_true, if_false, c, l1]
      rfl
    · simp only [gq_uI1, gq_uI2, gq_uL1, gq_uL2, Nat.reduceEqDiff, false_and, and_false, and_true, true_and, if_false, if_true]
    · simp only [gq_uI1, gq_uI2, gq_uL1, gq_uL2, Nat.reduceEqDiff, false_and, and_false, and_true, true_and, if_true]
    · simp only [gq_uI1, gq_uI2, gq_uL1, gq_uL2, Nat.reduceEqDiff, false_and, and_false, and_true, true_and, if_false, x4]
    · simp (disch := omega) only [gq_uI1, gq_uI2, gq_uL1, gq_uL2, gq_ifF, f1 a j h]
    · rw [gq_uI2, gq_uI2, e1]; rfl
  · have o := ok q (by omega)
    have c := C1.2 q (by omega)
    have l1 := h5
    rw [← gt_isD (by omega)] at l1
    have l2 : ¬ gt_let (t q) := by unfold gt_dig at h5; unfold gt_let; omega
    rw [← gt_isL (by omega)] at l2
    have g1 := gt_run_lt h6 h4 h5
    have hel := h6.2.1
    have tn : ∀ K, L_X8_takeNumber_5 K 4000 (gx_uI μ1 43 5 (gq_I 0)) = K (gx_uI (gx_uI μ1 43 5 (gq_I (gt_num t q (e - q)))) 43 2 (gq_I e)) := fun K => by
      have := gt_takeN (q := q) ok hl h6.2.1 h6.2.2.2 (k := K) (e - q) 4000 0 (gx_uI μ1 43 5 (gq_I 0)) (by omega) (by omega) (gt_C_w C1 fun a j h => by simp (disch := omega) only [gq_uI1, gq_uI2, gq_uL1, gq_uL2, gq_ifF]) (by simp only [gq_uI1, gq_uI2, gq_uL1, gq_uL2, Nat.reduceEqDiff, false_and, and_false, and_true, true_and, if_false, x2]; rfl) (by simp only [gq_uI1, gq_uI2, gq_uL1, gq_uL2, Nat.reduceEqDiff, false_and, and_false, and_true, true_and, if_false, x4]) (by simp only [gq_uI1, gq_uI2, gq_uL1, gq_uL2, Nat.reduceEqDiff, false_and, and_false, and_true, true_and, if_true]; rfl) h6.2.2.1
      rw [gq_uI_uI] at this
      exact this
    refine ⟨gx_uI (gx_uI (gx_uI μ1 43 5 (gq_I (gt_num t q (e - q)))) 43 2 (gq_I e)) 43 3 (gq_I k), ?_, ⟨?_, ?_, ?_, fun h => ?_⟩, fun a j h => ?_, ?_⟩
    · unfold f_X8_takeNumber
      simp (disch := omega) only [Int.reduceToNat, gq_lit, gq_neg, gq_add, gq_sub, gq_mul, gq_nat, Int.toNat_natCast, gq_tadd, gq_tmul, gq_lte, gq_br, gq_bd, gq_ck, Bool.false_eq_true, gq_leT, gq_leF, gq_ltT, gq_ltF, gq_eqT, gq_eqF, if_true, if_false, c, l1, l2]
      rw [tn]
      have y2 : (gx_uI (gx_uI μ1 43 5 (gq_I (gt_num t q (e - q)))) 43 2 (gq_I e)).1 43 2 = gq_I e := by simp only [gq_uI1, gq_uI2, gq_uL1, gq_uL2, Nat.reduceEqDiff, false_and, and_false, and_true, true_and, if_true]
      have y4 : (gx_uI (gx_uI μ1 43 5 (gq_I (gt_num t q (e - q)))) 43 2 (gq_I e)).1 43 4 = gq_I q := by simp only [gq_uI1, gq_uI2, gq_uL1, gq_uL2, Nat.reduceEqDiff, false_and, and_false, and_true, true_and, if_false, x4]
      have := h6.2.1
      rw [h8]
      by_cases h9 : e - q ≤ 2
      · rw [if_pos h9]
        simp (disch := omega) only [y2, y4, Int.reduceToNat, gq_lit, gq_neg, gq_add, gq_sub, gq_mul, gq_nat, Int.toNat_natCast, gq_tadd, gq_tmul, gq_lte, gq_br, gq_bd, gq_ck, Bool.false_eq_true, gq_leT, gq_leF, gq_ltT, gq_ltF, gq_eqT, gq_eqF, if_true, if_false]; rfl
      · rw [if_neg h9]
        simp (disch := omega) only [y2, y4, Int.reduceToNat, gq_lit, gq_neg, gq_add, gq_sub, gq_mul, gq_nat, Int.toNat_natCast, gq_tadd, gq_tmul, gq_lte, gq_br, gq_bd, gq_ck, Bool.false_eq_true, gq_leT, gq_leF, gq_ltT, gq_ltF, gq_eqT, gq_eqF, if_true, if_false]; rfl
    · simp only [gq_uI1, gq_uI2, gq_uL1, gq_uL2, Nat.reduceEqDiff, false_and, and_false, and_true, true_and, if_false, if_true]
    · simp only [gq_uI1, gq_uI2, gq_uL1, gq_uL2, Nat.reduceEqDiff, false_and, and_false, and_true, true_and, if_true]
    · simp only [gq_uI1, gq_uI2, gq_uL1, gq_uL2, Nat.reduceEqDiff, false_and, and_false, and_true, true_and, if_false, x4]
    · simp only [gq_uI1, gq_uI2, gq_uL1, gq_uL2, Nat.reduceEqDiff, false_and, and_false, and_true, true_and, if_false, if_true]; rw [h7]
    · simp (disch := omega) only [gq_uI1, gq_uI2, gq_uL1, gq_uL2, gq_ifF, f1 a j h]
    · rw [gq_uI2, gq_uI2, gq_uI2, e1]; rfl
  · have o := ok q (by omega)
    have c := C1.2 q (by omega)
    have l1 := h5
    have l2 := h6
    rw [← gt_isL (by omega)] at l1
    rw [← gt_isD (by omega)] at l2
    refine ⟨gx_uI (gx_uI μ1 43 3 (gq_I k)) 43 2 (gq_I e), ?_, ⟨?_, ?_, ?_, fun h => absurd h (by split at h8 <;> omega)⟩, fun a j h => ?_, ?_⟩
    · rw [h8, h7]
      by_cases h9 : t q = 59
      · simp (disch := omega) only [Int.reduceToNat, gq_lit, gq_neg, gq_add, gq_sub, gq_mul, gq_nat, Int.toNat_natCast, gq_tadd, gq_tmul, gq_lte, gq_br, gq_bd, gq_ck, Bool.false_eq_true, gq_leT, gq_leF, gq_ltT, gq_ltF, gq_eqT, gq_eqF, if_true, if_false, c, l1, l2, gq_uI1, gq_uI2, gq_uL1, gq_uL2, Nat.reduceEqDiff, false_and, and_false, and_true, true_and, x2, if_pos h9]; rfl
      · simp (disch := omega) only [Int.reduceToNat, gq_lit, gq_neg, gq_add, gq_sub, gq_mul, gq_nat, Int.toNat_natCast, gq_tadd, gq_tmul, gq_lte, gq_br, gq_bd, gq_ck, Bool.false_eq_true, gq_leT, gq_leF, gq_ltT, gq_ltF, gq_eqT, gq_eqF, if_true, if_false, c, l1, l2, gq_uI1, gq_uI2, gq_uL1, gq_uL2, Nat.reduceEqDiff, false_and, and_false, and_true, true_and, x2, if_neg h9]; rfl
    · simp only [gq_uI1, gq_uI2, gq_uL1, gq_uL2, Nat.reduceEqDiff, false_and, and_false, and_true, true_and, if_false, if_true]
    · simp only [gq_uI1, gq_uI2, gq_uL1, gq_uL2, Nat.reduceEqDiff, false_and, and_false, and_true, true_and, if_true, if_false]
    · simp only [gq_uI1, gq_uI2, gq_uL1, gq_uL2, Nat.reduceEqDiff, false_and, and_false, and_true, true_and, if_false, x4]
    · simp (disch := omega) only [gq_uI1, gq_uI2, gq_uL1, gq_uL2, gq_ifF, f1 a j h]
    · rw [gq_uI2, gq_uI2, e1]; rfl
