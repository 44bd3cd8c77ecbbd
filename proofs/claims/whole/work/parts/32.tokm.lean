/-! tokens: what the check reads -/
def gt_b (x : Int) : Int := if 0 ≤ x then x else x + 256
theorem gt_255 : ∀ n : Nat, n < 256 → gq_I ((n : Int) - 128) &&& gq_I 255 = gq_I (gt_b ((n : Int) - 128)) := by decide +kernel
theorem gt_and {x : Int} (h : -128 ≤ x ∧ x ≤ 127) : gq_I x &&& gq_I 255 = gq_I (gt_b x) := by
  have := gt_255 (x + 128).toNat (by omega)
  rw [show (((x + 128).toNat : Nat) : Int) - 128 = x by omega] at this
  exact this
theorem gt_b_r {x : Int} (h : -128 ≤ x ∧ x ≤ 127) : 0 ≤ gt_b x ∧ gt_b x ≤ 255 := by
  unfold gt_b; split <;> omega
theorem gt_b_s {x y : Int} (h : -128 ≤ x ∧ x ≤ 127) (hy : 0 ≤ y ∧ y ≤ 127) : gt_b x = y ↔ x = y := by
  unfold gt_b; split <;> omega
theorem gt_b_in {x a b : Int} (h : -128 ≤ x ∧ x ≤ 127) (ha : 0 ≤ a) (hb : b ≤ 127) : (a ≤ gt_b x ∧ gt_b x ≤ b) ↔ (a ≤ x ∧ x ≤ b) := by
  unfold gt_b; split <;> omega
theorem gt_b_p {x : Int} (h : 0 ≤ x) : gt_b x = x := by
  unfold gt_b; exact if_pos h
def gt_M (ν : gx_M) (t : Nat → Int) (len : Nat) : Prop := ν.1 206 11 = gq_I len ∧ ∀ k, k < 600 → ν.1 207 k = gq_I (t k)
theorem gt_M_w {μ ν : gx_M} {t : Nat → Int} {len : Nat} (h : gt_M μ t len) (e : ∀ a j, (a = 206 ∧ j = 11) ∨ a = 207 → ν.1 a j = μ.1 a j) : gt_M ν t len :=
  ⟨by rw [e _ _ (by omega)]; exact h.1, fun k hk => by rw [e _ _ (by omega)]; exact h.2 k hk⟩
theorem gt_seeI {t : Nat → Int} {len p : Nat} {ν : gx_M} (ok : gt_okt t) (hl : len ≤ 600) (hp : p < len) (hM : gt_M ν t len) (h : ν.1 206 10 = gq_I p) : f_X12_see ν = some (gq_I (gt_b (t p))) := by
  have c := hM.2 p (by omega)
  have o := ok p (by omega)
  unfold f_X12_see
  rw [hM.1, h]
  simp (disch := omega) only [Int.reduceToNat, gq_lit, gq_neg, gq_add, gq_sub, gq_mul, gq_nat, Int.toNat_natCast, gq_tadd, gq_tmul, gq_lte, gq_br, gq_bd, gq_ck, Bool.false_eq_true, gq_leT, gq_leF, gq_ltT, gq_ltF, gq_eqT, gq_eqF, if_true, if_false, c, gt_and]
theorem gt_seeO {t : Nat → Int} {len p : Nat} {ν : gx_M} (hl : len ≤ 600) (hp : len ≤ p) (hp2 : p ≤ 600) (hM : gt_M ν t len) (h : ν.1 206 10 = gq_I p) : f_X12_see ν = some (gq_I (-1)) := by
  unfold f_X12_see
  rw [hM.1, h]
  simp (disch := omega) only [Int.reduceToNat, gq_lit, gq_neg, gq_add, gq_sub, gq_mul, gq_nat, Int.toNat_natCast, gq_tadd, gq_tmul, gq_lte, gq_br, gq_bd, gq_ck, Bool.false_eq_true, gq_leT, gq_leF, gq_ltT, gq_ltF, gq_eqT, gq_eqF, if_true, if_false]
theorem gt_mskip {t : Nat → Int} {len e : Nat} (ok : gt_okt t) (hl : len ≤ 600) (he : e ≤ len) (hz : e < len → ¬ gt_bl (t e)) {k : gx_M → Option (Unit × gx_M)} : ∀ (d f p : Nat) (ν : gx_M), d < f → p + d = e → gt_M ν t len → ν.1 206 10 = gq_I p → (∀ j, p ≤ j → j < e → gt_bl (t j)) → L_X12_token_0 k f ν = k (gx_uI ν 206 10 (gq_I e))
  | _, 0, _, _, hf, _, _, _, _ => absurd hf (Nat.not_lt_zero _)
  | 0, f + 1, p, ν, hf, hp, hM, h2, hP => by
    have e0 : p = e := by omega
    subst e0
    rw [L_X12_token_0.eq_2, gq_uI_id h2]
    by_cases h : p < len
    · have o := ok p (by omega)
      have n := hz h
      unfold gt_bl at n
      have b := gt_b_r o
      have b1 := gt_b_s o (y := 10) (by omega)
      have b2 := gt_b_s o (y := 32) (by omega)
      simp (disch := omega) only [Int.reduceToNat, gq_lit, gq_neg, gq_add, gq_sub, gq_mul, gq_nat, Int.toNat_natCast, gq_tadd, gq_tmul, gq_lte, gq_br, gq_bd, gq_ck, Bool.false_eq_true, gq_leT, gq_leF, gq_ltT, gq_ltF, gq_eqT, gq_eqF, if_true, if_false, gt_seeI ok hl h hM h2]
    · simp (disch := omega) only [Int.reduceToNat, gq_lit, gq_neg, gq_add, gq_sub, gq_mul, gq_nat, Int.toNat_natCast, gq_tadd, gq_tmul, gq_lte, gq_br, gq_bd, gq_ck, Bool.false_eq_true, gq_leT, gq_leF, gq_ltT, gq_ltF, gq_eqT, gq_eqF, if_true, if_false, gt_seeO hl (by omega : len ≤ p) (by omega) hM h2]
  | d + 1, f + 1, p, ν, hf, hp, hM, h2, hP => by
    have o := ok p (by omega)
    have n := hP p (by omega) (by omega)
    have b := gt_b_r o
    have b1 := gt_b_s o (y := 10) (by omega)
    have b2 := gt_b_s o (y := 32) (by omega)
    have ih := gt_mskip ok hl he hz (k := k) d f (p + 1) (gx_uI ν 206 10 (gq_I (p + 1 : Nat))) (by omega) (by omega) (gt_M_w hM fun a j h => by simp (disch := omega) only [gq_uI1, gq_uI2, gq_uL1, gq_uL2, gq_ifF]) (by simp only [gq_uI1, gq_uI2, gq_uL1, gq_uL2, Nat.reduceEqDiff, false_and, and_false, and_true, true_and, if_true]) (fun j h3 h4 => hP j (by omega) h4)
    rw [gq_uI_uI] at ih
    rw [L_X12_token_0.eq_2, ← ih]
    rcases n with n | n
    · simp (disch := omega) only [Int.reduceToNat, gq_lit, gq_neg, gq_add, gq_sub, gq_mul, gq_nat, Int.toNat_natCast, gq_tadd, gq_tmul, gq_lte, gq_br, gq_bd, gq_ck, Bool.false_eq_true, gq_leT, gq_leF, gq_ltT, gq_ltF, gq_eqT, gq_eqF, if_true, if_false, gt_seeI ok hl (by omega : p < len) hM h2, h2]
      rfl
    · simp (disch := omega) only [Int.reduceToNat, gq_lit, gq_neg, gq_add, gq_sub, gq_mul, gq_nat, Int.toNat_natCast, gq_tadd, gq_tmul, gq_lte, gq_br, gq_bd, gq_ck, Bool.false_eq_true, gq_leT, gq_leF, gq_ltT, gq_ltF, gq_eqT, gq_eqF, if_true, if_false, gt_seeI ok hl (by omega : p < len) hM h2, h2]
      rfl
/-- the letters of a word as one number -/
def gt_val (u : Nat → Int) : Nat → Int
  | 0 => 0
  | n + 1 => 256 * gt_val u n + u n
theorem gt_val_r {u : Nat → Int} {n : Nat} : (∀ j, j < n → 0 ≤ u j ∧ u j ≤ 127) → 0 ≤ gt_val u n ∧ (n ≤ 7 → 2 * gt_val u n < 2 ^ (8 * n)) := by
  induction n with
  | zero => intro _; exact ⟨Int.le_refl 0, fun _ => show 2 * (0 : Int) < 2 ^ (8 * 0) by decide⟩
  | succ n ih =>
    intro h
    obtain ⟨h1, h2⟩ := ih fun j hj => h j (by omega)
    have h3 := h n (by omega)
    refine ⟨by show 0 ≤ 256 * gt_val u n + u n; omega, fun hn => ?_⟩
    have h4 := h2 (by omega)
    show 2 * (256 * gt_val u n + u n) < _
    rw [show 8 * (n + 1) = 8 * n + 8 by omega, Int.pow_add]
    have : (2 : Int) ^ 8 = 256 := by decide
    rw [this]
    omega
theorem gt_val_b {u : Nat → Int} {n : Nat} (h : ∀ j, j < n → 0 ≤ u j ∧ u j ≤ 127) (hn : n ≤ 7) : gt_val u n < 36028797018963968 := by
  have h2 := (gt_val_r h).2 hn
  have h3 : (2 : Int) ^ (8 * n) ≤ 2 ^ 56 := by
    rcases (show n = 0 ∨ n = 1 ∨ n = 2 ∨ n = 3 ∨ n = 4 ∨ n = 5 ∨ n = 6 ∨ n = 7 by omega) with h | h | h | h | h | h | h | h <;> subst h <;> decide
  have h4 : (2 : Int) ^ 56 = 72057594037927936 := by decide
  omega
theorem gt_shl8 {a b : Nat} (ha : a < 72057594037927936) (hb : b < 128) : ((gq_L a) <<< ((8 : Int32).toInt64 &&& 63)) ||| gq_L b = gq_L (256 * (a : Int) + b) := by
  have e : ((8 : Int32).toInt64 &&& 63) = 8 := by decide
  rw [e]
  have ea : gq_L (a : Int) = Int64.ofNat a := Int64.ofInt_eq_ofNat
  have eb : gq_L (b : Int) = Int64.ofNat b := Int64.ofInt_eq_ofNat
  have ec : gq_L (256 * (a : Int) + b) = Int64.ofNat (256 * a + b) := Int64.ofInt_eq_ofNat (n := 256 * a + b)
  rw [ea, eb, ec]
  apply Int64.toBitVec_inj.mp
  apply BitVec.eq_of_toNat_eq
  rw [Int64.toBitVec_or, Int64.toBitVec_shiftLeft]
  have s8 : (Int64.toBitVec 8).smod 64 = 8#64 := by decide
  rw [s8, BitVec.toNat_or]
  have t1 : ((Int64.ofNat a).toBitVec <<< (8#64)).toNat = a * 256 := by
    rw [BitVec.shiftLeft_eq', BitVec.toNat_shiftLeft]
    show ((Int64.ofNat a).toBitVec.toNat <<< 8) % 2 ^ 64 = _
    have : (Int64.ofNat a).toBitVec.toNat = a := by
      show (BitVec.ofNat 64 a).toNat = a
      rw [BitVec.toNat_ofNat]; exact Nat.mod_eq_of_lt (by omega)
    rw [this, Nat.shiftLeft_eq]
    exact Nat.mod_eq_of_lt (by omega)
  have t2 : (Int64.ofNat b).toBitVec.toNat = b := by
    show (BitVec.ofNat 64 b).toNat = b
    rw [BitVec.toNat_ofNat]; exact Nat.mod_eq_of_lt (by omega)
  have t3 : (Int64.ofNat (256 * a + b)).toBitVec.toNat = 256 * a + b := by
    show (BitVec.ofNat 64 (256 * a + b)).toNat = 256 * a + b
    rw [BitVec.toNat_ofNat]; exact Nat.mod_eq_of_lt (by omega)
  rw [t1, t2, t3]
  have := Nat.shiftLeft_add_eq_or_of_lt (a := a) (b := b) (i := 8) (by omega)
  rw [Nat.shiftLeft_eq] at this
  rw [show a * 256 = a * 2 ^ 8 from rfl, ← this]
  omega
theorem gq_uL_uL (μ : gx_M) (a k : Nat) (x y : Int64) : gx_uL (gx_uL μ a k x) a k y = gx_uL μ a k y :=
  gq_mext (fun _ _ => rfl) fun b j => by
    rw [gq_uL2, gq_uL2, gq_uL2]
    by_cases h : b = a ∧ j = k
    · rw [if_pos h, if_pos h]
    · rw [if_neg h, if_neg h, if_neg h]
theorem gt_mword {t : Nat → Int} {len q e : Nat} (ok : gt_okt t) (hl : len ≤ 600) (he : e ≤ len) (hz : e < len → ¬ gt_let (t e)) (hP : ∀ j, q ≤ j → j < e → gt_let (t j)) {k : Int32 → gx_M → Option (Unit × gx_M)} : ∀ (d f n : Nat) (ν : gx_M), d < f → q + n + d = e → gt_M ν t len → ν.1 206 10 = gq_I (q + n : Nat) → (n ≤ 8 → ν.2 206 15 = gq_L (gt_val (fun j => t (q + j)) n)) → ∃ ν', L_X12_token_74 k f (gq_I n) ν = k (gq_I (e - q : Nat)) ν' ∧ ν'.1 206 10 = gq_I e ∧ (e - q ≤ 8 → ν'.2 206 15 = gq_L (gt_val (fun j => t (q + j)) (e - q))) ∧ (∀ a j, ¬ (a = 206 ∧ j = 10) → ν'.1 a j = ν.1 a j) ∧ (∀ a j, ¬ (a = 206 ∧ j = 15) → ν'.2 a j = ν.2 a j)
  | _, 0, _, _, hf, _, _, _, _ => absurd hf (Nat.not_lt_zero _)
  | 0, f + 1, n, ν, hf, hp, hM, h2, hw => by
    have e0 : e = q + n := by omega
    subst e0
    refine ⟨ν, ?_, h2, ?_, fun _ _ _ => rfl, fun _ _ _ => rfl⟩
    · rw [L_X12_token_74.eq_2, show q + n - q = n by omega]
      by_cases h : q + n < len
      · have o := ok (q + n) (by omega)
        have z := hz h
        unfold gt_let at z
        have b := gt_b_r o
        have b1 := gt_b_in o (a := 97) (b := 122) (by omega) (by omega)
        simp (disch := omega) only [Int.reduceToNat, gq_lit, gq_neg, gq_add, gq_sub, gq_mul, gq_nat, Int.toNat_natCast, gq_tadd, gq_tmul, gq_lte, gq_br, gq_bd, gq_ck, Bool.false_eq_true, gq_leT, gq_leF, gq_ltT, gq_ltF, gq_eqT, gq_eqF, if_true, if_false, gt_seeI ok hl h hM h2, gq_inF]
      · simp (disch := omega) only [Int.reduceToNat, gq_lit, gq_neg, gq_add, gq_sub, gq_mul, gq_nat, Int.toNat_natCast, gq_tadd, gq_tmul, gq_lte, gq_br, gq_bd, gq_ck, Bool.false_eq_true, gq_leT, gq_leF, gq_ltT, gq_ltF, gq_eqT, gq_eqF, if_true, if_false, gt_seeO hl (by omega : len ≤ q + n) (by omega) hM h2, gq_inF]
    · rw [show q + n - q = n by omega]; exact hw
  | d + 1, f + 1, n, ν, hf, hp, hM, h2, hw => by
    have o := ok (q + n) (by omega)
    have z := hP (q + n) (by omega) (by omega)
    unfold gt_let at z
    have b := gt_b_p (x := t (q + n)) (by omega)
    have hb : ∀ j, j < n → 0 ≤ (fun j => t (q + j)) j ∧ (fun j => t (q + j)) j ≤ 127 := fun j hj => by
      have := hP (q + j) (by omega) (by omega)
      unfold gt_let at this
      show 0 ≤ t (q + j) ∧ t (q + j) ≤ 127
      omega
    obtain ⟨ν1, e1⟩ : ∃ ν1, ν1 = gx_uI (gx_uL ν 206 15 (((ν.2 206 15) <<< ((8 : Int32).toInt64 &&& 63)) ||| gq_L (t (q + n)))) 206 10 (gq_I (q + (n + 1) : Nat)) := ⟨_, rfl⟩
    obtain ⟨ν', i1, i2, i3, i4, i5⟩ := gt_mword (q := q) ok hl he hz hP (k := k) d f (n + 1) ν1 (by omega) (by omega) (gt_M_w hM fun a j h => by rw [e1]; simp (disch := omega) only [gq_uI1, gq_uI2, gq_uL1, gq_uL2, gq_ifF]) (by rw [e1]; simp only [gq_uI1, gq_uI2, gq_uL1, gq_uL2, Nat.reduceEqDiff, false_and, and_false, and_true, true_and, if_true]) (fun hn => by
      have r := gt_val_r hb
      have r2 := gt_val_b hb (by omega)
      have s := gt_shl8 (a := (gt_val (fun j => t (q + j)) n).toNat) (b := (t (q + n)).toNat) (by omega) (by omega)
      rw [Int.toNat_of_nonneg r.1, Int.toNat_of_nonneg (by omega)] at s
      rw [e1, gq_uI2, gq_uL2, if_pos ⟨rfl, rfl⟩, hw (by omega), s]
      rfl)
    refine ⟨ν', ?_, i2, i3, fun a j h => ?_, fun a j h => ?_⟩
    · rw [L_X12_token_74.eq_2, ← i1, e1]
      simp (disch := omega) only [Int.reduceToNat, gq_lit, gq_neg, gq_add, gq_sub, gq_mul, gq_nat, Int.toNat_natCast, gq_tadd, gq_tmul, gq_lte, gq_br, gq_bd, gq_ck, Bool.false_eq_true, gq_leT, gq_leF, gq_ltT, gq_ltF, gq_eqT, gq_eqF, if_true, if_false, gt_seeI ok hl (by omega : q + n < len) hM h2, b, gq_inT, gq_toL, gq_uI1, gq_uI2, gq_uL1, gq_uL2, h2]
      rfl
    · rw [i4 a j h, e1]; simp (disch := omega) only [gq_uI1, gq_uI2, gq_uL1, gq_uL2, gq_ifF]
    · rw [i5 a j h, e1]; simp (disch := omega) only [gq_uI1, gq_uI2, gq_uL1, gq_uL2, gq_ifF]
theorem gt_mnum {t : Nat → Int} {len q e : Nat} (ok : gt_okt t) (hl : len ≤ 600) (he : e ≤ len) (hz : e < len → ¬ gt_dig (t e)) (hP : ∀ j, q ≤ j → j < e → gt_dig (t j)) {k : Int32 → gx_M → Option (Unit × gx_M)} : ∀ (d f n : Nat) (ν : gx_M), d < f → q + n + d = e → gt_M ν t len → ν.1 206 10 = gq_I (q + n : Nat) → ν.1 206 14 = gq_I (gt_num t q n) → ∃ ν', L_X12_token_163 k f (gq_I n) ν = k (gq_I (e - q : Nat)) ν' ∧ ν'.1 206 10 = gq_I e ∧ ν'.1 206 14 = gq_I (gt_num t q (e - q)) ∧ (∀ a j, ¬ (a = 206 ∧ (j = 10 ∨ j = 14)) → ν'.1 a j = ν.1 a j) ∧ ν'.2 = ν.2
  | _, 0, _, _, hf, _, _, _, _ => absurd hf (Nat.not_lt_zero _)
  | 0, f + 1, n, ν, hf, hp, hM, h2, h5 => by
    have e0 : e = q + n := by omega
    subst e0
    refine ⟨ν, ?_, h2, ?_, fun _ _ _ => rfl, rfl⟩
    · rw [L_X12_token_163.eq_2, show q + n - q = n by omega]
      by_cases h : q + n < len
      · have o := ok (q + n) (by omega)
        have z := hz h
        unfold gt_dig at z
        have b := gt_b_r o
        have b1 := gt_b_in o (a := 48) (b := 57) (by omega) (by omega)
        simp (disch := omega) only [Int.reduceToNat, gq_lit, gq_neg, gq_add, gq_sub, gq_mul, gq_nat, Int.toNat_natCast, gq_tadd, gq_tmul, gq_lte, gq_br, gq_bd, gq_ck, Bool.false_eq_true, gq_leT, gq_leF, gq_ltT, gq_ltF, gq_eqT, gq_eqF, if_true, if_false, gt_seeI ok hl h hM h2, gq_inF]
      · simp (disch := omega) only [Int.reduceToNat, gq_lit, gq_neg, gq_add, gq_sub, gq_mul, gq_nat, Int.toNat_natCast, gq_tadd, gq_tmul, gq_lte, gq_br, gq_bd, gq_ck, Bool.false_eq_true, gq_leT, gq_leF, gq_ltT, gq_ltF, gq_eqT, gq_eqF, if_true, if_false, gt_seeO hl (by omega : len ≤ q + n) (by omega) hM h2, gq_inF]
    · rw [show q + n - q = n by omega]; exact h5
  | d + 1, f + 1, n, ν, hf, hp, hM, h2, h5 => by
    have o := ok (q + n) (by omega)
    have z := hP (q + n) (by omega) (by omega)
    unfold gt_dig at z
    have b := gt_b_p (x := t (q + n)) (by omega)
    obtain ⟨ν1, e1⟩ : ∃ ν1, ν1 = gx_uI (gx_uI ν 206 14 (gq_I (gt_num t q (n + 1)))) 206 10 (gq_I (q + (n + 1) : Nat)) := ⟨_, rfl⟩
    obtain ⟨ν', i1, i2, i3, i4, i5⟩ := gt_mnum (q := q) ok hl he hz hP (k := k) d f (n + 1) ν1 (by omega) (by omega) (gt_M_w hM fun a j h => by rw [e1]; simp (disch := omega) only [gq_uI1, gq_uI2, gq_uL1, gq_uL2, gq_ifF]) (by rw [e1]; simp only [gq_uI1, gq_uI2, gq_uL1, gq_uL2, Nat.reduceEqDiff, false_and, and_false, and_true, true_and, if_true]) (by rw [e1]; simp only [gq_uI1, gq_uI2, gq_uL1, gq_uL2, Nat.reduceEqDiff, false_and, and_false, and_true, true_and, if_true, if_false])
    refine ⟨ν', ?_, i2, i3, fun a j h => ?_, ?_⟩
    · rw [L_X12_token_163.eq_2, ← i1, e1]
      by_cases h : 2 ≤ n
      · have en : gt_num t q (n + 1) = gt_num t q n := by
          unfold gt_num
          rw [if_neg (by omega), if_neg (by omega), if_neg (by omega), if_neg (by omega)]
        simp (disch := omega) only [Int.reduceToNat, gq_lit, gq_neg, gq_add, gq_sub, gq_mul, gq_nat, Int.toNat_natCast, gq_tadd, gq_tmul, gq_lte, gq_br, gq_bd, gq_ck, Bool.false_eq_true, gq_leT, gq_leF, gq_ltT, gq_ltF, gq_eqT, gq_eqF, if_true, if_false, gt_seeI ok hl (by omega : q + n < len) hM h2, b, gq_inT, gq_uI1, gq_uI2, gq_uL1, gq_uL2, Nat.reduceEqDiff, false_and, and_false, and_true, true_and, h2, h5, en]
        rfl
      · have en : gt_num t q (n + 1) = 10 * gt_num t q n + t (q + n) - 48 := by
          unfold gt_num
          rcases (show n = 0 ∨ n = 1 by omega) with rfl | rfl
          · simp only [Nat.zero_add, Nat.reduceEqDiff, if_true, if_false, Nat.add_zero]; omega
          · simp only [Nat.reduceAdd, Nat.reduceEqDiff, if_true, if_false]; omega
        simp (disch := omega) only [Int.reduceToNat, gq_lit, gq_neg, gq_add, gq_sub, gq_mul, gq_nat, Int.toNat_natCast, gq_tadd, gq_tmul, gq_lte, gq_br, gq_bd, gq_ck, Bool.false_eq_true, gq_leT, gq_leF, gq_ltT, gq_ltF, gq_eqT, gq_eqF, if_true, if_false, gt_seeI ok hl (by omega : q + n < len) hM h2, b, gq_inT, gq_uI1, gq_uI2, gq_uL1, gq_uL2, Nat.reduceEqDiff, false_and, and_false, and_true, true_and, h2, h5, en]
        rfl
    · rw [i4 a j h, e1]; simp (disch := omega) only [gq_uI1, gq_uI2, gq_uL1, gq_uL2, gq_ifF]
    · rw [i5, e1]; rfl
def gt_mk (k : Nat) : Int := if k = 0 then 0 else if k = 1 then 2 else if k = 2 then 3 else if k = 3 then 4 else 1
/-- the check's next token -/
theorem gt_tok {t : Nat → Int} {len p k q e : Nat} {v : Int} (ok : gt_okt t) (hl : len ≤ 600) (hk : gt_tk t len p k q e v) {ν : gx_M} (hM : gt_M ν t len) (h2 : ν.1 206 10 = gq_I p) : ∃ ν', f_X12_token ν = some ((), ν') ∧ (ν'.1 206 10 = gq_I e ∧ ν'.1 206 13 = gq_I (gt_mk k) ∧ ν'.1 206 12 = gq_I q ∧ (k = 2 → ν'.1 206 14 = gq_I v) ∧ (k = 1 → ν'.2 206 15 = if e - q ≤ 8 then gq_L (gt_val (fun j => t (q + j)) (e - q)) else gq_L 0)) ∧ (∀ a j, ¬ (a = 206 ∧ 10 ≤ j ∧ j ≤ 14 ∧ j ≠ 11) → ν'.1 a j = ν.1 a j) ∧ (∀ a j, ¬ (a = 206 ∧ j = 15) → ν'.2 a j = ν.2 a j) := by
  obtain ⟨⟨s1, s2, s3, s4⟩, hk⟩ := hk
  have sk := fun K => gt_mskip ok hl s2 s4 (k := K) (q - p) 4000 p ν (by omega) (by omega) hM h2 s3
  unfold f_X12_token
  rw [sk]
  obtain ⟨ν0, e0⟩ : ∃ ν0, ν0 = gx_uI (gx_uI ν 206 10 (gq_I q)) 206 12 (gq_I q) := ⟨_, rfl⟩
  have u2 : (gx_uI ν 206 10 (gq_I q)).1 206 10 = gq_I q := by simp only [gq_uI1, gq_uI2, gq_uL1, gq_uL2, Nat.reduceEqDiff, false_and, and_false, and_true, true_and, if_true, if_false]
  simp only [gq_lte, u2]
  rw [← e0]
  have f0 : ∀ a j, ¬ (a = 206 ∧ (j = 10 ∨ j = 12)) → ν0.1 a j = ν.1 a j := fun a j h => by
    rw [e0]; simp (disch := omega) only [gq_uI1, gq_uI2, gq_uL1, gq_uL2, gq_ifF]
  have M0 : gt_M ν0 t len := gt_M_w hM fun a j h => f0 a j (by omega)
  have y10 : ν0.1 206 10 = gq_I q := by rw [e0]; simp only [gq_uI1, gq_uI2, gq_uL1, gq_uL2, Nat.reduceEqDiff, false_and, and_false, and_true, true_and, if_true, if_false]
  have y12 : ν0.1 206 12 = gq_I q := by rw [e0]; simp only [gq_uI1, gq_uI2, gq_uL1, gq_uL2, Nat.reduceEqDiff, false_and, and_false, and_true, true_and, if_true, if_false]
  obtain ⟨ν1, e1⟩ : ∃ ν1, ν1 = gx_uL ν0 206 15 (gq_L 0) := ⟨_, rfl⟩
  have f1 : ∀ a j, ν1.1 a j = ν0.1 a j := fun a j => by rw [e1]; rfl
  have g1 : ∀ a j, ¬ (a = 206 ∧ j = 15) → ν1.2 a j = ν.2 a j := fun a j h => by
    rw [e1, gq_uL2, if_neg h, e0]; rfl
  have M1 : gt_M ν1 t len := gt_M_w M0 fun a j h => f1 a j
  have w1 : ν1.2 206 15 = gq_L 0 := by rw [e1]; simp only [gq_uI1, gq_uI2, gq_uL1, gq_uL2, Nat.reduceEqDiff, false_and, and_false, and_true, true_and, if_true]
  rcases hk with ⟨h4, h5, h6⟩ | ⟨h4, ⟨h5, h6, h7⟩ | ⟨h5, h6, h7, h8⟩ | ⟨h5, h6, h7, h8⟩⟩
  · refine ⟨gx_uI ν1 206 13 (gq_I (gt_mk k)), ?_, ⟨?_, ?_, ?_, fun h => absurd h (by omega), fun h => absurd h (by omega)⟩, fun a j h => ?_, fun a j h => ?_⟩
    · subst h4
      rw [gt_seeO hl (by omega) (by omega) M0 y10]
      simp (disch := omega) only [Int.reduceToNat, gq_lit, gq_neg, gq_add, gq_sub, gq_mul, gq_nat, Int.toNat_natCast, gq_tadd, gq_tmul, gq_lte, gq_br, gq_bd, gq_ck, Bool.false_eq_true, gq_leT, gq_leF, gq_ltT, gq_ltF, gq_eqT, gq_eqF, if_true, if_false, gq_Llit]
      rw [← e1]; rfl
    · simp only [gq_uI1, gq_uI2, gq_uL1, gq_uL2, Nat.reduceEqDiff, false_and, and_false, and_true, true_and, if_false, f1, y10]; rw [h6, h5]
    · simp only [gq_uI1, gq_uI2, gq_uL1, gq_uL2, Nat.reduceEqDiff, false_and, and_false, and_true, true_and, if_true]
    · simp only [gq_uI1, gq_uI2, gq_uL1, gq_uL2, Nat.reduceEqDiff, false_and, and_false, and_true, true_and, if_false, f1, y12]
    · rw [gq_uI1, if_neg (by omega), f1, f0 a j (by omega)]
    · rw [gq_uI2, g1 a j h]
  · have o := ok q (by omega)
    have l1 := h6
    unfold gt_let at l1
    have hel := h7.2.1
    have heq := h7.1
    have b := gt_b_p (x := t q) (by omega)
    obtain ⟨ν2, i1, i2, i3, i4, i5⟩ := gt_mword (q := q) ok hl h7.2.1 h7.2.2.2 h7.2.2.1 (k := fun (x2_27 : Int32) (μ28 : gx_M) => if x2_27 ≤ gq_I 8 then some ((), gx_uI (gx_uL μ28 206 15 (μ28.2 206 15)) 206 13 (gq_I 2)) else some ((), gx_uI (gx_uL μ28 206 15 (gq_L 0)) 206 13 (gq_I 2))) (e - q) 4000 0 ν1 (by omega) (by omega) M1 (by rw [f1]; exact y10) (fun _ => w1)
    refine ⟨gx_uI (gx_uL ν2 206 15 (if e - q ≤ 8 then ν2.2 206 15 else gq_L 0)) 206 13 (gq_I 2), ?_, ⟨?_, ?_, ?_, fun h => absurd h (by omega), fun h => ?_⟩, fun a j h => ?_, fun a j h => ?_⟩
    · rw [gt_seeI ok hl h4 M0 y10, b]
      simp (disch := omega) only [Int.reduceToNat, gq_lit, gq_neg, gq_add, gq_sub, gq_mul, gq_nat, Int.toNat_natCast, gq_tadd, gq_tmul, gq_lte, gq_br, gq_bd, gq_ck, Bool.false_eq_true, gq_leT, gq_leF, gq_ltT, gq_ltF, gq_eqT, gq_eqF, if_true, if_false, gq_Llit, gq_inT]
      rw [← e1]
      refine Eq.trans i1 ?_
      by_cases h9 : e - q ≤ 8
      · rw [if_pos h9]
        simp (disch := omega) only [Bool.false_eq_true, gq_leT, gq_leF, gq_ltT, gq_ltF, gq_eqT, gq_eqF, if_true, if_false]
      · rw [if_neg h9]
        simp (disch := omega) only [Bool.false_eq_true, gq_leT, gq_leF, gq_ltT, gq_ltF, gq_eqT, gq_eqF, if_true, if_false]
    · simp only [gq_uI1, gq_uI2, gq_uL1, gq_uL2, Nat.reduceEqDiff, false_and, and_false, and_true, true_and, if_false, i2]
    · rw [h5]; simp only [gq_uI1, gq_uI2, gq_uL1, gq_uL2, Nat.reduceEqDiff, false_and, and_false, and_true, true_and, if_true]; rfl
    · simp only [gq_uI1, gq_uI2, gq_uL1, gq_uL2, Nat.reduceEqDiff, false_and, and_false, and_true, true_and, if_false]; rw [i4 _ _ (by omega), f1, y12]
    · rw [gq_uI2, gq_uL2, if_pos ⟨rfl, rfl⟩]
      by_cases h9 : e - q ≤ 8
      · rw [if_pos h9, if_pos h9, i3 h9]
      · rw [if_neg h9, if_neg h9]
    · rw [gq_uI1, if_neg (by omega), gq_uL1, i4 _ _ (by omega), f1, f0 a j (by omega)]
    · rw [gq_uI2, gq_uL2, if_neg h, i5 _ _ h, g1 a j h]
  · have o := ok q (by omega)
    have l1 := h5
    unfold gt_dig at l1
    have hel := h6.2.1
    have heq := h6.1
    have b := gt_b_p (x := t q) (by omega)
    obtain ⟨ν2, i1, i2, i3, i4, i5⟩ := gt_mnum (q := q) ok hl h6.2.1 h6.2.2.2 h6.2.2.1 (k := fun (x2_51 : Int32) (μ52 : gx_M) => if x2_51 ≤ gq_I 2 then some ((), gx_uI μ52 206 13 (gq_I 3)) else some ((), gx_uI μ52 206 13 (gq_I 1))) (e - q) 4000 0 (gx_uI ν1 206 14 (gq_I 0)) (by omega) (by omega) (gt_M_w M1 fun a j h => by simp (disch := omega) only [gq_uI1, gq_uI2, gq_uL1, gq_uL2, gq_ifF]) (by simp only [gq_uI1, gq_uI2, gq_uL1, gq_uL2, Nat.reduceEqDiff, false_and, and_false, and_true, true_and, if_false, f1]; exact y10) (by simp only [gq_uI1, gq_uI2, gq_uL1, gq_uL2, Nat.reduceEqDiff, false_and, and_false, and_true, true_and, if_true]; rfl)
    refine ⟨gx_uI ν2 206 13 (gq_I (gt_mk k)), ?_, ⟨?_, ?_, ?_, fun h => ?_, fun h => absurd h (by split at h8 <;> omega)⟩, fun a j h => ?_, fun a j h => ?_⟩
    · rw [gt_seeI ok hl h4 M0 y10, b]
      simp (disch := omega) only [Int.reduceToNat, gq_lit, gq_neg, gq_add, gq_sub, gq_mul, gq_nat, Int.toNat_natCast, gq_tadd, gq_tmul, gq_lte, gq_br, gq_bd, gq_ck, Bool.false_eq_true, gq_leT, gq_leF, gq_ltT, gq_ltF, gq_eqT, gq_eqF, if_true, if_false, gq_Llit, gq_inT, gq_inF]
      rw [← e1]
      refine Eq.trans i1 ?_
      rw [h8]
      by_cases h9 : e - q ≤ 2
      · rw [if_pos h9]
        simp (disch := omega) only [Bool.false_eq_true, gq_leT, gq_leF, gq_ltT, gq_ltF, gq_eqT, gq_eqF, if_true, if_false]
        rfl
      · rw [if_neg h9]
        simp (disch := omega) only [Bool.false_eq_true, gq_leT, gq_leF, gq_ltT, gq_ltF, gq_eqT, gq_eqF, if_true, if_false]
        rfl
    · simp only [gq_uI1, gq_uI2, gq_uL1, gq_uL2, Nat.reduceEqDiff, false_and, and_false, and_true, true_and, if_false, i2]
    · simp only [gq_uI1, gq_uI2, gq_uL1, gq_uL2, Nat.reduceEqDiff, false_and, and_false, and_true, true_and, if_true]
    · simp only [gq_uI1, gq_uI2, gq_uL1, gq_uL2, Nat.reduceEqDiff, false_and, and_false, and_true, true_and, if_false]; rw [i4 _ _ (by omega), gq_uI1, if_neg (by omega), f1, y12]
    · simp only [gq_uI1, gq_uI2, gq_uL1, gq_uL2, Nat.reduceEqDiff, false_and, and_false, and_true, true_and, if_false]; rw [i3, h7]
    · rw [gq_uI1, if_neg (by omega), i4 _ _ (by omega), gq_uI1, if_neg (by omega), f1, f0 a j (by omega)]
    · rw [gq_uI2, i5, gq_uI2, g1 a j h]
  · have o := ok q (by omega)
    have l1 := h5
    have l2 := h6
    unfold gt_let at l1
    unfold gt_dig at l2
    have b := gt_b_r o
    have b1 := gt_b_in o (a := 97) (b := 122) (by omega) (by omega)
    have b2 := gt_b_in o (a := 48) (b := 57) (by omega) (by omega)
    have b3 := gt_b_s o (y := 59) (by omega)
    have z10 : ν1.1 206 10 = gq_I q := by rw [f1]; exact y10
    refine ⟨gx_uI (gx_uI ν1 206 10 (gq_I e)) 206 13 (gq_I (gt_mk k)), ?_, ⟨?_, ?_, ?_, fun h => absurd h (by split at h8 <;> omega), fun h => absurd h (by split at h8 <;> omega)⟩, fun a j h => ?_, fun a j h => ?_⟩
    · rw [gt_seeI ok hl h4 M0 y10, h8, h7]
      by_cases h9 : t q = 59
      · simp (disch := omega) only [Int.reduceToNat, gq_lit, gq_neg, gq_add, gq_sub, gq_mul, gq_nat, Int.toNat_natCast, gq_tadd, gq_tmul, gq_lte, gq_br, gq_bd, gq_ck, Bool.false_eq_true, gq_leT, gq_leF, gq_ltT, gq_ltF, gq_eqT, gq_eqF, if_true, if_false, gq_Llit, gq_inF, if_pos h9]
        rw [← e1, z10, gq_add]; rfl
      · simp (disch := omega) only [Int.reduceToNat, gq_lit, gq_neg, gq_add, gq_sub, gq_mul, gq_nat, Int.toNat_natCast, gq_tadd, gq_tmul, gq_lte, gq_br, gq_bd, gq_ck, Bool.false_eq_true, gq_leT, gq_leF, gq_ltT, gq_ltF, gq_eqT, gq_eqF, if_true, if_false, gq_Llit, gq_inF, if_neg h9]
        rw [← e1, z10, gq_add]; rfl
    · simp only [gq_uI1, gq_uI2, gq_uL1, gq_uL2, Nat.reduceEqDiff, false_and, and_false, and_true, true_and, if_false, if_true]
    · simp only [gq_uI1, gq_uI2, gq_uL1, gq_uL2, Nat.reduceEqDiff, false_and, and_false, and_true, true_and, if_true]
    · simp only [gq_uI1, gq_uI2, gq_uL1, gq_uL2, Nat.reduceEqDiff, false_and, and_false, and_true, true_and, if_false, f1]; exact y12
    · rw [gq_uI1, if_neg (by omega), gq_uI1, if_neg (by omega), f1, f0 a j (by omega)]
    · rw [gq_uI2, gq_uI2, g1 a j h]
