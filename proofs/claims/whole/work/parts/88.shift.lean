/-! shifts as products and quotients; weights -/
theorem gq_suc (i : Nat) : gq_I i + 1 = gq_I (i + 1 : Nat) := by rw [gq_lit, gq_add]; rfl
theorem gm_natL {a : Nat} (h : a < 9223372036854775808) : (gq_L a).toBitVec.toNat = a := by
  have e : gq_L (a : Int) = Int64.ofNat a := Int64.ofInt_eq_ofNat
  rw [e]
  show (BitVec.ofNat 64 a).toNat = a
  rw [BitVec.toNat_ofNat]
  exact Nat.mod_eq_of_lt (by omega)
theorem gm_shlN {a k : Nat} (hk : k < 64) (h : a * 2 ^ k < 9223372036854775808) : gq_L a <<< (gq_L k &&& gq_L 63) = gq_L (a * 2 ^ k : Nat) := by
  have h0 : a ≤ a * 2 ^ k := Nat.le_mul_of_pos_right a (Nat.two_pow_pos k)
  apply Int64.toBitVec_inj.mp
  apply BitVec.eq_of_toNat_eq
  rw [Int64.toBitVec_shiftLeft, BitVec.shiftLeft_eq', gm_amt k hk, BitVec.toNat_shiftLeft, gm_natL (by omega), gm_natL h, Nat.shiftLeft_eq]
  exact Nat.mod_eq_of_lt (by omega)
theorem gm_shrN {a k : Nat} (hk : k < 64) (h : a < 9223372036854775808) : gq_L a >>> (gq_L k &&& gq_L 63) = gq_L (a / 2 ^ k : Nat) := by
  have h0 : a / 2 ^ k ≤ a := Nat.div_le_self a (2 ^ k)
  obtain ⟨q, hq⟩ : ∃ q : Nat, q = a / 2 ^ k := ⟨_, rfl⟩
  rw [← hq] at h0 ⊢
  apply Int64.toInt_inj.mp
  rw [gq_LtoInt (a := (q : Int)) (by omega)]
  show ((gq_L a >>> (gq_L k &&& gq_L 63)).toBitVec).toInt = _
  rw [Int64.toBitVec_shiftRight, BitVec.sshiftRight_eq', gm_amt k hk, BitVec.toInt_sshiftRight]
  have e : (gq_L a).toBitVec.toInt = a := gq_LtoInt (a := (a : Int)) (by omega)
  rw [e, Int.shiftRight_eq_div_pow, hq]
  rfl
theorem gm_shl36 {a : Int} (h : 0 ≤ a ∧ a < 16777216) : gq_L a <<< (gq_L 36 &&& gq_L 63) = gq_L (a * 68719476736) := by
  obtain ⟨n, rfl⟩ : ∃ n : Nat, a = n := ⟨a.toNat, by omega⟩
  have e := gm_shlN (a := n) (k := 36) (by omega) (by omega)
  have e2 : ((n * 2 ^ 36 : Nat) : Int) = (n : Int) * 68719476736 := by omega
  rw [e2] at e
  exact e
theorem gm_shl6 {a : Int} (h : 0 ≤ a ∧ a < 1125899906842624) : gq_L a <<< (gq_L 6 &&& gq_L 63) = gq_L (a * 64) := by
  obtain ⟨n, rfl⟩ : ∃ n : Nat, a = n := ⟨a.toNat, by omega⟩
  have e := gm_shlN (a := n) (k := 6) (by omega) (by omega)
  have e2 : ((n * 2 ^ 6 : Nat) : Int) = (n : Int) * 64 := by omega
  rw [e2] at e
  exact e
theorem gm_shr36 {a : Int} (h : 0 ≤ a ∧ a < 9223372036854775808) : gq_L a >>> (gq_L 36 &&& gq_L 63) = gq_L (a / 68719476736) := by
  obtain ⟨n, rfl⟩ : ∃ n : Nat, a = n := ⟨a.toNat, by omega⟩
  have e := gm_shrN (a := n) (k := 36) (by omega) (by omega)
  have e2 : ((n / 2 ^ 36 : Nat) : Int) = (n : Int) / 68719476736 := by omega
  rw [e2] at e
  exact e
theorem gm_shr6 {a : Int} (h : 0 ≤ a ∧ a < 9223372036854775808) : gq_L a >>> (gq_L 6 &&& gq_L 63) = gq_L (a / 64) := by
  obtain ⟨n, rfl⟩ : ∃ n : Nat, a = n := ⟨a.toNat, by omega⟩
  have e := gm_shrN (a := n) (k := 6) (by omega) (by omega)
  have e2 : ((n / 2 ^ 6 : Nat) : Int) = (n : Int) / 64 := by omega
  rw [e2] at e
  exact e
/-- the place of a business in a row of first minutes -/
def ga_q (b : Nat) : Int := ((64 ^ (5 - b) : Nat) : Int)
theorem ga_q_b : ∀ b, b < 6 → 1 ≤ ga_q b ∧ ga_q b ≤ 1073741824 ∧ 2 ^ ((5 - b) * 6) = 64 ^ (5 - b) := by decide +kernel
theorem gm_rowE {b : Nat} (hb : b < 6) : ((f_X0_rowShift (gq_I b)) : Int32).toInt64 &&& gq_L 63 = (gq_L ((5 - b) * 6 : Nat) &&& gq_L 63) := by
  unfold f_X0_rowShift
  rw [gq_lit, gq_lit, gq_sub, gq_mul, show (OfNat.ofNat 5 : Int) = 5 from rfl, show (OfNat.ofNat 6 : Int) = 6 from rfl, gq_toL (by omega), show ((5 : Int) - b) * 6 = ((5 - b) * 6 : Nat) by omega]
theorem gm_rowL {m b : Nat} (hm : m < 64) (hb : b < 6) : gq_L m <<< (((f_X0_rowShift (gq_I b)) : Int32).toInt64 &&& gq_L 63) = gq_L (m * ga_q b) := by
  obtain ⟨q1, q2, q3⟩ := ga_q_b b hb
  have e0 : ((m * 64 ^ (5 - b) : Nat) : Int) = (m : Int) * ga_q b := Int.natCast_mul m (64 ^ (5 - b))
  have q4 : 64 ^ (5 - b) ≤ 1073741824 := by unfold ga_q at q2; omega
  have q5 : m * 64 ^ (5 - b) ≤ 64 * 1073741824 := Nat.mul_le_mul (by omega) q4
  rw [gm_rowE hb, gm_shlN (by omega) (by rw [q3]; omega), q3, e0]
theorem gm_rowR {a : Int} {b : Nat} (h : 0 ≤ a ∧ a < 9223372036854775808) (hb : b < 6) : gq_L a >>> (((f_X0_rowShift (gq_I b)) : Int32).toInt64 &&& gq_L 63) = gq_L (a / ga_q b) := by
  obtain ⟨q1, q2, q3⟩ := ga_q_b b hb
  obtain ⟨n, rfl⟩ : ∃ n : Nat, a = n := ⟨a.toNat, by omega⟩
  have e0 : ((n / 64 ^ (5 - b) : Nat) : Int) = (n : Int) / ga_q b := Int.natCast_ediv n (64 ^ (5 - b))
  rw [gm_rowE hb, gm_shrN (by omega) (by omega), q3, e0]
theorem gm_and63 {a : Int} (h : 0 ≤ a) : gq_I a &&& gq_I 63 = gq_I (a % 64) := by
  obtain ⟨n, rfl⟩ : ∃ n : Nat, a = n := ⟨a.toNat, by omega⟩
  have e : gq_I (n : Int) = Int32.ofNat n := Int32.ofInt_eq_ofNat
  have e3 : gq_I ((n : Int) % 64) = Int32.ofNat (n % 64) := Int32.ofInt_eq_ofNat (n := n % 64)
  have e2 : gq_I 63 = Int32.ofNat 63 := rfl
  rw [e, e2, e3]
  apply Int32.toBitVec_inj.mp
  apply BitVec.eq_of_toNat_eq
  rw [Int32.toBitVec_and, BitVec.toNat_and]
  show (BitVec.ofNat 32 n).toNat &&& (BitVec.ofNat 32 63).toNat = (BitVec.ofNat 32 (n % 64)).toNat
  rw [BitVec.toNat_ofNat, BitVec.toNat_ofNat, BitVec.toNat_ofNat]
  have := Nat.and_two_pow_sub_one_eq_mod (n % 2 ^ 32) 6
  rw [show 63 % 2 ^ 32 = 2 ^ 6 - 1 from rfl, this]
  omega
/-- far off: 2 ^ 60 -/
theorem gc_FL : (1152921504606846976 : Int64) = gq_L 1152921504606846976 := gq_Llit 1152921504606846976
theorem gc_36 : ((36 : Int32).toInt64 &&& 63) = (gq_L 36 &&& gq_L 63) := by decide +kernel
theorem gc_6 : ((6 : Int32).toInt64 &&& 63) = (gq_L 6 &&& gq_L 63) := by decide +kernel
theorem gc_costIn {v : Int} (h : 0 ≤ v ∧ v < 4611686018427387904) : f_X0_costIn (gq_L v) = if v < 1152921504606846976 then gq_I (v / 68719476736) else gq_I (-1) := by
  unfold f_X0_costIn
  rw [gc_FL, gc_36]
  by_cases g : v < 1152921504606846976
  · rw [if_pos g, if_neg (by rw [gq_Lle (by omega)]; omega), gm_shr36 (by omega), gq_toI]
  · rw [if_neg g, if_pos (by rw [gq_Lle (by omega)]; omega)]
    rfl
theorem gc_firstIn {v : Int} {b : Nat} (h : 0 ≤ v ∧ v < 4611686018427387904) (hb : b < 6) : f_X0_firstIn (gq_L v) (gq_I b) = if v < 1152921504606846976 then gq_I (v / ga_q b % 64) else gq_I (-1) := by
  obtain ⟨q1, q2, q3⟩ := ga_q_b b hb
  unfold f_X0_firstIn
  rw [gc_FL]
  by_cases g : v < 1152921504606846976
  · rw [if_pos g, if_neg (by rw [gq_Lle (by omega)]; omega), show (63 : Int64) = gq_L 63 from rfl, gm_rowR (by omega) hb, gq_toI, show (63 : Int32) = gq_I 63 from rfl, gm_and63 (Int.ediv_nonneg h.1 (by omega))]
  · rw [if_neg g, if_pos (by rw [gq_Lle (by omega)]; omega)]
    rfl
