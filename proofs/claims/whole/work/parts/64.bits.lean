/-! how many bits -/
def gm_cnt (b : Nat → Bool) : Nat → Nat
  | 0 => 0
  | n + 1 => gm_cnt b n + (b n).toNat
theorem gm_cnt_split (b : Nat → Bool) (i : Nat) : ∀ n, gm_cnt b (i + n) = gm_cnt b i + gm_cnt (fun j => b (i + j)) n
  | 0 => rfl
  | n + 1 => by
    show gm_cnt b (i + n) + (b (i + n)).toNat = gm_cnt b i + (gm_cnt (fun j => b (i + j)) n + (b (i + n)).toNat)
    rw [gm_cnt_split b i n]
    omega
theorem gm_cnt_ext {b c : Nat → Bool} : ∀ {n : Nat}, (∀ j, j < n → b j = c j) → gm_cnt b n = gm_cnt c n
  | 0, _ => rfl
  | n + 1, h => by
    show gm_cnt b n + (b n).toNat = gm_cnt c n + (c n).toNat
    rw [gm_cnt_ext fun j hj => h j (by omega), h n (by omega)]
theorem gm_cnt_0 {b : Nat → Bool} : ∀ {n : Nat}, (∀ j, j < n → b j = false) → gm_cnt b n = 0
  | 0, _ => rfl
  | n + 1, h => by
    show gm_cnt b n + (b n).toNat = 0
    rw [gm_cnt_0 fun j hj => h j (by omega), h n (by omega)]
    rfl
theorem gm_cnt_le (b : Nat → Bool) : ∀ n, gm_cnt b n ≤ n
  | 0 => Nat.le_refl 0
  | n + 1 => by
    have := gm_cnt_le b n
    have h2 : (b n).toNat ≤ 1 := by cases b n <;> decide
    show gm_cnt b n + (b n).toNat ≤ n + 1
    omega
theorem gm_cnt_tail {b : Nat → Bool} {i n : Nat} (h : ∀ j, i ≤ j → j < i + n → b j = false) : gm_cnt b (i + n) = gm_cnt b i := by
  rw [gm_cnt_split, gm_cnt_0 (b := fun j => b (i + j)) fun j hj => h (i + j) (by omega) (by omega)]
  rfl
def gm_K (c : Nat) : Nat → Nat
  | 0 => 0
  | n + 1 => c + 256 * gm_K c n
theorem gm_land (x y : Nat) : x &&& y = (x % 256 &&& y % 256) + 256 * (x / 256 &&& y / 256) := by
  have h1 := Nat.and_div_two_pow (a := x) (b := y) (n := 8)
  have h2 := Nat.and_mod_two_pow (a := x) (b := y) (n := 8)
  rw [show 2 ^ 8 = 256 from rfl] at h1 h2
  omega
theorem gm_land2 {a b c d : Nat} (ha : a < 256) (hc : c < 256) : (a + 256 * b) &&& (c + 256 * d) = (a &&& c) + 256 * (b &&& d) := by
  rw [gm_land, show (a + 256 * b) % 256 = a by omega, show (a + 256 * b) / 256 = b by omega, show (c + 256 * d) % 256 = c by omega, show (c + 256 * d) / 256 = d by omega]
def gm_p1 (a : Nat) : Nat := a - (a / 2 &&& 85)
def gm_p2 (a : Nat) : Nat := (a &&& 51) + (a / 4 &&& 51)
def gm_p3 (a : Nat) : Nat := (a + a / 16) &&& 15
def gm_P1 (n v : Nat) : Nat := v - (v / 2 &&& gm_K 85 n)
def gm_P2 (n v : Nat) : Nat := (v &&& gm_K 51 n) + (v / 4 &&& gm_K 51 n)
def gm_P3 (n v : Nat) : Nat := (v + v / 16) &&& gm_K 15 n
theorem gm_d1 : ∀ a, a < 256 → ∀ e, e < 2 → (a / 2 + 128 * e) &&& 85 = a / 2 &&& 85 := by decide +kernel
theorem gm_d2 : ∀ a, a < 256 → ∀ e, e < 4 → (a / 4 + 64 * e) &&& 51 = a / 4 &&& 51 := by decide +kernel
theorem gm_d3 : ∀ a, a < 69 → ∀ e, e < 7 → (a + a / 16 + 16 * e) &&& 15 = (a + a / 16) &&& 15 := by decide +kernel
theorem gm_d4 : ∀ a, a < 256 → gm_p1 a < 256 ∧ gm_p2 (gm_p1 a) < 69 ∧ gm_p2 a < 256 ∧ gm_p2 a % 16 < 7 ∧ gm_p3 (gm_p2 (gm_p1 a)) = gm_cnt (fun j => a.testBit j) 8 := by decide +kernel
theorem gm_s1 {n a b : Nat} (ha : a < 256) : gm_P1 (n + 1) (a + 256 * b) = gm_p1 a + 256 * gm_P1 n b := by
  have e : (a + 256 * b) / 2 = (a / 2 + 128 * (b % 2)) + 256 * (b / 2) := by omega
  have h1 : (a / 2 &&& 85) ≤ a / 2 := Nat.and_le_left
  have h2 : (b / 2 &&& gm_K 85 n) ≤ b / 2 := Nat.and_le_left
  unfold gm_P1 gm_p1
  rw [e, show gm_K 85 (n + 1) = 85 + 256 * gm_K 85 n from rfl, gm_land2 (by omega) (by omega), gm_d1 a ha _ (by omega)]
  omega
theorem gm_s2 {n a b : Nat} (ha : a < 256) : gm_P2 (n + 1) (a + 256 * b) = gm_p2 a + 256 * gm_P2 n b := by
  have e : (a + 256 * b) / 4 = (a / 4 + 64 * (b % 4)) + 256 * (b / 4) := by omega
  unfold gm_P2 gm_p2
  rw [e, show gm_K 51 (n + 1) = 51 + 256 * gm_K 51 n from rfl, gm_land2 (by omega) (by omega), gm_land2 (by omega) (by omega), gm_d2 a ha _ (by omega)]
  omega
theorem gm_s3 {n a b : Nat} (ha : a < 69) (hb : b % 16 < 7) : gm_P3 (n + 1) (a + 256 * b) = gm_p3 a + 256 * gm_P3 n b := by
  have e : (a + 256 * b) + (a + 256 * b) / 16 = (a + a / 16 + 16 * (b % 16)) + 256 * (b + b / 16) := by omega
  unfold gm_P3 gm_p3
  rw [e, show gm_K 15 (n + 1) = 15 + 256 * gm_K 15 n from rfl, gm_land2 (by omega) (by omega), gm_d3 a ha _ hb]
theorem gm_P2m (n v : Nat) : gm_P2 n v % 16 < 7 := by
  cases n with
  | zero =>
    unfold gm_P2 gm_K
    rw [Nat.and_zero, Nat.and_zero]
    decide
  | succ n =>
    have h := gm_d4 (v % 256) (by omega)
    rw [show v = v % 256 + 256 * (v / 256) by omega, gm_s2 (by omega)]
    omega
/-- the three steps within the bytes -/
def gm_Q (n v : Nat) : Nat := gm_P3 n (gm_P2 n (gm_P1 n v))
theorem gm_Qs {n a b : Nat} (ha : a < 256) : gm_Q (n + 1) (a + 256 * b) = gm_cnt (fun j => a.testBit j) 8 + 256 * gm_Q n b := by
  obtain ⟨h1, h2, h3, h4, h5⟩ := gm_d4 a ha
  unfold gm_Q
  rw [gm_s1 ha, gm_s2 h1, gm_s3 h2 (gm_P2m _ _), h5]
/-- the bytes' counts, one behind the other -/
def gm_S (f : Nat → Nat) : Nat → Nat
  | 0 => 0
  | n + 1 => f 0 + 256 * gm_S (fun i => f (i + 1)) n
theorem gm_QS : ∀ (n v : Nat), v < 256 ^ n → gm_Q n v = gm_S (fun i => gm_cnt (fun j => v.testBit (8 * i + j)) 8) n
  | 0, v, _ => by
    unfold gm_Q gm_P3 gm_K
    rw [Nat.and_zero]
    rfl
  | n + 1, v, h => by
    have hv : v / 256 < 256 ^ n := by
      rw [Nat.pow_succ] at h
      exact Nat.div_lt_of_lt_mul (by rw [Nat.mul_comm]; exact h)
    have ih := gm_QS n (v / 256) hv
    have e1 : gm_Q (n + 1) v = gm_cnt (fun j => (v % 256).testBit j) 8 + 256 * gm_Q n (v / 256) := by
      have := gm_Qs (n := n) (a := v % 256) (b := v / 256) (by omega)
      rw [show v % 256 + 256 * (v / 256) = v by omega] at this
      exact this
    rw [e1, ih]
    have e2 : gm_cnt (fun j => (v % 256).testBit j) 8 = gm_cnt (fun j => v.testBit (8 * 0 + j)) 8 := gm_cnt_ext fun j hj => by
      show (v % 256).testBit j = v.testBit (8 * 0 + j)
      rw [show 256 = 2 ^ 8 from rfl, Nat.testBit_mod_two_pow, decide_eq_true hj, Bool.true_and, show 8 * 0 + j = j by omega]
    have e3 : (fun i => gm_cnt (fun j => (v / 256).testBit (8 * i + j)) 8) = fun i => gm_cnt (fun j => v.testBit (8 * (i + 1) + j)) 8 := by
      funext i
      refine gm_cnt_ext fun j hj => ?_
      show (v / 256).testBit (8 * i + j) = v.testBit (8 * (i + 1) + j)
      rw [show 256 = 2 ^ 8 from rfl, Nat.testBit_div_two_pow, show 8 * i + j + 8 = 8 * (i + 1) + j by omega]
    show _ = gm_cnt (fun j => v.testBit (8 * 0 + j)) 8 + 256 * gm_S (fun i => gm_cnt (fun j => v.testBit (8 * (i + 1) + j)) 8) n
    rw [e2, e3]
theorem gm_dv {p q r : Nat} (h : p = q + 256 * r) (hq : q < 256) : p / 256 = r := by omega
theorem gm_ad {p q r p' q' r' : Nat} (h : p = q + 256 * r) (h2 : p' = q' + 256 * r') : p + p' = (q + q') + 256 * (r + r') := by omega
theorem gm_md {p q r : Nat} (h : p = q + 256 * r) (hq : q < 128) : p % 128 = q := by omega
theorem gm_up {p q r B : Nat} (h : p = q + 256 * r) (hq : q ≤ 8) (hr : r ≤ B) : p ≤ 8 + 256 * B := by omega
theorem gm_d2' (x : Nat) : x / 65536 = x / 256 / 256 := by omega
theorem gm_d4' (x : Nat) : x / 4294967296 = x / 256 / 256 / 256 / 256 := by omega
theorem gm_l1 {a : Nat} (h : a ≤ 8) : a < 256 := by omega
theorem gm_l2 {a b : Nat} (h : a ≤ 8) (h2 : b ≤ 8) : a + b < 256 := by omega
theorem gm_l4 {a b c d : Nat} (h : a ≤ 8) (h2 : b ≤ 8) (h3 : c ≤ 8) (h4 : d ≤ 8) : a + b + (c + d) < 256 := by omega
theorem gm_l8 {a b c d e f g i : Nat} (h : a ≤ 8) (h2 : b ≤ 8) (h3 : c ≤ 8) (h4 : d ≤ 8) (h5 : e ≤ 8) (h6 : f ≤ 8) (h7 : g ≤ 8) (h8 : i ≤ 8) : a + b + (c + d) + (e + f + (g + i)) < 128 := by omega
theorem gm_w2 {a b : Nat} (h : a ≤ 600000000000000000) (h2 : b ≤ 600000000000000000) : a + b < 18446744073709551616 := by omega
theorem gm_w4 {a b c d : Nat} (h : a ≤ 600000000000000000) (h2 : b ≤ 600000000000000000) (h3 : c ≤ 600000000000000000) (h4 : d ≤ 600000000000000000) : a + b + (c + d) < 18446744073709551616 := by omega
theorem gm_w8 {a b c d e f g i : Nat} (h : a ≤ 600000000000000000) (h2 : b ≤ 600000000000000000) (h3 : c ≤ 600000000000000000) (h4 : d ≤ 600000000000000000) (h5 : e ≤ 600000000000000000) (h6 : f ≤ 600000000000000000) (h7 : g ≤ 600000000000000000) (h8 : i ≤ 600000000000000000) : a + b + (c + d) + (e + f + (g + i)) < 18446744073709551616 := by omega
theorem gm_sum {f : Nat → Nat} (h : ∀ i, i < 8 → f i ≤ 8) : (gm_S f 8 + gm_S f 8 / 256) < 18446744073709551616 ∧ ∀ x4 x5 x6, x4 = gm_S f 8 + gm_S f 8 / 256 → x5 = x4 + x4 / 65536 → x6 = x5 + x5 / 4294967296 → (x5 < 18446744073709551616 ∧ x6 < 18446744073709551616 ∧ x6 % 128 = f 0 + f 1 + (f 2 + f 3) + (f 4 + f 5 + (f 6 + f 7))) := by
  have h0 := h 0 (by omega)
  have h1 := h 1 (by omega)
  have h2 := h 2 (by omega)
  have h3 := h 3 (by omega)
  have h4 := h 4 (by omega)
  have h5 := h 5 (by omega)
  have h6 := h 6 (by omega)
  have h7 := h 7 (by omega)
  clear h
  obtain ⟨s0, d0⟩ : ∃ s, s = gm_S f 8 := ⟨_, rfl⟩
  obtain ⟨s1, d1⟩ : ∃ s, s = gm_S (fun i => f (i + 1)) 7 := ⟨_, rfl⟩
  obtain ⟨s2, d2⟩ : ∃ s, s = gm_S (fun i => f (i + 1 + 1)) 6 := ⟨_, rfl⟩
  obtain ⟨s3, d3⟩ : ∃ s, s = gm_S (fun i => f (i + 1 + 1 + 1)) 5 := ⟨_, rfl⟩
  obtain ⟨s4, d4⟩ : ∃ s, s = gm_S (fun i => f (i + 1 + 1 + 1 + 1)) 4 := ⟨_, rfl⟩
  obtain ⟨s5, d5⟩ : ∃ s, s = gm_S (fun i => f (i + 1 + 1 + 1 + 1 + 1)) 3 := ⟨_, rfl⟩
  obtain ⟨s6, d6⟩ : ∃ s, s = gm_S (fun i => f (i + 1 + 1 + 1 + 1 + 1 + 1)) 2 := ⟨_, rfl⟩
  obtain ⟨s7, d7⟩ : ∃ s, s = gm_S (fun i => f (i + 1 + 1 + 1 + 1 + 1 + 1 + 1)) 1 := ⟨_, rfl⟩
  have e0 : s0 = f 0 + 256 * s1 := by rw [d0, d1]; rfl
  have e1 : s1 = f 1 + 256 * s2 := by rw [d1, d2]; rfl
  have e2 : s2 = f 2 + 256 * s3 := by rw [d2, d3]; rfl
  have e3 : s3 = f 3 + 256 * s4 := by rw [d3, d4]; rfl
  have e4 : s4 = f 4 + 256 * s5 := by rw [d4, d5]; rfl
  have e5 : s5 = f 5 + 256 * s6 := by rw [d5, d6]; rfl
  have e6 : s6 = f 6 + 256 * s7 := by rw [d6, d7]; rfl
  have e7 : s7 = f 7 + 256 * 0 := by rw [d7]; rfl
  have e8 : 0 = 0 + 256 * 0 := rfl
  rw [← d0]
  clear d0 d1 d2 d3 d4 d5 d6 d7
  have b7 := gm_up e7 h7 (Nat.le_refl 0)
  have b6 := gm_up e6 h6 b7
  have b5 := gm_up e5 h5 b6
  have b4 := gm_up e4 h4 b5
  have b3 := gm_up e3 h3 b4
  have b2 := gm_up e2 h2 b3
  have b1 := gm_up e1 h1 b2
  have b0 := gm_up e0 h0 b1
  have t0 := gm_ad e0 e1
  have t1 := gm_ad e1 e2
  have t2 := gm_ad e2 e3
  have t3 := gm_ad e3 e4
  have t4 := gm_ad e4 e5
  have t5 := gm_ad e5 e6
  have t6 := gm_ad e6 e7
  have t7 := gm_ad e7 e8
  have u0 := gm_ad t0 t2
  have u1 := gm_ad t1 t3
  have u2 := gm_ad t2 t4
  have u3 := gm_ad t3 t5
  have u4 := gm_ad t4 t6
  have c1 : s0 / 256 = s1 := gm_dv e0 (gm_l1 h0)
  have c2 : (s0 + s1) / 65536 = s2 + s3 := by
    rw [gm_d2', gm_dv t0 (gm_l2 h0 h1), gm_dv t1 (gm_l2 h1 h2)]
  have c3 : (s0 + s1 + (s2 + s3)) / 4294967296 = s4 + s5 + (s6 + s7) := by
    rw [gm_d4', gm_dv u0 (gm_l4 h0 h1 h2 h3), gm_dv u1 (gm_l4 h1 h2 h3 h4), gm_dv u2 (gm_l4 h2 h3 h4 h5), gm_dv u3 (gm_l4 h3 h4 h5 h6)]
  have c4 := gm_md (gm_ad u0 u4) (gm_l8 h0 h1 h2 h3 h4 h5 h6 h7)
  rw [c1]
  have w0 : s0 ≤ 600000000000000000 := Nat.le_trans b0 (by decide)
  have w1 : s1 ≤ 600000000000000000 := Nat.le_trans b1 (by decide)
  have w2 : s2 ≤ 600000000000000000 := Nat.le_trans b2 (by decide)
  have w3 : s3 ≤ 600000000000000000 := Nat.le_trans b3 (by decide)
  have w4 : s4 ≤ 600000000000000000 := Nat.le_trans b4 (by decide)
  have w5 : s5 ≤ 600000000000000000 := Nat.le_trans b5 (by decide)
  have w6 : s6 ≤ 600000000000000000 := Nat.le_trans b6 (by decide)
  have w7 : s7 ≤ 600000000000000000 := Nat.le_trans b7 (by decide)
  refine ⟨gm_w2 w0 w1, ?_⟩
  intro x4 x5 x6 g4 g5 g6
  subst g4
  rw [c2] at g5
  subst g5
  rw [c3] at g6
  subst g6
  exact ⟨gm_w4 w0 w1 w2 w3, gm_w8 w0 w1 w2 w3 w4 w5 w6 w7, c4⟩
def gm_u (x : Int64) : Nat := x.toBitVec.toNat
theorem gm_u_lt (x : Int64) : gm_u x < 18446744073709551616 := x.toBitVec.isLt
theorem gm_u_b (x : Int64) (j : Nat) : (gm_u x).testBit j = gm_b x j := rfl
theorem gm_u_add (x y : Int64) (h : gm_u x + gm_u y < 18446744073709551616) : gm_u (x + y) = gm_u x + gm_u y := by
  unfold gm_u at h ⊢
  rw [Int64.toBitVec_add, BitVec.toNat_add]
  exact Nat.mod_eq_of_lt h
theorem gm_u_sub (x y : Int64) (h : gm_u y ≤ gm_u x) : gm_u (x - y) = gm_u x - gm_u y := by
  have hx := gm_u_lt x
  unfold gm_u at h hx ⊢
  rw [Int64.toBitVec_sub, BitVec.toNat_sub]
  rw [show 2 ^ 64 = 18446744073709551616 from rfl]
  omega
theorem gm_u_and (x y : Int64) : gm_u (x &&& y) = gm_u x &&& gm_u y := by
  unfold gm_u
  rw [Int64.toBitVec_and, BitVec.toNat_and]
theorem gm_u_sr (x : Int64) (k : UInt64) (n : Nat) (h : k.toNat % 64 = n) : gm_u ((x.toUInt64 >>> k).toInt64) = gm_u x / 2 ^ n := by
  show (x.toUInt64 >>> k).toNat = _
  rw [UInt64.toNat_shiftRight, h, Nat.shiftRight_eq_div_pow]
  rfl
theorem gm_u_c (n : Nat) (h : n < 18446744073709551616) : gm_u (OfNat.ofNat n) = n := Nat.mod_eq_of_lt h
theorem gm_bitCount (x : Int64) : f_J13_bitCount_95d88 x = gq_I (gm_cnt (gm_b x) 64) := by
  obtain ⟨v, hv⟩ : ∃ v, v = gm_u x := ⟨_, rfl⟩
  have hl := gm_u_lt x
  rw [← hv] at hl
  unfold f_J13_bitCount_95d88
  simp only [gq_lte]
  obtain ⟨x1, e1⟩ : ∃ x1, x1 = x - ((((x).toUInt64 >>> ((1 : Int32).toInt64.toUInt64 &&& Int64.toUInt64 63)).toInt64) &&& 6148914691236517205) := ⟨_, rfl⟩
  rw [← e1]
  obtain ⟨x2, e2⟩ : ∃ x2, x2 = (x1 &&& 3689348814741910323) + ((((x1).toUInt64 >>> ((2 : Int32).toInt64.toUInt64 &&& Int64.toUInt64 63)).toInt64) &&& 3689348814741910323) := ⟨_, rfl⟩
  rw [← e2]
  obtain ⟨x3, e3⟩ : ∃ x3, x3 = (x2 + (((x2).toUInt64 >>> ((4 : Int32).toInt64.toUInt64 &&& Int64.toUInt64 63)).toInt64)) &&& 1085102592571150095 := ⟨_, rfl⟩
  rw [← e3]
  obtain ⟨x4, e4⟩ : ∃ x4, x4 = x3 + (((x3).toUInt64 >>> ((8 : Int32).toInt64.toUInt64 &&& Int64.toUInt64 63)).toInt64) := ⟨_, rfl⟩
  rw [← e4]
  obtain ⟨x5, e5⟩ : ∃ x5, x5 = x4 + (((x4).toUInt64 >>> ((16 : Int32).toInt64.toUInt64 &&& Int64.toUInt64 63)).toInt64) := ⟨_, rfl⟩
  rw [← e5]
  obtain ⟨x6, e6⟩ : ∃ x6, x6 = x5 + (((x5).toUInt64 >>> ((32 : Int32).toInt64.toUInt64 &&& Int64.toUInt64 63)).toInt64) := ⟨_, rfl⟩
  rw [← e6]
  have c85 : gm_u 6148914691236517205 = gm_K 85 8 := rfl
  have c51 : gm_u 3689348814741910323 = gm_K 51 8 := rfl
  have c15 : gm_u 1085102592571150095 = gm_K 15 8 := rfl
  have s1 := gm_u_sr x ((1 : Int32).toInt64.toUInt64 &&& Int64.toUInt64 63) 1 (by decide)
  have u1 : gm_u x1 = gm_P1 8 v := by
    have hle : gm_u ((((x).toUInt64 >>> ((1 : Int32).toInt64.toUInt64 &&& Int64.toUInt64 63)).toInt64) &&& 6148914691236517205) ≤ gm_u x := by
      rw [gm_u_and, s1]
      exact Nat.le_trans Nat.and_le_left (Nat.div_le_self _ _)
    rw [e1, gm_u_sub _ _ hle, gm_u_and, s1, c85, ← hv]
    rfl
  have s2 := gm_u_sr x1 ((2 : Int32).toInt64.toUInt64 &&& Int64.toUInt64 63) 2 (by decide)
  have b51 : gm_K 51 8 = 3689348814741910323 := rfl
  have u2 : gm_u x2 = gm_P2 8 (gm_P1 8 v) := by
    have g1 : (gm_u x1 &&& gm_K 51 8) ≤ gm_K 51 8 := Nat.and_le_right
    have g2 : (gm_u x1 / 2 ^ 2 &&& gm_K 51 8) ≤ gm_K 51 8 := Nat.and_le_right
    rw [b51] at g1 g2
    rw [e2, gm_u_add _ _ (by rw [gm_u_and, gm_u_and, s2, c51, b51]; omega), gm_u_and, gm_u_and, s2, c51, u1]
    rfl
  have s3 := gm_u_sr x2 ((4 : Int32).toInt64.toUInt64 &&& Int64.toUInt64 63) 4 (by decide)
  have hq : gm_Q 8 v = gm_P3 8 (gm_P2 8 (gm_P1 8 v)) := rfl
  have u3 : gm_u x3 = gm_Q 8 v := by
    have g1 : gm_u x2 ≤ 7378697629483820646 := by
      rw [u2]
      have g1 : (gm_P1 8 v &&& gm_K 51 8) ≤ gm_K 51 8 := Nat.and_le_right
      have g2 : (gm_P1 8 v / 4 &&& gm_K 51 8) ≤ gm_K 51 8 := Nat.and_le_right
      rw [b51] at g1 g2
      unfold gm_P2
      rw [b51]
      omega
    rw [e3, gm_u_and, gm_u_add _ _ (by rw [s3]; omega), s3, c15, hq, u2]
    rfl
  have hs := gm_QS 8 v (by rw [show 256 ^ 8 = 18446744073709551616 from rfl]; exact hl)
  obtain ⟨F, hF⟩ : ∃ F : Nat → Nat, F = fun i => gm_cnt (fun j => v.testBit (8 * i + j)) 8 := ⟨_, rfl⟩
  rw [← hF] at hs
  obtain ⟨t2, t3⟩ := gm_sum (f := F) (fun i _ => by rw [hF]; exact gm_cnt_le _ 8)
  obtain ⟨t4, t5, t6⟩ := t3 _ _ _ rfl rfl rfl
  rw [← hs] at t2 t4 t5 t6
  have s4 := gm_u_sr x3 ((8 : Int32).toInt64.toUInt64 &&& Int64.toUInt64 63) 8 (by decide)
  have u4 : gm_u x4 = gm_Q 8 v + gm_Q 8 v / 256 := by
    rw [e4, gm_u_add _ _ (by rw [s4, u3]; exact t2), s4, u3]
  have s5 := gm_u_sr x4 ((16 : Int32).toInt64.toUInt64 &&& Int64.toUInt64 63) 16 (by decide)
  have u5 : gm_u x5 = gm_Q 8 v + gm_Q 8 v / 256 + (gm_Q 8 v + gm_Q 8 v / 256) / 65536 := by
    rw [e5, gm_u_add _ _ (by rw [s5, u4]; exact t4), s5, u4]
  have s6 := gm_u_sr x5 ((32 : Int32).toInt64.toUInt64 &&& Int64.toUInt64 63) 32 (by decide)
  have u6 : gm_u x6 % 128 = F 0 + F 1 + (F 2 + F 3) + (F 4 + F 5 + (F 6 + F 7)) := by
    rw [e6, gm_u_add _ _ (by rw [s6, u5]; exact t5), s6, u5]
    exact t6
  have all : gm_cnt (gm_b x) 64 = F 0 + F 1 + (F 2 + F 3) + (F 4 + F 5 + (F 6 + F 7)) := by
    have st : ∀ i, gm_cnt (gm_b x) (8 * i + 8) = gm_cnt (gm_b x) (8 * i) + F i := fun i => by
      rw [gm_cnt_split, hF, hv]
      rfl
    have r0 := st 0
    have r1 := st 1
    have r2 := st 2
    have r3 := st 3
    have r4 := st 4
    have r5 := st 5
    have r6 := st 6
    have r7 := st 7
    have z : gm_cnt (gm_b x) (8 * 0) = 0 := rfl
    rw [show 8 * 1 = 8 * 0 + 8 from rfl] at r1
    rw [show 8 * 2 = 8 * 0 + 8 + 8 from rfl] at r2
    rw [show 8 * 3 = 8 * 0 + 8 + 8 + 8 from rfl] at r3
    rw [show 8 * 4 = 8 * 0 + 8 + 8 + 8 + 8 from rfl] at r4
    rw [show 8 * 5 = 8 * 0 + 8 + 8 + 8 + 8 + 8 from rfl] at r5
    rw [show 8 * 6 = 8 * 0 + 8 + 8 + 8 + 8 + 8 + 8 from rfl] at r6
    rw [show 8 * 7 = 8 * 0 + 8 + 8 + 8 + 8 + 8 + 8 + 8 from rfl] at r7
    show gm_cnt (gm_b x) (8 * 0 + 8 + 8 + 8 + 8 + 8 + 8 + 8 + 8) = _
    omega
  have hle := gm_cnt_le (gm_b x) 64
  rw [← Int32.toBitVec_inj]
  have i1 : ((x6 : Int64).toInt32 &&& 127 : Int32).toBitVec.toNat = gm_u x6 % 128 := by
    rw [Int32.toBitVec_and, BitVec.toNat_and]
    have w1 : (x6.toInt32).toBitVec.toNat = gm_u x6 % 4294967296 := by
      obtain ⟨n, hn⟩ : ∃ n, n = gm_u x6 := ⟨_, rfl⟩
      have hn2 := gm_u_lt x6
      rw [← hn] at hn2 ⊢
      have hx : x6 = gq_L (n : Int) := by
        rw [← Int64.toBitVec_inj]
        refine BitVec.eq_of_toNat_eq ?_
        show x6.toBitVec.toNat = (BitVec.ofInt 64 (n : Int)).toNat
        rw [BitVec.toNat_ofInt]
        show gm_u x6 = _
        omega
      rw [hx, gq_toI]
      show (BitVec.ofInt 32 (n : Int)).toNat = _
      rw [BitVec.toNat_ofInt]
      omega
    rw [w1, show (127 : Int32).toBitVec.toNat = 2 ^ 7 - 1 from rfl, Nat.and_two_pow_sub_one_eq_mod]
    omega
  refine BitVec.eq_of_toNat_eq ?_
  rw [i1, u6, ← all]
  obtain ⟨c, hc⟩ : ∃ c, c = gm_cnt (gm_b x) 64 := ⟨_, rfl⟩
  rw [← hc] at hle ⊢
  have key : ∀ c, c ≤ 64 → c = (gq_I (c : Nat)).toBitVec.toNat := by decide +kernel
  exact key c hle
