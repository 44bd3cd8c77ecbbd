/-! the pure part: numbers, memory, rows of small steps -/
def gq_I (z : Int) : Int32 := Int32.ofInt z
def gq_L (z : Int) : Int64 := Int64.ofInt z
theorem gq_lit (n : Nat) : (OfNat.ofNat n : Int32) = gq_I (OfNat.ofNat n) := (Int32.ofInt_eq_ofNat (n := n)).symm
theorem gq_Llit (n : Nat) : (OfNat.ofNat n : Int64) = gq_L (OfNat.ofNat n) := (Int64.ofInt_eq_ofNat (n := n)).symm
theorem gq_oN (n : Nat) : Int32.ofNat n = gq_I n := (Int32.ofInt_eq_ofNat (n := n)).symm
theorem gq_neg (a : Int) : -gq_I a = gq_I (-a) := (Int32.ofInt_neg a).symm
theorem gq_Lneg (a : Int) : -gq_L a = gq_L (-a) := (Int64.ofInt_neg a).symm
theorem gq_add (a b : Int) : gq_I a + gq_I b = gq_I (a + b) := (Int32.ofInt_add a b).symm
theorem gq_sub (a b : Int) : gq_I a - gq_I b = gq_I (a - b) := (Int32.ofInt_sub a b).symm
theorem gq_mul (a b : Int) : gq_I a * gq_I b = gq_I (a * b) := (Int32.ofInt_mul a b).symm
theorem gq_Ladd (a b : Int) : gq_L a + gq_L b = gq_L (a + b) := (Int64.ofInt_add a b).symm
theorem gq_Lsub (a b : Int) : gq_L a - gq_L b = gq_L (a - b) := (Int64.ofInt_sub a b).symm
theorem gq_Lmul (a b : Int) : gq_L a * gq_L b = gq_L (a * b) := (Int64.ofInt_mul a b).symm
theorem gq_toInt {a : Int} (h : -2147483648 ≤ a ∧ a < 2147483648) : (gq_I a).toInt = a := Int32.toInt_ofInt_of_le h.1 h.2
theorem gq_LtoInt {a : Int} (h : -9223372036854775808 ≤ a ∧ a < 9223372036854775808) : (gq_L a).toInt = a := Int64.toInt_ofInt_of_le h.1 h.2
theorem gq_of (x : Int32) : gq_I x.toInt = x := Int32.ofInt_toInt x
theorem gq_rng (x : Int32) : -2147483648 ≤ x.toInt ∧ x.toInt < 2147483648 := ⟨x.le_toInt, x.toInt_lt⟩
theorem gq_le {a b : Int} (h : (-2147483648 ≤ a ∧ a < 2147483648) ∧ -2147483648 ≤ b ∧ b < 2147483648) : (gq_I a ≤ gq_I b) = (a ≤ b) := by
  rw [Int32.le_iff_toInt_le, gq_toInt h.1, gq_toInt h.2]
theorem gq_lt {a b : Int} (h : (-2147483648 ≤ a ∧ a < 2147483648) ∧ -2147483648 ≤ b ∧ b < 2147483648) : (gq_I a < gq_I b) = (a < b) := by
  rw [Int32.lt_iff_toInt_lt, gq_toInt h.1, gq_toInt h.2]
theorem gq_eq {a b : Int} (h : (-2147483648 ≤ a ∧ a < 2147483648) ∧ -2147483648 ≤ b ∧ b < 2147483648) : (gq_I a = gq_I b) = (a = b) := by
  rw [← Int32.toInt_inj, gq_toInt h.1, gq_toInt h.2]
theorem gq_Lle {a b : Int} (h : (-9223372036854775808 ≤ a ∧ a < 9223372036854775808) ∧ -9223372036854775808 ≤ b ∧ b < 9223372036854775808) : (gq_L a ≤ gq_L b) = (a ≤ b) := by
  rw [Int64.le_iff_toInt_le, gq_LtoInt h.1, gq_LtoInt h.2]
theorem gq_Llt {a b : Int} (h : (-9223372036854775808 ≤ a ∧ a < 9223372036854775808) ∧ -9223372036854775808 ≤ b ∧ b < 9223372036854775808) : (gq_L a < gq_L b) = (a < b) := by
  rw [Int64.lt_iff_toInt_lt, gq_LtoInt h.1, gq_LtoInt h.2]
theorem gq_Leq {a b : Int} (h : (-9223372036854775808 ≤ a ∧ a < 9223372036854775808) ∧ -9223372036854775808 ≤ b ∧ b < 9223372036854775808) : (gq_L a = gq_L b) = (a = b) := by
  rw [← Int64.toInt_inj, gq_LtoInt h.1, gq_LtoInt h.2]
/-- conditions that the context decides -/
theorem gq_leT {a b : Int} (h : (-2147483648 ≤ a ∧ b < 2147483648) ∧ a ≤ b) : (gq_I a ≤ gq_I b) = True := by
  rw [gq_le (by omega)]; exact eq_true h.2
theorem gq_leF {a b : Int} (h : (-2147483648 ≤ b ∧ a < 2147483648) ∧ b < a) : (gq_I a ≤ gq_I b) = False := by
  rw [gq_le (by omega)]; exact eq_false (by omega)
theorem gq_ltT {a b : Int} (h : (-2147483648 ≤ a ∧ b < 2147483648) ∧ a < b) : (gq_I a < gq_I b) = True := by
  rw [gq_lt (by omega)]; exact eq_true h.2
theorem gq_ltF {a b : Int} (h : (-2147483648 ≤ b ∧ a < 2147483648) ∧ b ≤ a) : (gq_I a < gq_I b) = False := by
  rw [gq_lt (by omega)]; exact eq_false (by omega)
theorem gq_eqT {a b : Int} (h : a = b) : (gq_I a = gq_I b) = True := by rw [h]; exact eq_true rfl
theorem gq_eqF {a b : Int} (h : ((-2147483648 ≤ a ∧ a < 2147483648) ∧ -2147483648 ≤ b ∧ b < 2147483648) ∧ a ≠ b) : (gq_I a = gq_I b) = False := by
  rw [gq_eq h.1]; exact eq_false h.2
theorem gq_ifT {c : Prop} [Decidable c] {α : Type} {x y : α} (h : c) : (if c then x else y) = x := if_pos h
theorem gq_ifF {c : Prop} [Decidable c] {α : Type} {x y : α} (h : ¬ c) : (if c then x else y) = y := if_neg h
theorem gq_nat {a : Int} (h : 0 ≤ a ∧ a < 2147483648) : (gq_I a).toNatClampNeg = a.toNat := by
  show (gq_I a).toInt.toNat = _
  rw [gq_toInt (by omega)]
theorem gq_tadd {a b : Int} (h : 0 ≤ a ∧ 0 ≤ b) : (a + b).toNat = a.toNat + b.toNat := Int.toNat_add h.1 h.2
theorem gq_tmul {a b : Int} (h : 0 ≤ a ∧ 0 ≤ b) : (a * b).toNat = a.toNat * b.toNat := Int.toNat_mul h.1 h.2
theorem gq_tsub {a b : Int} (h : 0 ≤ a ∧ 0 ≤ b) : (a - b).toNat = a.toNat - b.toNat := by omega
theorem gq_ixT {a : Int} {n : Nat} (h : 0 ≤ a ∧ a < n ∧ (n : Int) ≤ 2147483648) : gx_ix (gq_I a) n = true := by
  unfold gx_ix
  rw [gq_nat (by omega), decide_eq_true_iff]
  intro hc
  rcases hc with hc | hc
  · have h0 : (0 : Int32) = gq_I 0 := gq_lit 0
    rw [h0, gq_lt (by omega)] at hc
    omega
  · omega
theorem gq_ck {β : Type} {a : Int} {n : Nat} {t : Option β} (h : 0 ≤ a ∧ a < n ∧ (n : Int) ≤ 2147483648) : gx_ck (gx_ix (gq_I a) n = true) t = t := by
  unfold gx_ck
  exact if_pos (gq_ixT h)
theorem gq_ckT {β : Type} {c : Prop} [Decidable c] {t : Option β} (h : c) : gx_ck c t = t := if_pos h
theorem gq_lte {α β : Type} (v : α) (f : α → β) : gx_lt v f = f v := id rfl
theorem gq_br {σ β : Type} (x : σ) (T : σ → Option β) : gx_br (some x) T = T x := id rfl
theorem gq_bd {σ β : Type} (x : σ) (m : gx_M) (T : σ → gx_M → Option β) : gx_bd (some (x, m)) T = T x m := id rfl
theorem gq_uI1 (μ : gx_M) (a k : Nat) (x : Int32) (b j : Nat) : (gx_uI μ a k x).1 b j = if b = a ∧ j = k then x else μ.1 b j := id rfl
theorem gq_uI2 (μ : gx_M) (a k : Nat) (x : Int32) : (gx_uI μ a k x).2 = μ.2 := id rfl
theorem gq_uL1 (μ : gx_M) (a k : Nat) (x : Int64) : (gx_uL μ a k x).1 = μ.1 := id rfl
theorem gq_uL2 (μ : gx_M) (a k : Nat) (x : Int64) (b j : Nat) : (gx_uL μ a k x).2 b j = if b = a ∧ j = k then x else μ.2 b j := id rfl
theorem gq_biT : gx_bi true = gq_I 1 := gq_lit 1
theorem gq_biF : gx_bi false = gq_I 0 := gq_lit 0
theorem gq_toL {a : Int} (h : -2147483648 ≤ a ∧ a < 2147483648) : (gq_I a).toInt64 = gq_L a := by
  rw [← Int64.toInt_inj, Int32.toInt_toInt64, gq_toInt h, gq_LtoInt (by omega)]
theorem gq_toI (a : Int) : (gq_L a).toInt32 = gq_I a := Int64.toInt32_ofInt
theorem gq_div {a b : Int} (h : (0 ≤ a ∧ a < 2147483648) ∧ 0 < b ∧ b < 2147483648) : gq_I a / gq_I b = gq_I (a / b) := by
  rw [← Int.tdiv_eq_ediv_of_nonneg h.1.1]
  have e1 : Int32.minValue.toInt = -2147483648 := rfl
  have e2 : Int32.maxValue.toInt = 2147483647 := rfl
  exact (Int32.ofInt_tdiv (by omega) (by omega) (by omega) (by omega)).symm
theorem gq_Ldiv {a b : Int} (h : (0 ≤ a ∧ a < 9223372036854775808) ∧ 0 < b ∧ b < 9223372036854775808) : gq_L a / gq_L b = gq_L (a / b) := by
  rw [← Int.tdiv_eq_ediv_of_nonneg h.1.1]
  have e1 : Int64.minValue.toInt = -9223372036854775808 := rfl
  have e2 : Int64.maxValue.toInt = 9223372036854775807 := rfl
  exact (Int64.ofInt_tdiv (by omega) (by omega) (by omega) (by omega)).symm
/-- a stretch of an array written -/
def gq_set (μ : gx_M) (a lo hi : Nat) (g : Nat → Int32) : gx_M := (fun b j => if b = a ∧ lo ≤ j ∧ j < hi then g j else μ.1 b j, μ.2)
def gq_seL (μ : gx_M) (a lo hi : Nat) (g : Nat → Int64) : gx_M := (μ.1, fun b j => if b = a ∧ lo ≤ j ∧ j < hi then g j else μ.2 b j)
theorem gq_set1 (μ : gx_M) (a lo hi : Nat) (g : Nat → Int32) (b j : Nat) : (gq_set μ a lo hi g).1 b j = if b = a ∧ lo ≤ j ∧ j < hi then g j else μ.1 b j := id rfl
theorem gq_set2 (μ : gx_M) (a lo hi : Nat) (g : Nat → Int32) : (gq_set μ a lo hi g).2 = μ.2 := id rfl
theorem gq_seL1 (μ : gx_M) (a lo hi : Nat) (g : Nat → Int64) : (gq_seL μ a lo hi g).1 = μ.1 := id rfl
theorem gq_seL2 (μ : gx_M) (a lo hi : Nat) (g : Nat → Int64) (b j : Nat) : (gq_seL μ a lo hi g).2 b j = if b = a ∧ lo ≤ j ∧ j < hi then g j else μ.2 b j := id rfl
theorem gq_mext {μ ν : gx_M} (h1 : ∀ b j, μ.1 b j = ν.1 b j) (h2 : ∀ b j, μ.2 b j = ν.2 b j) : μ = ν :=
  Prod.ext (funext fun b => funext fun j => h1 b j) (funext fun b => funext fun j => h2 b j)
theorem gq_set_nil {μ : gx_M} {a lo hi : Nat} {g : Nat → Int32} (h : hi ≤ lo) : gq_set μ a lo hi g = μ :=
  gq_mext (fun b j => by rw [gq_set1]; exact if_neg (by omega)) (fun _ _ => rfl)
theorem gq_seL_nil {μ : gx_M} {a lo hi : Nat} {g : Nat → Int64} (h : hi ≤ lo) : gq_seL μ a lo hi g = μ :=
  gq_mext (fun _ _ => rfl) (fun b j => by rw [gq_seL2]; exact if_neg (by omega))
/-- one more at the end -/
theorem gq_set_up {μ : gx_M} {a lo i : Nat} {g : Nat → Int32} {x : Int32} (h : lo ≤ i) (hx : x = g i) : gx_uI (gq_set μ a lo i g) a i x = gq_set μ a lo (i + 1) g :=
  gq_mext (fun b j => by
    rw [gq_uI1, gq_set1, gq_set1]
    by_cases hb : b = a
    · by_cases hj : j = i
      · rw [if_pos ⟨hb, hj⟩, if_pos (by omega), hx, hj]
      · rw [if_neg (by omega)]
        by_cases hk : lo ≤ j ∧ j < i
        · rw [if_pos ⟨hb, hk⟩, if_pos (by omega)]
        · rw [if_neg (by omega), if_neg (by omega)]
    · rw [if_neg (by omega), if_neg (by omega), if_neg (by omega)]) (fun _ _ => rfl)
/-- one first, the rest behind it -/
theorem gq_set_dn {μ : gx_M} {a i hi : Nat} {g : Nat → Int32} {x : Int32} (h : i < hi) (hx : x = g i) : gq_set (gx_uI μ a i x) a (i + 1) hi g = gq_set μ a i hi g :=
  gq_mext (fun b j => by
    rw [gq_set1, gq_set1, gq_uI1]
    by_cases hb : b = a
    · by_cases hj : j = i
      · rw [if_neg (by omega), if_pos ⟨hb, hj⟩, if_pos (by omega), hx, hj]
      · rw [if_neg (c := b = a ∧ j = i) (by omega)]
        by_cases hk : i + 1 ≤ j ∧ j < hi
        · rw [if_pos ⟨hb, hk⟩, if_pos (by omega)]
        · rw [if_neg (by omega), if_neg (by omega)]
    · rw [if_neg (by omega), if_neg (by omega), if_neg (by omega)]) (fun _ _ => rfl)
theorem gq_seL_dn {μ : gx_M} {a i hi : Nat} {g : Nat → Int64} {x : Int64} (h : i < hi) (hx : x = g i) : gq_seL (gx_uL μ a i x) a (i + 1) hi g = gq_seL μ a i hi g :=
  gq_mext (fun _ _ => rfl) (fun b j => by
    rw [gq_seL2, gq_seL2, gq_uL2]
    by_cases hb : b = a
    · by_cases hj : j = i
      · rw [if_neg (by omega), if_pos ⟨hb, hj⟩, if_pos (by omega), hx, hj]
      · rw [if_neg (c := b = a ∧ j = i) (by omega)]
        by_cases hk : i + 1 ≤ j ∧ j < hi
        · rw [if_pos ⟨hb, hk⟩, if_pos (by omega)]
        · rw [if_neg (by omega), if_neg (by omega)]
    · rw [if_neg (by omega), if_neg (by omega), if_neg (by omega)])
/-- rows alone that stay -/
def gq_sm (P : Nat → Prop) (μ ν : gx_M) : Prop := ∀ a, P a → ν.1 a = μ.1 a ∧ ν.2 a = μ.2 a
theorem gq_sm_rf {P : Nat → Prop} {μ : gx_M} : gq_sm P μ μ := fun _ _ => ⟨rfl, rfl⟩
theorem gq_sm_tr {P : Nat → Prop} {μ ν ξ : gx_M} (h : gq_sm P μ ν) (h2 : gq_sm P ν ξ) : gq_sm P μ ξ := fun a ha => ⟨(h2 a ha).1.trans (h a ha).1, (h2 a ha).2.trans (h a ha).2⟩
theorem gq_sm_uI {P : Nat → Prop} {μ ν : gx_M} {b k : Nat} {x : Int32} (hb : ¬ P b) (h : gq_sm P μ ν) : gq_sm P μ (gx_uI ν b k x) := fun a ha => ⟨by
  rw [← (h a ha).1]
  funext j
  rw [gq_uI1]
  exact if_neg fun (hc : a = b ∧ j = k) => hb (hc.1 ▸ ha), (h a ha).2⟩
theorem gq_sm_uL {P : Nat → Prop} {μ ν : gx_M} {b k : Nat} {x : Int64} (hb : ¬ P b) (h : gq_sm P μ ν) : gq_sm P μ (gx_uL ν b k x) := fun a ha => ⟨(h a ha).1, by
  rw [← (h a ha).2]
  funext j
  rw [gq_uL2]
  exact if_neg fun (hc : a = b ∧ j = k) => hb (hc.1 ▸ ha)⟩
theorem gq_sm_set {P : Nat → Prop} {μ ν : gx_M} {b lo hi : Nat} {g : Nat → Int32} (hb : ¬ P b) (h : gq_sm P μ ν) : gq_sm P μ (gq_set ν b lo hi g) := fun a ha => ⟨by
  rw [← (h a ha).1]
  funext j
  rw [gq_set1]
  exact if_neg fun (hc : a = b ∧ lo ≤ j ∧ j < hi) => hb (hc.1 ▸ ha), (h a ha).2⟩
theorem gq_sm_seL {P : Nat → Prop} {μ ν : gx_M} {b lo hi : Nat} {g : Nat → Int64} (hb : ¬ P b) (h : gq_sm P μ ν) : gq_sm P μ (gq_seL ν b lo hi g) := fun a ha => ⟨(h a ha).1, by
  rw [← (h a ha).2]
  funext j
  rw [gq_seL2]
  exact if_neg fun (hc : a = b ∧ lo ≤ j ∧ j < hi) => hb (hc.1 ▸ ha)⟩
