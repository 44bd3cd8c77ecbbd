/-! rows that fit a log: codes 40 a + b, one behind the other -/
def gl_in (g : Nat → Int) (j k : Nat) : Prop := ((j / 40 : Nat) : Int) ≤ g (2 + 2 * k) ∧ g (2 + 2 * k) ≤ ((j % 40 : Nat) : Int)
def gl_ok (g : Nat → Int) (j : Nat) : Prop := j / 40 ≤ j % 40 ∧ ∀ k : Nat, (k : Int) < g 0 → (g (1 + 2 * k) = 1 ↔ gl_in g j k)
theorem gl_dec (g : Nat → Int) : ∃ φ : Nat → Bool, ∀ j, φ j = true ↔ gl_ok g j := ⟨fun j => @decide (gl_ok g j) (Classical.propDecidable _), fun j => @decide_eq_true_iff (gl_ok g j) (Classical.propDecidable _)⟩
def gl_fo (f : Int → Nat → Nat → Int) (φ : Nat → Bool) (b : Int) : Nat → Int
  | 0 => b
  | n + 1 => if φ n = true then f (gl_fo f φ b n) (gm_cnt φ n) n else gl_fo f φ b n
def gl_fe (f : Int → Nat → Nat → Int) (e : Nat → Nat) (b : Int) : Nat → Int
  | 0 => b
  | i + 1 => f (gl_fe f e b i) i (e i)
theorem gl_cntT {φ : Nat → Bool} {n : Nat} (h : φ n = true) : gm_cnt φ (n + 1) = gm_cnt φ n + 1 := by
  show gm_cnt φ n + (φ n).toNat = _
  rw [h]
  rfl
theorem gl_cntF {φ : Nat → Bool} {n : Nat} (h : φ n = false) : gm_cnt φ (n + 1) = gm_cnt φ n := by
  show gm_cnt φ n + (φ n).toNat = _
  rw [h]
  rfl
theorem gl_foT {f : Int → Nat → Nat → Int} {φ : Nat → Bool} {b : Int} {n : Nat} (h : φ n = true) : gl_fo f φ b (n + 1) = f (gl_fo f φ b n) (gm_cnt φ n) n := if_pos h
theorem gl_foF {f : Int → Nat → Nat → Int} {φ : Nat → Bool} {b : Int} {n : Nat} (h : φ n = false) : gl_fo f φ b (n + 1) = gl_fo f φ b n := if_neg (by rw [h]; decide)
theorem gl_fo_fe {f : Int → Nat → Nat → Int} {φ : Nat → Bool} {e : Nat → Nat} {b : Int} : ∀ {n : Nat}, (∀ j, j < n → φ j = true → e (gm_cnt φ j) = j) → gl_fe f e b (gm_cnt φ n) = gl_fo f φ b n
  | 0, _ => rfl
  | n + 1, h => by
    have ih := gl_fo_fe (f := f) (b := b) (n := n) fun j hj => h j (by omega)
    cases hn : φ n
    · rw [gl_cntF hn, gl_foF hn, ih]
    · rw [gl_cntT hn, gl_foT hn, ← ih]
      show f (gl_fe f e b (gm_cnt φ n)) (gm_cnt φ n) (e (gm_cnt φ n)) = _
      rw [h n (by omega) hn]
theorem gl_fo_P {f : Int → Nat → Nat → Int} {φ : Nat → Bool} {b : Int} (P : Int → Prop) (hb : P b) : ∀ {n : Nat}, (∀ x i j, j < n → P x → P (f x i j)) → P (gl_fo f φ b n)
  | 0, _ => hb
  | n + 1, h => by
    have ih := gl_fo_P P hb (φ := φ) (n := n) fun x i j hj => h x i j (by omega)
    cases hn : φ n
    · rw [gl_foF hn]; exact ih
    · rw [gl_foT hn]; exact h _ _ _ (by omega) ih
theorem gl_mono {φ : Nat → Bool} {i : Nat} : ∀ {n : Nat}, i ≤ n → gm_cnt φ i ≤ gm_cnt φ n
  | 0, h => by rw [show i = 0 by omega]; exact Nat.le_refl _
  | n + 1, h => by
    by_cases e : i = n + 1
    · rw [e]; exact Nat.le_refl _
    · have := gl_mono (φ := φ) (i := i) (n := n) (by omega)
      show gm_cnt φ i ≤ gm_cnt φ n + (φ n).toNat
      omega
/-- no more than 820 rows -/
theorem gl_tri : gm_cnt (fun j => decide (j / 40 ≤ j % 40)) 1600 = 820 := by decide +kernel
theorem gl_sub {φ ψ : Nat → Bool} (h : ∀ j, φ j = true → ψ j = true) : ∀ n, gm_cnt φ n ≤ gm_cnt ψ n
  | 0 => Nat.le_refl 0
  | n + 1 => by
    have ih := gl_sub h n
    show gm_cnt φ n + (φ n).toNat ≤ gm_cnt ψ n + (ψ n).toNat
    cases hn : φ n
    · have : (false).toNat = 0 := rfl
      omega
    · rw [h n hn]
      have : (true).toNat = 1 := rfl
      omega
theorem gl_820 {g : Nat → Int} {φ : Nat → Bool} (h : ∀ j, φ j = true ↔ gl_ok g j) : gm_cnt φ 1600 ≤ 820 := by
  have := gl_sub (φ := φ) (ψ := fun j => decide (j / 40 ≤ j % 40)) (fun j hj => decide_eq_true ((h j).mp hj).1) 1600
  rw [gl_tri] at this
  exact this
theorem gl_lt {g : Nat → Int} {φ : Nat → Bool} (h : ∀ j, φ j = true ↔ gl_ok g j) {n : Nat} (hn : n < 1600) (hf : φ n = true) : gm_cnt φ n < 820 := by
  have a := gl_820 h
  have b := gl_mono (φ := φ) (i := n + 1) (n := 1600) (by omega)
  rw [gl_cntT hf] at b
  omega
/-- the steps -/
def gl_su (q : Nat → Nat) (x : Int) (i j : Nat) : Int := if i = 0 ∨ x = (q j : Int) then (q j : Int) else -1
def gl_len (j : Nat) : Int := ((j % 40 : Nat) : Int) - ((j / 40 : Nat) : Int) + 1
def gl_mn (x : Int) (_ j : Nat) : Int := if gl_len j < x then gl_len j else x
def gl_mx (x : Int) (_ j : Nat) : Int := if x < gl_len j then gl_len j else x
def gl_ov (m : Nat) (x : Int) (_ j : Nat) : Int := if j / 40 ≤ m ∧ m ≤ j % 40 then x + 1 else x
theorem gl_su_b {q : Nat → Nat} {φ : Nat → Bool} {n : Nat} (hq : ∀ j, j < n → q j < 40) : -1 ≤ gl_fo (gl_su q) φ (-1) n ∧ gl_fo (gl_su q) φ (-1) n < 40 :=
  gl_fo_P (fun x => -1 ≤ x ∧ x < 40) (by omega) fun x i j hj _ => by
    have := hq j hj
    unfold gl_su
    split <;> omega
theorem gl_mn_b {φ : Nat → Bool} {n : Nat} {b : Int} (hb : 40 ≤ b ∧ b ≤ 1000000) (hn : n ≤ 1600) : -40 ≤ gl_fo gl_mn φ b n ∧ gl_fo gl_mn φ b n ≤ b :=
  gl_fo_P (fun x => -40 ≤ x ∧ x ≤ b) (by omega) fun x i j hj _ => by
    unfold gl_mn gl_len
    split <;> omega
theorem gl_mx_b {φ : Nat → Bool} {n : Nat} (hn : n ≤ 1600) : 0 ≤ gl_fo gl_mx φ 0 n ∧ gl_fo gl_mx φ 0 n ≤ 40 :=
  gl_fo_P (fun x => 0 ≤ x ∧ x ≤ 40) (by omega) fun x i j hj _ => by
    unfold gl_mx gl_len
    split <;> omega
theorem gl_ov_b {φ : Nat → Bool} {m : Nat} : ∀ n, 0 ≤ gl_fo (gl_ov m) φ 0 n ∧ gl_fo (gl_ov m) φ 0 n ≤ (gm_cnt φ n : Nat)
  | 0 => ⟨Int.le_refl 0, Int.le_refl 0⟩
  | n + 1 => by
    have ih := gl_ov_b (φ := φ) (m := m) n
    cases hn : φ n
    · rw [gl_foF hn, gl_cntF hn]; exact ih
    · rw [gl_foT hn, gl_cntT hn]
      unfold gl_ov at ih ⊢
      split <;> omega
/-- the least from 40 or from a million: the same where there is any -/
theorem gl_mn2 {φ : Nat → Bool} : ∀ n, n ≤ 1600 → (gm_cnt φ n = 0 → gl_fo gl_mn φ 40 n = 40 ∧ gl_fo gl_mn φ 1000000 n = 1000000) ∧ (gm_cnt φ n ≠ 0 → gl_fo gl_mn φ 40 n = gl_fo gl_mn φ 1000000 n)
  | 0, _ => ⟨fun _ => ⟨rfl, rfl⟩, fun h => absurd rfl h⟩
  | n + 1, hl => by
    have ih := gl_mn2 (φ := φ) n (by omega)
    cases hn : φ n
    · rw [gl_foF hn, gl_foF hn, gl_cntF hn]; exact ih
    · rw [gl_foT hn, gl_foT hn, gl_cntT hn]
      refine ⟨fun h => absurd h (by omega), fun _ => ?_⟩
      by_cases h0 : gm_cnt φ n = 0
      · rw [(ih.1 h0).1, (ih.1 h0).2]
        unfold gl_mn gl_len
        split <;> split <;> omega
      · rw [ih.2 h0]
