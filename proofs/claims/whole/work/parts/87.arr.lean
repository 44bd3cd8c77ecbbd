/-! arrangements of business: of each in a set its first minute, no minute twice -/
abbrev ga_h (x b : Nat) : Bool := x.testBit b
def ga_sum (φ : Nat → Bool) (g : Nat → Int) : Nat → Int
  | 0 => 0
  | n + 1 => ga_sum φ g n + (if φ n = true then g n else 0)
theorem ga_sum_ext {φ ψ : Nat → Bool} {g k : Nat → Int} : ∀ {n : Nat}, (∀ c, c < n → φ c = ψ c ∧ (φ c = true → g c = k c)) → ga_sum φ g n = ga_sum ψ k n
  | 0, _ => rfl
  | n + 1, h => by
    have e := ga_sum_ext (n := n) fun c hc => h c (by omega)
    obtain ⟨h1, h2⟩ := h n (by omega)
    show ga_sum φ g n + _ = ga_sum ψ k n + _
    rw [e, ← h1]
    by_cases g1 : φ n = true
    · rw [if_pos g1, if_pos g1, h2 g1]
    · rw [if_neg g1, if_neg g1]
theorem ga_sum_ins {φ ψ : Nat → Bool} {g : Nat → Int} {b : Nat} (h1 : φ b = true) (h2 : ψ b = false) : ∀ {n : Nat}, (∀ c, c < n → c ≠ b → φ c = ψ c) → ga_sum φ g n = ga_sum ψ g n + if b < n then g b else 0
  | 0, _ => by rw [if_neg (by omega)]; rfl
  | n + 1, h => by
    have e := ga_sum_ins h1 h2 (g := g) (n := n) fun c hc => h c (by omega)
    show ga_sum φ g n + _ = ga_sum ψ g n + _ + _
    by_cases g1 : n = b
    · subst g1
      rw [if_neg (by omega)] at e
      rw [e, if_pos h1, if_neg (c := ψ n = true) (by rw [h2]; decide), if_pos (c := n < n + 1) (by omega)]
    · have e2 := h n (by omega) g1
      rw [e, e2]
      by_cases g2 : b < n
      · rw [if_pos g2, if_pos (c := b < n + 1) (by omega), Int.add_right_comm]
      · rw [if_neg g2, if_neg (c := b < n + 1) (by omega), Int.add_zero, Int.add_zero]
theorem ga_sum_b {φ : Nat → Bool} {g : Nat → Int} {B : Int} (hB : 0 ≤ B) : ∀ {n : Nat}, (∀ c, c < n → φ c = true → 0 ≤ g c ∧ g c ≤ B) → 0 ≤ ga_sum φ g n ∧ ga_sum φ g n ≤ n * B
  | 0, _ => ⟨Int.le_refl 0, by rw [Int.natCast_zero, Int.zero_mul]; exact Int.le_refl 0⟩
  | n + 1, h => by
    obtain ⟨e1, e2⟩ := ga_sum_b hB (g := g) (n := n) fun c hc => h c (by omega)
    have e3 : ((n + 1 : Nat) : Int) * B = n * B + B := by rw [Int.natCast_succ, Int.add_mul, Int.one_mul]
    show 0 ≤ ga_sum φ g n + _ ∧ ga_sum φ g n + _ ≤ _
    rw [e3]
    by_cases g1 : φ n = true
    · rw [if_pos g1]
      have := h n (by omega) g1
      omega
    · rw [if_neg g1]
      omega
theorem ga_sum_lin {φ : Nat → Bool} {g k : Nat → Int} {q : Int} : ∀ n, ga_sum φ (fun b => g b * q + k b) n = ga_sum φ g n * q + ga_sum φ k n
  | 0 => by show (0 : Int) = 0 * q + 0; rw [Int.zero_mul]; rfl
  | n + 1 => by
    show ga_sum φ (fun b => g b * q + k b) n + (if φ n = true then g n * q + k n else 0) = (ga_sum φ g n + _) * q + (ga_sum φ k n + _)
    rw [ga_sum_lin n]
    by_cases g1 : φ n = true
    · rw [if_pos g1, if_pos g1, if_pos g1, Int.add_mul]
      omega
    · rw [if_neg g1, if_neg g1, if_neg g1, Int.add_zero, Int.add_zero, Int.add_zero]
def ga_arr (A : Nat → Nat → Bool) (l : Nat → Nat) (x lo hi : Nat) (S : Nat → Nat) : Prop := (∀ b, b < 6 → ga_h x b = true → A b (S b) = true ∧ lo ≤ S b ∧ S b + l b ≤ hi) ∧ ∀ b c, b < 6 → c < 6 → ga_h x b = true → ga_h x c = true → b ≠ c → S b + l b ≤ S c ∨ S c + l c ≤ S b
def ga_v (g : Nat → Nat → Int) (x : Nat) (S : Nat → Nat) : Int := ga_sum (ga_h x) (fun b => g b (S b)) 6
abbrev ga_ins (y b x : Nat) : Prop := b < 6 ∧ ga_h y b = false ∧ ga_h x b = true ∧ ∀ c, c < 6 → c ≠ b → ga_h x c = ga_h y c
def ga_up (S : Nat → Nat) (b m : Nat) : Nat → Nat := fun c => if c = b then m else S c
theorem ga_up_b (S : Nat → Nat) (b m : Nat) : ga_up S b m b = m := if_pos rfl
theorem ga_up_c {S : Nat → Nat} {b m c : Nat} (h : c ≠ b) : ga_up S b m c = S c := if_neg h
theorem ga_v_ins {g : Nat → Nat → Int} {y b x : Nat} (h : ga_ins y b x) (S : Nat → Nat) : ga_v g x S = ga_v g y S + g b (S b) := by
  unfold ga_v
  rw [ga_sum_ins h.2.2.1 h.2.1 h.2.2.2, if_pos h.1]
theorem ga_v_ext {g : Nat → Nat → Int} {x : Nat} {S T : Nat → Nat} (h : ∀ c, c < 6 → ga_h x c = true → S c = T c) : ga_v g x S = ga_v g x T :=
  ga_sum_ext fun c hc => ⟨rfl, fun h2 => by rw [h c hc h2]⟩
theorem ga_v_up {g : Nat → Nat → Int} {y b x m : Nat} (h : ga_ins y b x) (S : Nat → Nat) : ga_v g x (ga_up S b m) = ga_v g y S + g b m := by
  rw [ga_v_ins h, ga_up_b, ga_v_ext (S := ga_up S b m) (T := S)]
  intro c hc hy
  refine ga_up_c fun e => ?_
  rw [e, h.2.1] at hy
  exact absurd hy (by decide)
theorem ga_v_b {g : Nat → Nat → Int} {A : Nat → Nat → Bool} {l : Nat → Nat} {x lo hi : Nat} {S : Nat → Nat} {B : Int} (hB : 0 ≤ B) (h : ga_arr A l x lo hi S) (hg : ∀ b m, b < 6 → A b m = true → 0 ≤ g b m ∧ g b m ≤ B) : 0 ≤ ga_v g x S ∧ ga_v g x S ≤ 6 * B := by
  have := ga_sum_b (φ := ga_h x) (g := fun b => g b (S b)) hB (n := 6) fun c hc h2 => hg c (S c) hc (h.1 c hc h2).1
  exact this
theorem ga_arr_0 {A : Nat → Nat → Bool} {l : Nat → Nat} {lo hi : Nat} {S : Nat → Nat} : ga_arr A l 0 lo hi S :=
  ⟨fun b _ h => absurd ((Nat.zero_testBit b).symm.trans h) (by decide), fun b _ _ _ h => absurd ((Nat.zero_testBit b).symm.trans h) (by decide)⟩
theorem ga_v_0 {g : Nat → Nat → Int} {S : Nat → Nat} : ga_v g 0 S = 0 := by
  have : ga_v g 0 S = ga_sum (fun _ => false) (fun b => g b (S b)) 6 := ga_sum_ext fun c _ => ⟨Nat.zero_testBit c, fun _ => rfl⟩
  rw [this]
  rfl
theorem ga_mono {A : Nat → Nat → Bool} {l : Nat → Nat} {x lo hi lo' hi' : Nat} {S : Nat → Nat} (h : ga_arr A l x lo hi S) (h1 : lo' ≤ lo) (h2 : hi ≤ hi') : ga_arr A l x lo' hi' S :=
  ⟨fun b hb hx => by obtain ⟨a1, a2, a3⟩ := h.1 b hb hx; exact ⟨a1, by omega, by omega⟩, h.2⟩
theorem ga_put {A : Nat → Nat → Bool} {l : Nat → Nat} {y b x lo m : Nat} {S : Nat → Nat} (h : ga_ins y b x) (hA : A b m = true) (hl : lo ≤ m) (hS : ga_arr A l y lo m S) : ga_arr A l x lo (m + l b) (ga_up S b m) := by
  refine ⟨fun c hc hx => ?_, fun c d hc hd hx hx2 hn => ?_⟩
  · by_cases e : c = b
    · subst e
      rw [ga_up_b]
      exact ⟨hA, hl, Nat.le_refl _⟩
    · rw [ga_up_c e]
      obtain ⟨a1, a2, a3⟩ := hS.1 c hc (by rw [← h.2.2.2 c hc e]; exact hx)
      exact ⟨a1, a2, by omega⟩
  · by_cases e : c = b
    · subst e
      obtain ⟨a1, a2, a3⟩ := hS.1 d hd (by rw [← h.2.2.2 d hd (Ne.symm hn)]; exact hx2)
      rw [ga_up_b, ga_up_c (Ne.symm hn)]
      exact Or.inr a3
    · by_cases e2 : d = b
      · subst e2
        obtain ⟨a1, a2, a3⟩ := hS.1 c hc (by rw [← h.2.2.2 c hc e]; exact hx)
        rw [ga_up_b, ga_up_c e]
        exact Or.inl a3
      · rw [ga_up_c e, ga_up_c e2]
        exact hS.2 c d hc hd (by rw [← h.2.2.2 c hc e]; exact hx) (by rw [← h.2.2.2 d hd e2]; exact hx2) hn
theorem ga_pre {A : Nat → Nat → Bool} {l : Nat → Nat} {y b x m hi : Nat} {S : Nat → Nat} (h : ga_ins y b x) (hA : A b m = true) (hl : m + l b ≤ hi) (hS : ga_arr A l y (m + l b) hi S) : ga_arr A l x m hi (ga_up S b m) := by
  refine ⟨fun c hc hx => ?_, fun c d hc hd hx hx2 hn => ?_⟩
  · by_cases e : c = b
    · subst e
      rw [ga_up_b]
      exact ⟨hA, Nat.le_refl _, hl⟩
    · rw [ga_up_c e]
      obtain ⟨a1, a2, a3⟩ := hS.1 c hc (by rw [← h.2.2.2 c hc e]; exact hx)
      exact ⟨a1, by omega, a3⟩
  · by_cases e : c = b
    · subst e
      obtain ⟨a1, a2, a3⟩ := hS.1 d hd (by rw [← h.2.2.2 d hd (Ne.symm hn)]; exact hx2)
      rw [ga_up_b, ga_up_c (Ne.symm hn)]
      exact Or.inl a2
    · by_cases e2 : d = b
      · subst e2
        obtain ⟨a1, a2, a3⟩ := hS.1 c hc (by rw [← h.2.2.2 c hc e]; exact hx)
        rw [ga_up_b, ga_up_c e]
        exact Or.inr a2
      · rw [ga_up_c e, ga_up_c e2]
        exact hS.2 c d hc hd (by rw [← h.2.2.2 c hc e]; exact hx) (by rw [← h.2.2.2 d hd e2]; exact hx2) hn
theorem ga_ins_x {y b x c : Nat} (h : ga_ins y b x) (hc : c < 6) (hy : ga_h y c = true) : ga_h x c = true ∧ c ≠ b := by
  have e : c ≠ b := fun e => by
    rw [e, h.2.1] at hy
    exact absurd hy (by decide)
  exact ⟨by rw [h.2.2.2 c hc e]; exact hy, e⟩
theorem ga_last {A : Nat → Nat → Bool} {l : Nat → Nat} {x lo m : Nat} {S : Nat → Nat} (hl : ∀ b, b < 6 → ga_h x b = true → 1 ≤ l b) (hS : ga_arr A l x lo (m + 1) S) : ga_arr A l x lo m S ∨ ∃ b, b < 6 ∧ ga_h x b = true ∧ S b + l b = m + 1 ∧ ∀ y, ga_ins y b x → ga_arr A l y lo (S b) S := by
  by_cases g : ∃ b, b < 6 ∧ ga_h x b = true ∧ S b + l b = m + 1
  · obtain ⟨b, b1, b2, b3⟩ := g
    refine Or.inr ⟨b, b1, b2, b3, fun y hy => ⟨fun c hc hx => ?_, fun c d hc hd hx hx2 hn => ?_⟩⟩
    · obtain ⟨x1, x2⟩ := ga_ins_x hy hc hx
      obtain ⟨a1, a2, a3⟩ := hS.1 c hc x1
      have a4 := hS.2 c b hc b1 x1 b2 x2
      have a5 := hl c hc x1
      exact ⟨a1, a2, by omega⟩
    · exact hS.2 c d hc hd (ga_ins_x hy hc hx).1 (ga_ins_x hy hd hx2).1 hn
  · refine Or.inl ⟨fun c hc hx => ?_, hS.2⟩
    obtain ⟨a1, a2, a3⟩ := hS.1 c hc hx
    refine ⟨a1, a2, ?_⟩
    by_cases e : S c + l c = m + 1
    · exact absurd ⟨c, hc, hx, e⟩ g
    · omega
theorem ga_first {A : Nat → Nat → Bool} {l : Nat → Nat} {x m hi : Nat} {S : Nat → Nat} (hl : ∀ b, b < 6 → ga_h x b = true → 1 ≤ l b) (hS : ga_arr A l x m hi S) : ga_arr A l x (m + 1) hi S ∨ ∃ b, b < 6 ∧ ga_h x b = true ∧ S b = m ∧ ∀ y, ga_ins y b x → ga_arr A l y (m + l b) hi S := by
  by_cases g : ∃ b, b < 6 ∧ ga_h x b = true ∧ S b = m
  · obtain ⟨b, b1, b2, b3⟩ := g
    refine Or.inr ⟨b, b1, b2, b3, fun y hy => ⟨fun c hc hx => ?_, fun c d hc hd hx hx2 hn => ?_⟩⟩
    · obtain ⟨x1, x2⟩ := ga_ins_x hy hc hx
      obtain ⟨a1, a2, a3⟩ := hS.1 c hc x1
      have a4 := hS.2 c b hc b1 x1 b2 x2
      have a5 := hl c hc x1
      exact ⟨a1, by omega, a3⟩
    · exact hS.2 c d hc hd (ga_ins_x hy hc hx).1 (ga_ins_x hy hd hx2).1 hn
  · refine Or.inl ⟨fun c hc hx => ?_, hS.2⟩
    obtain ⟨a1, a2, a3⟩ := hS.1 c hc hx
    refine ⟨a1, ?_, a3⟩
    by_cases e : S c = m
    · exact absurd ⟨c, hc, hx, e⟩ g
    · omega
/-- v is the least of an arrangement's values, or none is below F -/
def ga_min (A : Nat → Nat → Bool) (l : Nat → Nat) (g : Nat → Nat → Int) (x lo hi : Nat) (F v : Int) : Prop := (v < F → ∃ S, ga_arr A l x lo hi S ∧ ga_v g x S = v) ∧ ∀ S, ga_arr A l x lo hi S → v ≤ ga_v g x S
/-! sets as numbers below 64 -/
theorem ga_rm1 : ∀ x, x < 64 → ∀ b, b < 6 → ga_h x b = true → ga_h (x - 2 ^ b) b = false ∧ 2 ^ b ≤ x := by decide +kernel
theorem ga_rm2 : ∀ x, x < 64 → ∀ b, b < 6 → ∀ c, c < 6 → ga_h x b = true → c = b ∨ ga_h x c = ga_h (x - 2 ^ b) c := by decide +kernel
theorem ga_rm_ins (x : Nat) (hx : x < 64) (b : Nat) (hb : b < 6) (h : ga_h x b = true) : ga_ins (x - 2 ^ b) b x ∧ 2 ^ b ≤ x :=
  ⟨⟨hb, (ga_rm1 x hx b hb h).1, h, fun c hc hn => (ga_rm2 x hx b hb c hc h).resolve_left hn⟩, (ga_rm1 x hx b hb h).2⟩
theorem ga_ad1 : ∀ y, y < 64 → ∀ b, b < 6 → ga_h y b = false → ga_h (y + 2 ^ b) b = true ∧ y + 2 ^ b < 64 := by decide +kernel
theorem ga_ad2 : ∀ y, y < 64 → ∀ b, b < 6 → ∀ c, c < 6 → ga_h y b = false → c = b ∨ ga_h (y + 2 ^ b) c = ga_h y c := by decide +kernel
theorem ga_ad_ins (y : Nat) (hy : y < 64) (b : Nat) (hb : b < 6) (h : ga_h y b = false) : ga_ins y b (y + 2 ^ b) ∧ y + 2 ^ b < 64 :=
  ⟨⟨hb, h, (ga_ad1 y hy b hb h).1, fun c hc hn => (ga_ad2 y hy b hb c hc h).resolve_left hn⟩, (ga_ad1 y hy b hb h).2⟩
theorem ga_ad_lt : ∀ T, T < 7 → ∀ y, y < 2 ^ T → ∀ b, b < T → ga_h y b = false → y + 2 ^ b < 2 ^ T := by decide +kernel
theorem ga_h_lt : ∀ T, T < 7 → ∀ x, x < 2 ^ T → ∀ b, b < 6 → ga_h x b = true → b < T := by decide +kernel
theorem ga_2T : ∀ T, T < 7 → 1 ≤ 2 ^ T ∧ 2 ^ T ≤ 64 := by decide +kernel
theorem ga_hasI : ∀ x : Nat, x < 64 → ∀ b : Nat, b < 6 → (((gq_I x >>> (gq_I b &&& gq_I 31)) &&& gq_I 1) = gq_I 1 ↔ ga_h x b = true) := by decide +kernel
theorem ga_has0 : ∀ x : Nat, x < 64 → ∀ b : Nat, b < 6 → (((gq_I x >>> (gq_I b &&& gq_I 31)) &&& gq_I 1) = gq_I 0 ↔ ga_h x b = false) := by decide +kernel
def ga_df (x y : Nat) : Nat := x &&& (63 - y)
theorem ga_dfI : ∀ x : Nat, x < 64 → ∀ y : Nat, y < 64 → gq_I x &&& (gq_I y ^^^ gq_I (-1)) = gq_I (ga_df x y) ∧ ga_df x y < 64 := by decide +kernel
theorem ga_dfh : ∀ x : Nat, x < 64 → ∀ y : Nat, y < 64 → ∀ b, b < 6 → ga_h (ga_df x y) b = (ga_h x b && !ga_h y b) := by decide +kernel
theorem ga_orI : ∀ y : Nat, y < 64 → ∀ b : Nat, b < 6 → ga_h y b = false → gq_I y ||| (gq_I 1 <<< (gq_I b &&& gq_I 31)) = gq_I (y + 2 ^ b : Nat) := by decide +kernel
theorem ga_rmI : ∀ x : Nat, x < 64 → ∀ b : Nat, b < 6 → ga_h x b = true → gq_I x &&& ((gq_I 1 <<< (gq_I b &&& gq_I 31)) ^^^ gq_I (-1)) = gq_I (x - 2 ^ b : Nat) := by decide +kernel
theorem ga_subI : ∀ T : Nat, T < 7 → gq_I 1 <<< (gq_I T &&& gq_I 31) = gq_I (2 ^ T : Nat) := by decide +kernel
theorem ga_hasX {x b : Nat} (hx : x < 64) (hb : b < 6) : f_X12_has (gq_I x) (gq_I b) = ga_h x b := by
  have e := ga_hasI x hx b hb
  unfold f_X12_has
  simp only [gq_lit]
  cases h : ga_h x b
  · rw [h] at e
    exact if_neg fun c => absurd (e.mp c) (by decide)
  · exact if_pos (e.mpr h)
/-- all of d lies in x -/
def ga_sub (d x : Nat) : Prop := ∀ c, c < 6 → ga_h d c = true → ga_h x c = true
