/-! the check looks for the fewest minutes -/
def gh_H (R : Nat → Nat → Prop) (a b c : Nat) : Prop := ∀ st e, R st e → (st ≤ a ∧ a ≤ e) ∨ (st ≤ b ∧ b ≤ e) ∨ (st ≤ c ∧ c ≤ e)
def gh_T (R : Nat → Nat → Prop) (M : Nat → Prop) (a b c : Nat) : Prop := M a ∧ M b ∧ M c ∧ gh_H R a b c
theorem gh_H_ch {R : Nat → Nat → Prop} {a b c : Nat} (h1 : a ≤ b) (h2 : b ≤ c) : gh_H R a b c ↔ (∀ st e, R st e → a ≤ e) ∧ (∀ st e, R st e → a + 1 ≤ st → b ≤ e) ∧ (∀ st e, R st e → b + 1 ≤ st → c ≤ e) ∧ ∀ st e, R st e → st < c + 1 := by
  constructor
  · intro h
    refine ⟨fun st e r => ?_, fun st e r g => ?_, fun st e r g => ?_, fun st e r => ?_⟩
    · have := h st e r; omega
    · have := h st e r; omega
    · have := h st e r; omega
    · have := h st e r; omega
  · rintro ⟨k1, k2, k3, k4⟩ st e r
    have a1 := k1 st e r
    have a4 := k4 st e r
    by_cases g1 : st ≤ a
    · exact Or.inl ⟨g1, a1⟩
    · have a2 := k2 st e r (by omega)
      by_cases g2 : st ≤ b
      · exact Or.inr (Or.inl ⟨g2, a2⟩)
      · have a3 := k3 st e r (by omega)
        exact Or.inr (Or.inr ⟨by omega, a3⟩)
def gh_PC (R : Nat → Nat → Prop) (M : Nat → Prop) (L n a b c : Nat) : Prop := ((n ≤ 2 ∧ c = b) ∨ (3 ≤ n ∧ b < c ∧ c < L)) ∧ gh_T R M a b c
def gh_PB (R : Nat → Nat → Prop) (M : Nat → Prop) (L n a b : Nat) : Prop := ((n ≤ 1 ∧ b = a) ∨ (2 ≤ n ∧ a < b ∧ b < L)) ∧ ∃ c, gh_PC R M L n a b c
def gh_PA (R : Nat → Nat → Prop) (M : Nat → Prop) (L n a : Nat) : Prop := a < L ∧ ∃ b, gh_PB R M L n a b
/-- the check's test -/
theorem gh_bits {a b c j : Nat} (ha : a < 41) (hb : b < 41) (hc : c < 41) (hj : j < 64) : gm_b (((gq_L 1 <<< (gq_L a &&& gq_L 63)) ||| (gq_L 1 <<< (gq_L b &&& gq_L 63))) ||| (gq_L 1 <<< (gq_L c &&& gq_L 63))) j = true ↔ j = a ∨ j = b ∨ j = c := by
  rw [gm_or, gm_or, gm_bit a ha j hj, gm_bit b hb j hj, gm_bit c hc j hj, Bool.or_eq_true, Bool.or_eq_true, decide_eq_true_iff, decide_eq_true_iff, decide_eq_true_iff]
  omega
theorem gh_test {ν : gx_M} {T L : Nat} {w : Nat → Int} {y1 y2 : Int64} {φ : Nat → Nat → Bool} (ok : gq_okS w) (hT2 : w 2 = T) (hL : w 0 = L) (hφ : gh_al w y1 y2 φ) (hR : gh_R ν w φ (40 * T)) {a b c : Nat} (ha : a < 41) (hb : b < 41) (hc : c < 41) : ∃ r : Bool, f_X12_allHit (((gq_L 1 <<< (gq_L a &&& gq_L 63)) ||| (gq_L 1 <<< (gq_L b &&& gq_L 63))) ||| (gq_L 1 <<< (gq_L c &&& gq_L 63))) ν = some r ∧ (r = true ↔ gh_H (gh_Rn w φ) a b c) := by
  obtain ⟨r, r1, r2⟩ := gh_all (((gq_L 1 <<< (gq_L a &&& gq_L 63)) ||| (gq_L 1 <<< (gq_L b &&& gq_L 63))) ||| (gq_L 1 <<< (gq_L c &&& gq_L 63))) ok hT2 hL hφ hR
  refine ⟨r, r1, r2.trans ⟨fun h st e ⟨b', h1, h2⟩ => ?_, fun h b' m' h1 => ?_⟩⟩
  · obtain ⟨j, j1, j2, j3⟩ := h b' st h1
    have hi := gh_hi ok hL hφ h1
    have := (gh_bits (j := j) ha hb hc (by omega)).mp j3
    omega
  · have hi := gh_hi ok hL hφ h1
    have k := h m' (m' + ga_l w b' - 1) ⟨b', h1, by omega⟩
    rcases k with k | k | k
    · exact ⟨a, by omega, by omega, (gh_bits (j := a) ha hb hc (by omega)).mpr (Or.inl rfl)⟩
    · exact ⟨b, by omega, by omega, (gh_bits (j := b) ha hb hc (by omega)).mpr (Or.inr (Or.inl rfl))⟩
    · exact ⟨c, by omega, by omega, (gh_bits (j := c) ha hb hc (by omega)).mpr (Or.inr (Or.inr rfl))⟩
def gh_up (ν : gx_M) (a b c : Nat) : gx_M := gx_uI (gx_uI (gx_uI ν 230 0 (gq_I a)) 230 1 (gq_I b)) 230 2 (gq_I c)
theorem gh_step {ν : gx_M} {T L n : Nat} {w : Nat → Int} {y1 y2 y : Int64} {φ : Nat → Nat → Bool} (ok : gq_okS w) (hT2 : w 2 = T) (hL : w 0 = L) (h25 : ν.1 206 25 = gq_I L) (hφ : gh_al w y1 y2 φ) (hR : gh_R ν w φ (40 * T)) (hn : n ≤ 3) {a b c f : Nat} (ha : a < L) (hb : b < L) (hc : c < L) {k : gx_M → Option (Int32 × gx_M)} : (gh_T (gh_Rn w φ) (gh_M y) a b c → L_X12_fewestHits_70 (gq_I n) y (gq_I a) (gq_I b) k (f + 1) (gq_I c) ν = some (gq_I n, gh_up ν a b c)) ∧ (¬ gh_T (gh_Rn w φ) (gh_M y) a b c → L_X12_fewestHits_70 (gq_I n) y (gq_I a) (gq_I b) k (f + 1) (gq_I c) ν = if 3 ≤ n then L_X12_fewestHits_70 (gq_I n) y (gq_I a) (gq_I b) k f (gq_I (c + 1 : Nat)) ν else k ν) := by
  have o0 := ok.1
  obtain ⟨r, r1, r2⟩ := gh_test ok hT2 hL hφ hR (a := a) (b := b) (c := c) (by omega) (by omega) (by omega)
  have ea := gh_has (x := y) (m := a) (by omega)
  have eb := gh_has (x := y) (m := b) (by omega)
  have ec := gh_has (x := y) (m := c) (by omega)
  have bits : ((((1 : Int64) <<< (((gq_I a) : Int32).toInt64 &&& 63)) ||| ((1 : Int64) <<< (((gq_I b) : Int32).toInt64 &&& 63))) ||| ((1 : Int64) <<< (((gq_I c) : Int32).toInt64 &&& 63))) = (((gq_L 1 <<< (gq_L a &&& gq_L 63)) ||| (gq_L 1 <<< (gq_L b &&& gq_L 63))) ||| (gq_L 1 <<< (gq_L c &&& gq_L 63))) := by
    rw [gq_toL (by omega), gq_toL (by omega), gq_toL (by omega)]
    rfl
  have J : (if (3 : Int32) ≤ gq_I n then L_X12_fewestHits_70 (gq_I n) y (gq_I a) (gq_I b) k f (gq_I c + 1) ν else k ν) = if 3 ≤ n then L_X12_fewestHits_70 (gq_I n) y (gq_I a) (gq_I b) k f (gq_I (c + 1 : Nat)) ν else k ν := by
    rw [gq_suc]
    by_cases g : 3 ≤ n
    · rw [if_pos g, if_pos (by rw [gq_lit, gq_le (by omega)]; omega)]
    · rw [if_neg g, if_neg (by rw [gq_lit, gq_le (by omega)]; omega)]
  have base : L_X12_fewestHits_70 (gq_I n) y (gq_I a) (gq_I b) k (f + 1) (gq_I c) ν = if gm_b y a = true then (if gm_b y b = true then (if gm_b y c = true then (if r = true then some (gq_I n, gh_up ν a b c) else (if (3 : Int32) ≤ gq_I n then L_X12_fewestHits_70 (gq_I n) y (gq_I a) (gq_I b) k f (gq_I c + 1) ν else k ν)) else (if (3 : Int32) ≤ gq_I n then L_X12_fewestHits_70 (gq_I n) y (gq_I a) (gq_I b) k f (gq_I c + 1) ν else k ν)) else (if (3 : Int32) ≤ gq_I n then L_X12_fewestHits_70 (gq_I n) y (gq_I a) (gq_I b) k f (gq_I c + 1) ν else k ν)) else (if (3 : Int32) ≤ gq_I n then L_X12_fewestHits_70 (gq_I n) y (gq_I a) (gq_I b) k f (gq_I c + 1) ν else k ν) := by
    rw [L_X12_fewestHits_70.eq_2, h25]
    refine (if_neg (by rw [gq_le (by omega)]; omega)).trans ?_
    rw [ea, eb, ec, bits, r1]
    rfl
  rw [base, J]
  constructor
  · rintro ⟨t1, t2, t3, t4⟩
    rw [if_pos t1, if_pos t2, if_pos t3, if_pos (r2.mpr t4)]
  · intro hn'
    by_cases t1 : gm_b y a = true
    · rw [if_pos t1]
      by_cases t2 : gm_b y b = true
      · rw [if_pos t2]
        by_cases t3 : gm_b y c = true
        · rw [if_pos t3]
          by_cases t4 : r = true
          · exact absurd ⟨t1, t2, t3, r2.mp t4⟩ hn'
          · rw [if_neg t4]
        · rw [if_neg t3]
      · rw [if_neg t2]
    · rw [if_neg t1]
/-- the third -/
theorem gh_c3 {ν : gx_M} {T L : Nat} {w : Nat → Int} {y1 y2 y : Int64} {φ : Nat → Nat → Bool} (ok : gq_okS w) (hT2 : w 2 = T) (hL : w 0 = L) (h25 : ν.1 206 25 = gq_I L) (hφ : gh_al w y1 y2 φ) (hR : gh_R ν w φ (40 * T)) {a b : Nat} (ha : a < L) (hb : b < L) {k : gx_M → Option (Int32 × gx_M)} : ∀ (d f c : Nat), d < f → c + d = L → b < c → (∀ c', c' < c → ¬ gh_PC (gh_Rn w φ) (gh_M y) L 3 a b c') → (∃ c', gh_PC (gh_Rn w φ) (gh_M y) L 3 a b c' ∧ (∀ c'', c'' < c' → ¬ gh_PC (gh_Rn w φ) (gh_M y) L 3 a b c'') ∧ L_X12_fewestHits_70 (gq_I (3 : Nat)) y (gq_I a) (gq_I b) k f (gq_I c) ν = some (gq_I (3 : Nat), gh_up ν a b c')) ∨ ((∀ c', ¬ gh_PC (gh_Rn w φ) (gh_M y) L 3 a b c') ∧ L_X12_fewestHits_70 (gq_I (3 : Nat)) y (gq_I a) (gq_I b) k f (gq_I c) ν = k ν)
  | _, 0, _, hf, _, _, _ => absurd hf (Nat.not_lt_zero _)
  | 0, f + 1, c, hf, hi, hbc, hmin => by
    have o0 := ok.1
    refine Or.inr ⟨fun c' h => ?_, ?_⟩
    · rcases h.1 with g | g
      · omega
      · exact hmin c' (by omega) h
    · rw [L_X12_fewestHits_70.eq_2, h25]
      exact if_pos (by rw [gq_le (by omega)]; omega)
  | d + 1, f + 1, c, hf, hi, hbc, hmin => by
    have o0 := ok.1
    obtain ⟨s1, s2⟩ := gh_step (n := 3) (y := y) ok hT2 hL h25 hφ hR (by omega) ha hb (c := c) (by omega) (f := f) (k := k)
    by_cases g : gh_T (gh_Rn w φ) (gh_M y) a b c
    · exact Or.inl ⟨c, ⟨Or.inr ⟨by omega, hbc, by omega⟩, g⟩, hmin, s1 g⟩
    · have e := s2 g
      rw [if_pos (by omega)] at e
      have ih := gh_c3 (y := y) ok hT2 hL h25 hφ hR ha hb (k := k) d f (c + 1) (by omega) (by omega) (by omega) fun c' h1 h2 => by
        by_cases e' : c' = c
        · rw [e'] at h2; exact g h2.2
        · exact hmin c' (by omega) h2
      rcases ih with ⟨c', i1, i2, i3⟩ | ⟨i1, i2⟩
      · exact Or.inl ⟨c', i1, i2, e.trans i3⟩
      · exact Or.inr ⟨i1, e.trans i2⟩
theorem gh_cl70 {ν : gx_M} {T L n : Nat} {w : Nat → Int} {y1 y2 y : Int64} {φ : Nat → Nat → Bool} (ok : gq_okS w) (hT2 : w 2 = T) (hL : w 0 = L) (h25 : ν.1 206 25 = gq_I L) (hφ : gh_al w y1 y2 φ) (hR : gh_R ν w φ (40 * T)) (hn : 1 ≤ n ∧ n ≤ 3) {a b : Nat} (ha : a < L) (hb : b < L) {k : gx_M → Option (Int32 × gx_M)} : (∃ c', gh_PC (gh_Rn w φ) (gh_M y) L n a b c' ∧ (∀ c'', c'' < c' → ¬ gh_PC (gh_Rn w φ) (gh_M y) L n a b c'') ∧ L_X12_fewestHits_70 (gq_I n) y (gq_I a) (gq_I b) k 4000 (if n ≤ 2 then gq_I b else gq_I (b + 1 : Nat)) ν = some (gq_I n, gh_up ν a b c')) ∨ ((∀ c', ¬ gh_PC (gh_Rn w φ) (gh_M y) L n a b c') ∧ L_X12_fewestHits_70 (gq_I n) y (gq_I a) (gq_I b) k 4000 (if n ≤ 2 then gq_I b else gq_I (b + 1 : Nat)) ν = k ν) := by
  have o0 := ok.1
  by_cases g : n ≤ 2
  · rw [if_pos g]
    obtain ⟨s1, s2⟩ := gh_step (n := n) (y := y) ok hT2 hL h25 hφ hR (by omega) ha hb hb (f := 3999) (k := k)
    by_cases g2 : gh_T (gh_Rn w φ) (gh_M y) a b b
    · refine Or.inl ⟨b, ⟨Or.inl ⟨g, rfl⟩, g2⟩, fun c'' h1 h2 => ?_, s1 g2⟩
      rcases h2.1 with h | h <;> omega
    · have e := s2 g2
      rw [if_neg (by omega)] at e
      refine Or.inr ⟨fun c' h => ?_, e⟩
      rcases h.1 with h1 | h1
      · have h2 := h.2
        rw [h1.2] at h2
        exact g2 h2
      · omega
  · have e3 : n = 3 := by omega
    subst e3
    rw [if_neg g]
    exact gh_c3 (y := y) ok hT2 hL h25 hφ hR ha hb (k := k) (L - (b + 1)) 4000 (b + 1) (by omega) (by omega) (by omega) fun c' h1 h2 => by
      rcases h2.1 with h | h <;> omega
/-- the second -/
theorem gh_b45 {ν : gx_M} {T L n : Nat} {w : Nat → Int} {y1 y2 y : Int64} {φ : Nat → Nat → Bool} (ok : gq_okS w) (hT2 : w 2 = T) (hL : w 0 = L) (h25 : ν.1 206 25 = gq_I L) (hφ : gh_al w y1 y2 φ) (hR : gh_R ν w φ (40 * T)) (hn : 1 ≤ n ∧ n ≤ 3) {a : Nat} (ha : a < L) {k : gx_M → Option (Int32 × gx_M)} : ∀ (d f b : Nat), d < f → b + d = L → (n ≤ 1 → b = a) → (2 ≤ n → a < b) → (∀ b', b' < b → ¬ gh_PB (gh_Rn w φ) (gh_M y) L n a b') → (∃ b' c', gh_PB (gh_Rn w φ) (gh_M y) L n a b' ∧ (∀ b'', b'' < b' → ¬ gh_PB (gh_Rn w φ) (gh_M y) L n a b'') ∧ gh_PC (gh_Rn w φ) (gh_M y) L n a b' c' ∧ (∀ c'', c'' < c' → ¬ gh_PC (gh_Rn w φ) (gh_M y) L n a b' c'') ∧ L_X12_fewestHits_45 (gq_I n) y (gq_I a) k f (gq_I b) ν = some (gq_I n, gh_up ν a b' c')) ∨ ((∀ b', ¬ gh_PB (gh_Rn w φ) (gh_M y) L n a b') ∧ L_X12_fewestHits_45 (gq_I n) y (gq_I a) k f (gq_I b) ν = k ν)
  | _, 0, _, hf, _, _, _, _ => absurd hf (Nat.not_lt_zero _)
  | 0, f + 1, b, hf, hi, h1, h2, hmin => by
    have o0 := ok.1
    refine Or.inr ⟨fun b' h => ?_, ?_⟩
    · rcases h.1 with g | g
      · have := h1 g.1
        omega
      · exact hmin b' (by omega) h
    · rw [L_X12_fewestHits_45.eq_2, h25]
      exact if_pos (by rw [gq_le (by omega)]; omega)
  | d + 1, f + 1, b, hf, hi, h1, h2, hmin => by
    have o0 := ok.1
    have cand : (n ≤ 1 ∧ b = a) ∨ (2 ≤ n ∧ a < b ∧ b < L) := by
      by_cases g : n ≤ 1
      · exact Or.inl ⟨g, h1 g⟩
      · exact Or.inr ⟨by omega, h2 (by omega), by omega⟩
    have base : L_X12_fewestHits_45 (gq_I n) y (gq_I a) k (f + 1) (gq_I b) ν = L_X12_fewestHits_70 (gq_I n) y (gq_I a) (gq_I b) (fun (μ39 : gx_M) => if (2 : Int32) ≤ gq_I n then L_X12_fewestHits_45 (gq_I n) y (gq_I a) k f (gq_I (b + 1 : Nat)) μ39 else k μ39) 4000 (if n ≤ 2 then gq_I b else gq_I (b + 1 : Nat)) ν := by
      rw [L_X12_fewestHits_45.eq_2, h25]
      refine (if_neg (by rw [gq_le (by omega)]; omega)).trans ?_
      simp only [gq_lte, gq_suc]
      by_cases g : n ≤ 2
      · rw [if_pos (by rw [gq_lit, gq_le (by omega)]; omega), if_pos g]
      · rw [if_neg (by rw [gq_lit, gq_le (by omega)]; omega), if_neg g]
    rcases gh_cl70 (y := y) ok hT2 hL h25 hφ hR hn ha (b := b) (by omega) (k := fun (μ39 : gx_M) => if (2 : Int32) ≤ gq_I n then L_X12_fewestHits_45 (gq_I n) y (gq_I a) k f (gq_I (b + 1 : Nat)) μ39 else k μ39) with ⟨c, c1, c2, c3⟩ | ⟨c1, c2⟩
    · exact Or.inl ⟨b, c, ⟨cand, c, c1⟩, hmin, c1, c2, base.trans c3⟩
    · have no : ¬ gh_PB (gh_Rn w φ) (gh_M y) L n a b := fun ⟨_, c, h⟩ => c1 c h
      by_cases g : 2 ≤ n
      · rw [if_pos (c := (2 : Int32) ≤ gq_I n) (by rw [gq_lit, gq_le (by omega)]; omega)] at c2
        have ih := gh_b45 (y := y) ok hT2 hL h25 hφ hR hn ha (k := k) d f (b + 1) (by omega) (by omega) (fun h => by omega) (fun h => by have := h2 h; omega) fun b' g1 g2 => by
          by_cases e' : b' = b
          · rw [e'] at g2; exact no g2
          · exact hmin b' (by omega) g2
        rcases ih with ⟨b', c', i1, i2, i3, i4, i5⟩ | ⟨i1, i2⟩
        · exact Or.inl ⟨b', c', i1, i2, i3, i4, base.trans (c2.trans i5)⟩
        · exact Or.inr ⟨i1, base.trans (c2.trans i2)⟩
      · rw [if_neg (c := (2 : Int32) ≤ gq_I n) (by rw [gq_lit, gq_le (by omega)]; omega)] at c2
        refine Or.inr ⟨fun b' h => ?_, base.trans c2⟩
        rcases h.1 with g1 | g1
        · have e1 := h1 g1.1
          have e2 : b' = b := by omega
          rw [e2] at h
          exact no h
        · omega
/-- the first -/
theorem gh_a20 {ν : gx_M} {T L n : Nat} {w : Nat → Int} {y1 y2 y : Int64} {φ : Nat → Nat → Bool} (ok : gq_okS w) (hT2 : w 2 = T) (hL : w 0 = L) (h25 : ν.1 206 25 = gq_I L) (hφ : gh_al w y1 y2 φ) (hR : gh_R ν w φ (40 * T)) (hn : 1 ≤ n ∧ n ≤ 3) {k : gx_M → Option (Int32 × gx_M)} : ∀ (d f a : Nat), d < f → a + d = L → (∀ a', a' < a → ¬ gh_PA (gh_Rn w φ) (gh_M y) L n a') → (∃ a' b' c', gh_PA (gh_Rn w φ) (gh_M y) L n a' ∧ (∀ a'', a'' < a' → ¬ gh_PA (gh_Rn w φ) (gh_M y) L n a'') ∧ gh_PB (gh_Rn w φ) (gh_M y) L n a' b' ∧ (∀ b'', b'' < b' → ¬ gh_PB (gh_Rn w φ) (gh_M y) L n a' b'') ∧ gh_PC (gh_Rn w φ) (gh_M y) L n a' b' c' ∧ (∀ c'', c'' < c' → ¬ gh_PC (gh_Rn w φ) (gh_M y) L n a' b' c'') ∧ L_X12_fewestHits_20 (gq_I n) y k f (gq_I a) ν = some (gq_I n, gh_up ν a' b' c')) ∨ ((∀ a', ¬ gh_PA (gh_Rn w φ) (gh_M y) L n a') ∧ L_X12_fewestHits_20 (gq_I n) y k f (gq_I a) ν = k ν)
  | _, 0, _, hf, _, _ => absurd hf (Nat.not_lt_zero _)
  | 0, f + 1, a, hf, hi, hmin => by
    have o0 := ok.1
    refine Or.inr ⟨fun a' h => hmin a' (by have := h.1; omega) h, ?_⟩
    rw [L_X12_fewestHits_20.eq_2, h25]
    exact if_pos (by rw [gq_le (by omega)]; omega)
  | d + 1, f + 1, a, hf, hi, hmin => by
    have o0 := ok.1
    have base : L_X12_fewestHits_20 (gq_I n) y k (f + 1) (gq_I a) ν = L_X12_fewestHits_45 (gq_I n) y (gq_I a) (fun (μ42 : gx_M) => L_X12_fewestHits_20 (gq_I n) y k f (gq_I (a + 1 : Nat)) μ42) 4000 (gq_I (if n ≤ 1 then a else a + 1 : Nat)) ν := by
      rw [L_X12_fewestHits_20.eq_2, h25]
      refine (if_neg (by rw [gq_le (by omega)]; omega)).trans ?_
      simp only [gq_lte, gq_suc]
      by_cases g : n ≤ 1
      · rw [if_pos (by rw [gq_lit, gq_le (by omega)]; omega), if_pos g]
      · rw [if_neg (by rw [gq_lit, gq_le (by omega)]; omega), if_neg g]
    have lv := gh_b45 (y := y) ok hT2 hL h25 hφ hR hn (a := a) (by omega) (k := fun (μ42 : gx_M) => L_X12_fewestHits_20 (gq_I n) y k f (gq_I (a + 1 : Nat)) μ42) (L - (if n ≤ 1 then a else a + 1)) 4000 (if n ≤ 1 then a else a + 1) (by omega) (by split <;> omega) (fun h => if_pos h) (fun h => by rw [if_neg (by omega)]; omega) fun b' h1 h2 => by
      rcases h2.1 with h | h
      · rw [if_pos h.1] at h1
        omega
      · rw [if_neg (by omega)] at h1
        omega
    rcases lv with ⟨b', c', c1, c2, c3, c4, c5⟩ | ⟨c1, c2⟩
    · exact Or.inl ⟨a, b', c', ⟨by omega, b', c1⟩, hmin, c1, c2, c3, c4, base.trans c5⟩
    · have no : ¬ gh_PA (gh_Rn w φ) (gh_M y) L n a := fun ⟨_, b, h⟩ => c1 b h
      have ih := gh_a20 (y := y) ok hT2 hL h25 hφ hR hn (k := k) d f (a + 1) (by omega) (by omega) fun a' g1 g2 => by
        by_cases e' : a' = a
        · rw [e'] at g2; exact no g2
        · exact hmin a' (by omega) g2
      rcases ih with ⟨a', b', c', i⟩ | ⟨i1, i2⟩
      · obtain ⟨i1, i2, i3, i4, i5, i6, i7⟩ := i
        exact Or.inl ⟨a', b', c', i1, i2, i3, i4, i5, i6, base.trans (c2.trans i7)⟩
      · exact Or.inr ⟨i1, base.trans (c2.trans i2)⟩
