theorem gp_cS_0 {μ μ' : gx_M} {w : Nat → Int} {v : Int} (h : gq_cS μ 45 w) (e0 : μ'.1 45 0 = gq_I v) (e : ∀ a j, 45 ≤ a → a ≤ 52 → ¬ (a = 45 ∧ j = 0) → μ'.1 a j = μ.1 a j) : gq_cS μ' 45 (fun j => if j = 0 then v else w j) := by
  obtain ⟨⟨c0, c1, c2⟩, c3, c4, c5, c6⟩ := h
  refine ⟨⟨e0, ?_, ?_⟩, fun p hp => ?_, fun p hp => ?_, fun p hp => ?_, fun b hb => ?_⟩
  · rw [e _ _ (by omega) (by omega) (by omega)]; exact c1
  · rw [e _ _ (by omega) (by omega) (by omega)]; exact c2
  · rw [e _ _ (by omega) (by omega) (by omega), c3 p hp]; simp (disch := omega) only [gq_ifF]
  · rw [e _ _ (by omega) (by omega) (by omega), c4 p hp]; simp (disch := omega) only [gq_ifF]
  · rw [e _ _ (by omega) (by omega) (by omega), c5 p hp]; simp (disch := omega) only [gq_ifF]
  · have := c6 b hb
    rw [e _ _ (by omega) (by omega) (by omega), e _ _ (by omega) (by omega) (by omega), e _ _ (by omega) (by omega) (by omega), e _ _ (by omega) (by omega) (by omega)]
    simp (disch := omega) only [gq_ifF]
    exact this
theorem gp_cS_1 {μ μ' : gx_M} {w : Nat → Int} {v : Int} (h : gq_cS μ 45 w) (e0 : μ'.1 45 1 = gq_I v) (e : ∀ a j, 45 ≤ a → a ≤ 52 → ¬ (a = 45 ∧ j = 1) → μ'.1 a j = μ.1 a j) : gq_cS μ' 45 (fun j => if j = 1 then v else w j) := by
  obtain ⟨⟨c0, c1, c2⟩, c3, c4, c5, c6⟩ := h
  refine ⟨⟨?_, e0, ?_⟩, fun p hp => ?_, fun p hp => ?_, fun p hp => ?_, fun b hb => ?_⟩
  · rw [e _ _ (by omega) (by omega) (by omega)]; exact c0
  · rw [e _ _ (by omega) (by omega) (by omega)]; exact c2
  · rw [e _ _ (by omega) (by omega) (by omega), c3 p hp]; simp (disch := omega) only [gq_ifF]
  · rw [e _ _ (by omega) (by omega) (by omega), c4 p hp]; simp (disch := omega) only [gq_ifF]
  · rw [e _ _ (by omega) (by omega) (by omega), c5 p hp]; simp (disch := omega) only [gq_ifF]
  · have := c6 b hb
    rw [e _ _ (by omega) (by omega) (by omega), e _ _ (by omega) (by omega) (by omega), e _ _ (by omega) (by omega) (by omega), e _ _ (by omega) (by omega) (by omega)]
    simp (disch := omega) only [gq_ifF]
    exact this
theorem gp_cS_2 {μ μ' : gx_M} {w : Nat → Int} {v : Int} {x : Nat} (h : gq_cS μ 45 w) (e0 : μ'.1 46 x = gq_I v) (e : ∀ a j, 45 ≤ a → a ≤ 52 → ¬ (a = 46 ∧ j = x) → μ'.1 a j = μ.1 a j) (hx : x < 4) : gq_cS μ' 45 (fun j => if j = 3 + x then v else w j) := by
  obtain ⟨⟨c0, c1, c2⟩, c3, c4, c5, c6⟩ := h
  refine ⟨⟨?_, ?_, ?_⟩, fun p hp => ?_, fun p hp => ?_, fun p hp => ?_, fun b hb => ?_⟩
  · rw [e _ _ (by omega) (by omega) (by omega), c0]; simp (disch := omega) only [gq_ifF]
  · rw [e _ _ (by omega) (by omega) (by omega), c1]; simp (disch := omega) only [gq_ifF]
  · rw [e _ _ (by omega) (by omega) (by omega), c2]; simp (disch := omega) only [gq_ifF]
  · by_cases g : p = x
    · subst g
      rw [e0]
      simp only [if_true]
    · rw [e _ _ (by omega) (by omega) (by omega), c3 p hp]; simp (disch := omega) only [gq_ifF]
  · rw [e _ _ (by omega) (by omega) (by omega), c4 p hp]; simp (disch := omega) only [gq_ifF]
  · rw [e _ _ (by omega) (by omega) (by omega), c5 p hp]; simp (disch := omega) only [gq_ifF]
  · have hb2 : (b : Int) < w 2 := by
      have g : (if 2 = 3 + x then v else w 2) = w 2 := if_neg (by omega)
      rw [← g]; exact hb
    have := c6 b hb2
    rw [e _ _ (by omega) (by omega) (by omega), e _ _ (by omega) (by omega) (by omega), e _ _ (by omega) (by omega) (by omega), e _ _ (by omega) (by omega) (by omega)]
    simp (disch := omega) only [gq_ifF]
    exact this
theorem gp_cS_3 {μ μ' : gx_M} {w : Nat → Int} {v x y : Int} (h : gq_cS μ 45 w) (hx : 0 ≤ x ∧ x ≤ y ∧ y ≤ 39) (e0 : ∀ j : Nat, x ≤ j → (j : Int) ≤ y → μ'.1 47 j = gq_I v) (e : ∀ a j, 45 ≤ a → a ≤ 52 → ¬ (a = 47 ∧ x.toNat ≤ j ∧ j ≤ y.toNat) → μ'.1 a j = μ.1 a j) (w6 : w 2 ≤ 6) : gq_cS μ' 45 (fun j => if 31 + x ≤ j ∧ (j : Int) ≤ 31 + y then v else w j) := by
  obtain ⟨⟨c0, c1, c2⟩, c3, c4, c5, c6⟩ := h
  refine ⟨⟨?_, ?_, ?_⟩, fun p hp => ?_, fun p hp => ?_, fun p hp => ?_, fun b hb => ?_⟩
  · rw [e _ _ (by omega) (by omega) (by omega), c0]; simp (disch := omega) only [gq_ifF]
  · rw [e _ _ (by omega) (by omega) (by omega), c1]; simp (disch := omega) only [gq_ifF]
  · rw [e _ _ (by omega) (by omega) (by omega), c2]; simp (disch := omega) only [gq_ifF]
  · rw [e _ _ (by omega) (by omega) (by omega), c3 p hp]; simp (disch := omega) only [gq_ifF]
  · by_cases g : x ≤ p ∧ (p : Int) ≤ y
    · rw [e0 p g.1 g.2]
      simp (disch := omega) only [gq_ifT]
    · rw [e _ _ (by omega) (by omega) (by omega), c4 p hp]; simp (disch := omega) only [gq_ifF]
  · rw [e _ _ (by omega) (by omega) (by omega), c5 p hp]; simp (disch := omega) only [gq_ifF]
  · have hb2 : (b : Int) < w 2 := by
      have g : (if 31 + x ≤ ((2 : Nat) : Int) ∧ ((2 : Nat) : Int) ≤ 31 + y then v else w 2) = w 2 := if_neg (by omega)
      rw [← g]; exact hb
    have := c6 b hb2
    rw [e _ _ (by omega) (by omega) (by omega), e _ _ (by omega) (by omega) (by omega), e _ _ (by omega) (by omega) (by omega), e _ _ (by omega) (by omega) (by omega)]
    simp (disch := omega) only [gq_ifF]
    exact this
theorem gp_cS_4 {μ μ' : gx_M} {w : Nat → Int} {v x y : Int} (h : gq_cS μ 45 w) (hx : 0 ≤ x ∧ x ≤ y ∧ y ≤ 39) (e0 : ∀ j : Nat, x ≤ j → (j : Int) ≤ y → μ'.1 48 j = gq_I v) (e : ∀ a j, 45 ≤ a → a ≤ 52 → ¬ (a = 48 ∧ x.toNat ≤ j ∧ j ≤ y.toNat) → μ'.1 a j = μ.1 a j) (w6 : w 2 ≤ 6) : gq_cS μ' 45 (fun j => if 71 + x ≤ j ∧ (j : Int) ≤ 71 + y then v else w j) := by
  obtain ⟨⟨c0, c1, c2⟩, c3, c4, c5, c6⟩ := h
  refine ⟨⟨?_, ?_, ?_⟩, fun p hp => ?_, fun p hp => ?_, fun p hp => ?_, fun b hb => ?_⟩
  · rw [e _ _ (by omega) (by omega) (by omega), c0]; simp (disch := omega) only [gq_ifF]
  · rw [e _ _ (by omega) (by omega) (by omega), c1]; simp (disch := omega) only [gq_ifF]
  · rw [e _ _ (by omega) (by omega) (by omega), c2]; simp (disch := omega) only [gq_ifF]
  · rw [e _ _ (by omega) (by omega) (by omega), c3 p hp]; simp (disch := omega) only [gq_ifF]
  · rw [e _ _ (by omega) (by omega) (by omega), c4 p hp]; simp (disch := omega) only [gq_ifF]
  · by_cases g : x ≤ p ∧ (p : Int) ≤ y
    · rw [e0 p g.1 g.2]
      simp (disch := omega) only [gq_ifT]
    · rw [e _ _ (by omega) (by omega) (by omega), c5 p hp]; simp (disch := omega) only [gq_ifF]
  · have hb2 : (b : Int) < w 2 := by
      have g : (if 71 + x ≤ ((2 : Nat) : Int) ∧ ((2 : Nat) : Int) ≤ 71 + y then v else w 2) = w 2 := if_neg (by omega)
      rw [← g]; exact hb
    have := c6 b hb2
    rw [e _ _ (by omega) (by omega) (by omega), e _ _ (by omega) (by omega) (by omega), e _ _ (by omega) (by omega) (by omega), e _ _ (by omega) (by omega) (by omega)]
    simp (disch := omega) only [gq_ifF]
    exact this
theorem gp_cS_5 {μ μ' : gx_M} {w : Nat → Int} {n : Nat} {a b c d : Int} (h : gq_cS μ 45 w) (hw : w 2 = n) (hn : n < 6) (e2 : μ'.1 45 2 = gq_I (n + 1 : Nat)) (ea : μ'.1 49 n = gq_I a) (eb : μ'.1 50 n = gq_I b) (ec : μ'.1 51 n = gq_I c) (ed : μ'.1 52 n = gq_I d) (e : ∀ a j, 45 ≤ a → a ≤ 52 → ¬ (a = 45 ∧ j = 2) → ¬ (49 ≤ a ∧ j = n) → μ'.1 a j = μ.1 a j) : gq_cS μ' 45 (gp_u5 w n a b c d) := by
  obtain ⟨⟨c0, c1, c2⟩, c3, c4, c5, c6⟩ := h
  obtain ⟨n0, n1, n2, n3, n4⟩ := gp_u5_n (w := w) (a := a) (b := b) (c := c) (d := d) hn
  refine ⟨⟨?_, ?_, ?_⟩, fun p hp => ?_, fun p hp => ?_, fun p hp => ?_, fun k hk => ?_⟩
  · rw [e _ _ (by omega) (by omega) (by omega) (by omega), c0, gp_u5_o (by omega) (by omega) (by omega) (by omega) (by omega)]
  · rw [e _ _ (by omega) (by omega) (by omega) (by omega), c1, gp_u5_o (by omega) (by omega) (by omega) (by omega) (by omega)]
  · rw [e2, n0]
  · rw [e _ _ (by omega) (by omega) (by omega) (by omega), c3 p hp, gp_u5_o (by omega) (by omega) (by omega) (by omega) (by omega)]
  · rw [e _ _ (by omega) (by omega) (by omega) (by omega), c4 p hp, gp_u5_o (by omega) (by omega) (by omega) (by omega) (by omega)]
  · rw [e _ _ (by omega) (by omega) (by omega) (by omega), c5 p hp, gp_u5_o (by omega) (by omega) (by omega) (by omega) (by omega)]
  · rw [n0] at hk
    by_cases g : k = n
    · subst g
      rw [n1, n2, n3, n4]
      exact ⟨ea, eb, ec, ed⟩
    · have := c6 k (by omega)
      rw [gp_u5_o (by omega) (by omega) (by omega) (by omega) (by omega), gp_u5_o (by omega) (by omega) (by omega) (by omega) (by omega), gp_u5_o (by omega) (by omega) (by omega) (by omega) (by omega), gp_u5_o (by omega) (by omega) (by omega) (by omega) (by omega), e _ _ (by omega) (by omega) (by omega) (by omega), e _ _ (by omega) (by omega) (by omega) (by omega), e _ _ (by omega) (by omega) (by omega) (by omega), e _ _ (by omega) (by omega) (by omega) (by omega)]
      exact this
theorem gp_inj2 {a b : Int} {x : Int32} (h1 : x = gq_I a) (h2 : x = gq_I b) (h : (-2147483648 ≤ a ∧ a < 2147483648) ∧ -2147483648 ≤ b ∧ b < 2147483648) : a = b := by
  rw [h1, gq_eq h] at h2
  exact h2
