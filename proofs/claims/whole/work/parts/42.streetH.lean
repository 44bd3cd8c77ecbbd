/-! lines of streets -/
theorem gp_fillL {a x y : Nat} {v : Int32} (hb : a + y < 161) {k : gx_M → Option (Unit × gx_M)} : ∀ (d f i : Nat) (ν : gx_M), d < f → i + d = y + 1 → ¬ ν.1 206 23 = gq_I 0 → ∃ ν', L_X12_fill_3 (gq_I y) (gq_I a) v k f (gq_I i) ν = k ν' ∧ (∀ j, i ≤ j → j ≤ y → ν'.1 216 (a + j) = v) ∧ (∀ b j, ¬ (b = 216 ∧ a + i ≤ j ∧ j ≤ a + y) → ν'.1 b j = ν.1 b j) ∧ ν'.2 = ν.2
  | _, 0, _, _, hf, _, _ => absurd hf (Nat.not_lt_zero _)
  | 0, f + 1, i, ν, hf, hi, hg => by
    refine ⟨ν, ?_, fun j h2 h3 => absurd h3 (by omega), fun _ _ _ => rfl, rfl⟩
    rw [L_X12_fill_3.eq_2]
    simp (disch := omega) only [Bool.false_eq_true, gq_leT, gq_leF, gq_ltT, gq_ltF, gq_eqT, gq_eqF, if_true, if_false]
  | d + 1, f + 1, i, ν, hf, hi, hg => by
    obtain ⟨ν', e1, e2, e3, e4⟩ := gp_fillL (a := a) (x := x) (v := v) hb (k := k) d f (i + 1) (gx_uI ν 216 (a + i) v) (by omega) (by omega) (by rw [gq_uI1, if_neg (by omega)]; exact hg)
    refine ⟨ν', ?_, fun j h2 h3 => ?_, fun b j ha => ?_, e4⟩
    · rw [L_X12_fill_3.eq_2, ← e1]
      simp (disch := omega) only [Int.reduceToNat, gq_lit, gq_neg, gq_add, gq_sub, gq_mul, gq_nat, Int.toNat_natCast, gq_tadd, gq_tmul, gq_lte, gq_br, gq_bd, gq_ck, Bool.false_eq_true, gq_leT, gq_leF, gq_ltT, gq_ltF, gq_eqT, gq_eqF, if_true, if_false, hg]
      rfl
    · by_cases hj : j = i
      · subst hj
        rw [e3 _ _ (by omega), gq_uI1, if_pos ⟨rfl, rfl⟩]
      · exact e2 j (by omega) h3
    · rw [e3 _ _ (by omega), gq_uI1, if_neg (by omega)]
theorem gp_fill {a : Nat} {x y : Int} {v : Int32} {ν : gx_M} (ha : a ≤ 71) (hx : 0 ≤ x ∧ x ≤ 39) (hy : x ≤ y ∧ y ≤ 39) (hg : ¬ ν.1 206 23 = gq_I 0) : ∃ ν', f_X12_fill (gq_I a) (gq_I x) (gq_I y) v ν = some ((), ν') ∧ (∀ j : Nat, x ≤ j → (j : Int) ≤ y → ν'.1 216 (a + j) = v) ∧ (∀ b j, ¬ (b = 216 ∧ a + x.toNat ≤ j ∧ j ≤ a + y.toNat) → ν'.1 b j = ν.1 b j) ∧ ν'.2 = ν.2 := by
  obtain ⟨ν', e1, e2, e3, e4⟩ := gp_fillL (a := a) (x := x.toNat) (y := y.toNat) (v := v) (by omega) (k := fun (μ9 : gx_M) => some ((), μ9)) (y.toNat + 1 - x.toNat) 4000 x.toNat ν (by omega) (by omega) hg
  rw [Int.toNat_of_nonneg (by omega), Int.toNat_of_nonneg (by omega)] at e1
  exact ⟨ν', e1, fun j h1 h2 => e2 j (by omega) (by omega), fun b j h => e3 b j h, e4⟩
theorem gp_fill0 {a x : Int} {y v : Int32} {ν : gx_M} (hg : ν.1 206 23 = gq_I 0) : f_X12_fill (gq_I a) (gq_I x) y v ν = some ((), ν) := by
  unfold f_X12_fill
  rw [L_X12_fill_3.eq_2, hg]
  simp only [gq_lit, if_true]
  split <;> rfl
theorem gp_fillN {a x : Int} {v : Int32} {ν : gx_M} (hx : 0 ≤ x ∧ x ≤ 99) : f_X12_fill (gq_I a) (gq_I x) (gq_I (-1)) v ν = some ((), ν) := by
  unfold f_X12_fill
  rw [L_X12_fill_3.eq_2]
  simp (disch := omega) only [Bool.false_eq_true, gq_leT, gq_leF, gq_ltT, gq_ltF, gq_eqT, gq_eqF, if_true, if_false]
theorem gp_jfL {a n y : Nat} {v : Int32} (hb : y ≤ n) (hn : n ≤ 1000) {k : gx_M → Option (Unit × gx_M)} : ∀ (d f i : Nat) (μ : gx_M), d < f → i + d = y → ∃ μ', L_J7_fill_fda19_10 (gq_I y) n a v k f (gq_I i) μ = k μ' ∧ (∀ j, i ≤ j → j < y → μ'.1 a j = v) ∧ (∀ b j, ¬ (b = a ∧ i ≤ j ∧ j < y) → μ'.1 b j = μ.1 b j) ∧ μ'.2 = μ.2
  | _, 0, _, _, hf, _ => absurd hf (Nat.not_lt_zero _)
  | 0, f + 1, i, μ, hf, hi => by
    refine ⟨μ, ?_, fun j h2 h3 => absurd h3 (by omega), fun _ _ _ => rfl, rfl⟩
    rw [L_J7_fill_fda19_10.eq_2]
    simp (disch := omega) only [Bool.false_eq_true, gq_leT, gq_leF, gq_ltT, gq_ltF, gq_eqT, gq_eqF, if_true, if_false]
  | d + 1, f + 1, i, μ, hf, hi => by
    obtain ⟨μ', e1, e2, e3, e4⟩ := gp_jfL (a := a) (v := v) hb hn (k := k) d f (i + 1) (gx_uI μ a i v) (by omega) (by omega)
    refine ⟨μ', ?_, fun j h2 h3 => ?_, fun b j ha => ?_, e4⟩
    · rw [L_J7_fill_fda19_10.eq_2, ← e1]
      simp (disch := omega) only [Int.reduceToNat, gq_lit, gq_neg, gq_add, gq_sub, gq_mul, gq_nat, Int.toNat_natCast, gq_tadd, gq_tmul, gq_lte, gq_br, gq_bd, gq_ck, Bool.false_eq_true, gq_leT, gq_leF, gq_ltT, gq_ltF, gq_eqT, gq_eqF, if_true, if_false]
      rfl
    · by_cases hj : j = i
      · subst hj
        rw [e3 _ _ (by omega), gq_uI1, if_pos ⟨rfl, rfl⟩]
      · exact e2 j (by omega) h3
    · rw [e3 _ _ (by omega), gq_uI1, if_neg (by omega)]
theorem gp_jf {a : Nat} {x y : Int} {v : Int32} {μ : gx_M} (hx : 0 ≤ x ∧ x ≤ y ∧ y ≤ 39) : ∃ μ', f_J7_fill_fda19 a 40 (gq_I x) (gq_I (y + 1)) v μ = some ((), μ') ∧ (∀ j : Nat, x ≤ j → (j : Int) ≤ y → μ'.1 a j = v) ∧ (∀ b j, ¬ (b = a ∧ x.toNat ≤ j ∧ j ≤ y.toNat) → μ'.1 b j = μ.1 b j) ∧ μ'.2 = μ.2 := by
  obtain ⟨μ', e1, e2, e3, e4⟩ := gp_jfL (a := a) (n := 40) (y := y.toNat + 1) (v := v) (by omega) (by omega) (k := fun (μ9 : gx_M) => some ((), μ9)) (y.toNat + 1 - x.toNat) 4000 x.toNat μ (by omega) (by omega)
  have ey : ((y.toNat + 1 : Nat) : Int) = y + 1 := by omega
  rw [ey, Int.toNat_of_nonneg (by omega)] at e1
  refine ⟨μ', ?_, fun j h1 h2 => e2 j (by omega) (by omega), fun b j h => e3 b j (by omega), e4⟩
  unfold f_J7_fill_fda19 f_J7_rangeCheck_23922
  rw [gq_oN]
  simp (disch := omega) only [gq_lit, Bool.false_eq_true, gq_leT, gq_leF, gq_ltT, gq_ltF, gq_eqT, gq_eqF, if_true, if_false, gq_br]
  exact e1
/-- where a street's told numbers change -/
theorem gp_pS_up {w : Nat → Int} {m o m' o' : Int} (h : gp_pS w m o) (hm : m ≤ m' ∧ m' ≤ 39) (ho : o ≤ o' ∧ o' ≤ 3) : gp_pS w m' o' := by
  obtain ⟨h1, h2, h3, h4, h5, h6, h7, h8, h9⟩ := h
  refine ⟨h1, h2, h3, h4, fun b hb => ?_, h6, fun j hj => ?_, by omega, by omega⟩
  · have := h5 b hb
    omega
  · have := h7 j hj
    omega
theorem gp_pS_0 {w : Nat → Int} {m o v : Int} (h : gp_pS w m o) (hv : 1 ≤ v ∧ v ≤ 40) : gp_pS (fun j => if j = 0 then v else w j) m o := by
  obtain ⟨h1, h2, h3, h4, h5, h6, h7, h8, h9⟩ := h
  refine ⟨hv, h2, h3, fun p hp => ?_, fun b hb => ?_, fun j hj => ?_, fun j hj => ?_, h8, h9⟩
  · have := h4 p hp
    simp (disch := omega) only [gq_ifF]
    exact this
  · have := h5 b hb
    simp (disch := omega) only [gq_ifF]
    exact this
  · have := h6 j hj
    simp (disch := omega) only [gq_ifF]
    exact this
  · have := h7 j hj
    simp (disch := omega) only [gq_ifF]
    exact this
theorem gp_pS_1 {w : Nat → Int} {m o v : Int} (h : gp_pS w m o) (hv : 1 ≤ v ∧ v ≤ 4) : gp_pS (fun j => if j = 1 then v else w j) m o := by
  obtain ⟨h1, h2, h3, h4, h5, h6, h7, h8, h9⟩ := h
  refine ⟨h1, hv, h3, fun p hp => ?_, fun b hb => ?_, fun j hj => ?_, fun j hj => ?_, h8, h9⟩
  · have := h4 p hp
    simp (disch := omega) only [gq_ifF]
    exact this
  · have := h5 b hb
    simp (disch := omega) only [gq_ifF]
    exact this
  · have := h6 j hj
    simp (disch := omega) only [gq_ifF]
    exact this
  · have := h7 j hj
    simp (disch := omega) only [gq_ifF]
    exact this
theorem gp_pS_2 {w : Nat → Int} {m o v : Int} {x : Nat} (h : gp_pS w m o) (hx : x < 4) (hv : 0 ≤ v ∧ v ≤ 99) : gp_pS (fun j => if j = 3 + x then v else w j) m o := by
  obtain ⟨h1, h2, h3, h4, h5, h6, h7, h8, h9⟩ := h
  refine ⟨?_, ?_, ?_, fun p hp => ?_, fun b hb => ?_, fun j hj => ?_, fun j hj => ?_, h8, h9⟩
  · simp (disch := omega) only [gq_ifF]; exact h1
  · simp (disch := omega) only [gq_ifF]; exact h2
  · simp (disch := omega) only [gq_ifF]; exact h3
  · have := h4 p hp
    show 0 ≤ (if 3 + p = 3 + x then v else w (3 + p)) ∧ (if 3 + p = 3 + x then v else w (3 + p)) ≤ 99
    split <;> omega
  · have hb2 : (b : Int) < w 2 := by
      have g : (if 2 = 3 + x then v else w 2) = w 2 := if_neg (by omega)
      rw [← g]; exact hb
    have := h5 b hb2
    simp (disch := omega) only [gq_ifF]
    exact this
  · have := h6 j hj
    simp (disch := omega) only [gq_ifF]
    exact this
  · have := h7 j hj
    simp (disch := omega) only [gq_ifF]
    exact this
theorem gp_pS_3 {w : Nat → Int} {m o v x y : Int} (h : gp_pS w m o) (hx : 0 ≤ x ∧ x ≤ y ∧ y ≤ 39) (hv : 0 ≤ v ∧ v ≤ 9) : gp_pS (fun j => if 31 + x ≤ j ∧ (j : Int) ≤ 31 + y then v else w j) m o := by
  obtain ⟨h1, h2, h3, h4, h5, h6, h7, h8, h9⟩ := h
  refine ⟨?_, ?_, ?_, fun p hp => ?_, fun b hb => ?_, fun j hj => ?_, fun j hj => ?_, h8, h9⟩
  · simp (disch := omega) only [gq_ifF]; exact h1
  · simp (disch := omega) only [gq_ifF]; exact h2
  · simp (disch := omega) only [gq_ifF]; exact h3
  · have := h4 p hp
    simp (disch := omega) only [gq_ifF]
    exact this
  · have hb2 : (b : Int) < w 2 := by
      have g : (if 31 + x ≤ ((2 : Nat) : Int) ∧ ((2 : Nat) : Int) ≤ 31 + y then v else w 2) = w 2 := if_neg (by omega)
      rw [← g]; exact hb
    have := h5 b hb2
    simp (disch := omega) only [gq_ifF]
    exact this
  · have := h6 j hj
    show 0 ≤ (if 31 + x ≤ ((31 + j : Nat) : Int) ∧ ((31 + j : Nat) : Int) ≤ 31 + y then v else w (31 + j)) ∧ (if 31 + x ≤ ((31 + j : Nat) : Int) ∧ ((31 + j : Nat) : Int) ≤ 31 + y then v else w (31 + j)) ≤ 9
    split <;> omega
  · have := h7 j hj
    simp (disch := omega) only [gq_ifF]
    exact this
theorem gp_pS_4 {w : Nat → Int} {m o v x y : Int} (h : gp_pS w m o) (hx : 0 ≤ x ∧ x ≤ y ∧ y ≤ 39) (hv : 0 ≤ v ∧ v ≤ o) : gp_pS (fun j => if 71 + x ≤ j ∧ (j : Int) ≤ 71 + y then v else w j) m o := by
  obtain ⟨h1, h2, h3, h4, h5, h6, h7, h8, h9⟩ := h
  refine ⟨?_, ?_, ?_, fun p hp => ?_, fun b hb => ?_, fun j hj => ?_, fun j hj => ?_, h8, h9⟩
  · simp (disch := omega) only [gq_ifF]; exact h1
  · simp (disch := omega) only [gq_ifF]; exact h2
  · simp (disch := omega) only [gq_ifF]; exact h3
  · have := h4 p hp
    simp (disch := omega) only [gq_ifF]
    exact this
  · have hb2 : (b : Int) < w 2 := by
      have g : (if 71 + x ≤ ((2 : Nat) : Int) ∧ ((2 : Nat) : Int) ≤ 71 + y then v else w 2) = w 2 := if_neg (by omega)
      rw [← g]; exact hb
    have := h5 b hb2
    simp (disch := omega) only [gq_ifF]
    exact this
  · have := h6 j hj
    simp (disch := omega) only [gq_ifF]
    exact this
  · have := h7 j hj
    show -1 ≤ (if 71 + x ≤ ((71 + j : Nat) : Int) ∧ ((71 + j : Nat) : Int) ≤ 71 + y then v else w (71 + j)) ∧ (if 71 + x ≤ ((71 + j : Nat) : Int) ∧ ((71 + j : Nat) : Int) ≤ 71 + y then v else w (71 + j)) ≤ o
    split <;> omega
def gp_u5 (w : Nat → Int) (n : Nat) (a b c d : Int) (j : Nat) : Int := if j = 2 then ((n + 1 : Nat) : Int) else if j = 7 + n then a else if j = 13 + n then b else if j = 19 + n then c else if j = 25 + n then d else w j
theorem gp_u5_o {w : Nat → Int} {n j : Nat} {a b c d : Int} (h : j ≠ 2) (h1 : j ≠ 7 + n) (h2 : j ≠ 13 + n) (h3 : j ≠ 19 + n) (h4 : j ≠ 25 + n) : gp_u5 w n a b c d j = w j := by
  unfold gp_u5
  rw [if_neg h, if_neg h1, if_neg h2, if_neg h3, if_neg h4]
theorem gp_u5_n {w : Nat → Int} {n : Nat} {a b c d : Int} (hn : n < 6) : gp_u5 w n a b c d 2 = ((n + 1 : Nat) : Int) ∧ gp_u5 w n a b c d (7 + n) = a ∧ gp_u5 w n a b c d (13 + n) = b ∧ gp_u5 w n a b c d (19 + n) = c ∧ gp_u5 w n a b c d (25 + n) = d := by
  unfold gp_u5
  refine ⟨?_, ?_, ?_, ?_, ?_⟩
  · rw [if_pos rfl]
  · rw [if_neg (by omega), if_pos rfl]
  · rw [if_neg (by omega), if_neg (by omega), if_pos rfl]
  · rw [if_neg (by omega), if_neg (by omega), if_neg (by omega), if_pos rfl]
  · rw [if_neg (by omega), if_neg (by omega), if_neg (by omega), if_neg (by omega), if_pos rfl]
theorem gp_pS_5 {w : Nat → Int} {m o a b c d : Int} {n : Nat} (h : gp_pS w m o) (hn : n < 6) (hw : w 2 = n) (ha : 1 ≤ a ∧ a ≤ 9) (hb : 0 ≤ b ∧ b ≤ c ∧ c ≤ m) (hd : 0 ≤ d ∧ d ≤ 99) : gp_pS (gp_u5 w n a b c d) m o := by
  obtain ⟨h1, h2, h3, h4, h5, h6, h7, h8, h9⟩ := h
  obtain ⟨n0, n1, n2, n3, n4⟩ := gp_u5_n (w := w) (a := a) (b := b) (c := c) (d := d) hn
  refine ⟨?_, ?_, ?_, fun p hp => ?_, fun k hk => ?_, fun j hj => ?_, fun j hj => ?_, h8, h9⟩
  · rw [gp_u5_o (by omega) (by omega) (by omega) (by omega) (by omega)]; exact h1
  · rw [gp_u5_o (by omega) (by omega) (by omega) (by omega) (by omega)]; exact h2
  · rw [n0]; omega
  · rw [gp_u5_o (by omega) (by omega) (by omega) (by omega) (by omega)]; exact h4 p hp
  · rw [n0] at hk
    by_cases g : k = n
    · subst g
      rw [n1, n2, n3, n4]
      omega
    · have := h5 k (by omega)
      rw [gp_u5_o (by omega) (by omega) (by omega) (by omega) (by omega), gp_u5_o (by omega) (by omega) (by omega) (by omega) (by omega), gp_u5_o (by omega) (by omega) (by omega) (by omega) (by omega), gp_u5_o (by omega) (by omega) (by omega) (by omega) (by omega)]
      exact this
  · rw [gp_u5_o (by omega) (by omega) (by omega) (by omega) (by omega)]; exact h6 j hj
  · rw [gp_u5_o (by omega) (by omega) (by omega) (by omega) (by omega)]; exact h7 j hj
