/-! the first memory; the law's loop -/
theorem gq_1_tape : ∀ k, k < 600 → gx_M1.1 7 k = gq_I 0 ∧ gx_M1.1 207 k = gq_I 0 := by decide +kernel
theorem gq_1_many : ∀ q, q < 4 → gx_M1.1 2 q = gq_I 0 ∧ gx_M1.1 211 q = gq_I 0 := by decide +kernel
theorem gq_1_told : (gx_M1.1 1 6 = gq_I 0 ∧ gx_M1.1 1 7 = gq_I 0 ∧ gx_M1.1 1 8 = gq_I (-1)) ∧ gx_M1.1 208 0 = gq_I 0 ∧ gx_M1.1 209 0 = gq_I 0 ∧ gx_M1.1 210 0 = gq_I (-1) := by decide +kernel
theorem gq_1_kept : ∀ k, k < 3 → gx_M1.1 235 k = gq_I 0 ∧ gx_M1.1 41 k = gq_I 0 := by decide +kernel
theorem gq_1_most : ∀ i, i < 4 → ∀ s, s < 2 → (gx_M1.1 (gq_ad i + 15 + 16 * s) 0 = gq_I 40 ∧ gx_M1.1 (gq_ad i + 15 + 16 * s) 3 = gq_I 0) ∧ gx_M1.1 (gq_ad i + 18 + 16 * s) 0 = gq_I 8 ∧ gx_M1.1 (gq_ad i + 18 + 16 * s) 3 = gq_I 0 := by decide +kernel
theorem gq_1_read : (gx_M1.1 53 0 = gq_I 40 ∧ gx_M1.1 53 3 = gq_I 0) ∧ (gx_M1.1 56 0 = gq_I 8 ∧ gx_M1.1 56 3 = gq_I 0) ∧ gx_M1.1 217 0 = gq_I 0 ∧ gx_M1.1 217 1 = gq_I 0 := by decide +kernel
theorem gq_1_inv : gq_inv gx_M1 := by
  refine ⟨⟨fun _ => gq_I 0, 0, gq_I 0, gq_I (-1), fun _ => 0, fun _ _ => 0, fun _ _ => 0, fun _ _ => 0, fun _ _ => 0, ⟨by omega, fun _ _ => by show fits .byte (.int (gq_I 0)) = true; decide +kernel, fun _ _ => by show (0 : Nat) ≤ 2; omega, fun _ h => absurd h (Nat.not_lt_zero _), fun _ h => absurd h (Nat.not_lt_zero _), fun _ h => absurd h (Nat.not_lt_zero _), fun _ h => absurd h (Nat.not_lt_zero _)⟩, ?_, ?_⟩, fun k hk => ?_, ?_⟩
  · rw [gq_ad_0]
    exact ⟨fun k hk => (gq_1_tape k hk).1, gq_1_told.1, fun q hq => (gq_1_many q hq).1, fun _ h => absurd h (Nat.not_lt_zero _), fun _ h => absurd h (Nat.not_lt_zero _), fun _ h => absurd h (Nat.not_lt_zero _), fun _ h => absurd h (Nat.not_lt_zero _)⟩
  · refine ⟨fun k hk => ?_, gq_1_told.2, fun q hq => ?_, fun _ h => absurd h (Nat.not_lt_zero _), fun _ h => absurd h (Nat.not_lt_zero _), fun _ h => absurd h (Nat.not_lt_zero _), fun _ h => absurd h (Nat.not_lt_zero _)⟩
    · rw [show 600 * 0 + k = k by omega]
      exact (gq_1_tape k hk).2
    · rw [show 4 * 0 + q = q by omega]
      exact (gq_1_many q hq).2
  · obtain ⟨a, b⟩ := gq_1_kept k hk
    exact ⟨a.trans b.symm, Or.inl b⟩
  · refine ⟨fun i hi s hs => ?_, ⟨gq_1_read.1.1, 0, by omega, gq_1_read.1.2⟩, ⟨gq_1_read.2.1.1, 0, by omega, gq_1_read.2.1.2⟩, fun i hi => ⟨0, by omega, ?_⟩⟩
    · obtain ⟨⟨a, b⟩, c, d⟩ := gq_1_most i hi s hs
      exact ⟨⟨a, 0, by omega, b⟩, c, 0, by omega, d⟩
    · rcases (by omega : i = 0 ∨ i = 1) with h | h <;> subst h
      · exact gq_1_read.2.2.1
      · exact gq_1_read.2.2.2
/-- it ends with true -/
def gq_yes (x : Option (Bool × gx_M)) : Prop := ∃ m, x = some (true, m)
theorem gq_y_if {c : Prop} [Decidable c] {A B : Option (Bool × gx_M)} (hA : gq_yes A) (hB : gq_yes B) : gq_yes (if c then A else B) := by
  by_cases h : c
  · rw [if_pos h]; exact hA
  · rw [if_neg h]; exact hB
theorem gq_y_ck {c : Prop} [Decidable c] {A : Option (Bool × gx_M)} (h : c) (hA : gq_yes A) : gq_yes (gx_ck c A) := by
  rw [gq_ckT h]; exact hA
theorem gq_y_st {ρ : Type} [DecidableEq ρ] {F G : gx_M → Option (ρ × gx_M)} {μ : gx_M} {J : gx_M → Option (Bool × gx_M)} (h : gq_st F G μ) (hJ : ∀ m, gq_inv m → gq_yes (J m)) : gq_yes (gx_bd (F μ) (fun r m => gx_bd (G m) (fun r' m' => if r = r' then J m' else some (false, m')))) := by
  obtain ⟨r, μ1, μ2, h1, h2, h3⟩ := h
  rw [h1, gq_bd, h2, gq_bd, if_pos rfl]
  exact hJ μ2 h3
theorem gq_y_bi {F G : gx_M → Option (Bool × gx_M)} {μ : gx_M} {J : gx_M → Option (Bool × gx_M)} (h : gq_st F G μ) (hJ : ∀ m, gq_inv m → gq_yes (J m)) : gq_yes (gx_bd (F μ) (fun r m => gx_bd (G m) (fun r' m' => if gx_bi r = gx_bi r' then J m' else some (false, m')))) := by
  obtain ⟨r, μ1, μ2, h1, h2, h3⟩ := h
  rw [h1, gq_bd, h2, gq_bd, if_pos rfl]
  exact hJ μ2 h3
theorem gq_y_rd {ρ : Type} [DecidableEq ρ] {F : Option ρ} {G : gx_M → Option (ρ × gx_M)} {μ : gx_M} {J : gx_M → Option (Bool × gx_M)} (h : ∃ r μ2, F = some r ∧ G μ = some (r, μ2) ∧ gq_inv μ2) (hJ : ∀ m, gq_inv m → gq_yes (J m)) : gq_yes (gx_br F (fun r => gx_bd (G μ) (fun r' m' => if r = r' then J m' else some (false, m')))) := by
  obtain ⟨r, μ2, h1, h2, h3⟩ := h
  rw [h1, gq_br, h2, gq_bd, if_pos rfl]
  exact hJ μ2 h3
theorem gq_y_fa {x : Int32} {G : gx_M → Option (Int32 × gx_M)} {μ : gx_M} {J : gx_M → Option (Bool × gx_M)} (h : ∃ μ2, G μ = some (x, μ2) ∧ gq_inv μ2) (hJ : ∀ m, gq_inv m → gq_yes (J m)) : gq_yes (gx_bd (G μ) (fun r' m' => if x = r' then J m' else some (false, m'))) := by
  obtain ⟨μ2, h2, h3⟩ := h
  rw [h2, gq_bd, if_pos rfl]
  exact hJ μ2 h3
theorem gq_y_stb {F G : Bool → gx_M → Option (Int32 × gx_M)} {μ : gx_M} {c : Int32} {J : gx_M → Option (Bool × gx_M)} (h : ∀ b, gq_st (F b) (G b) μ) (hJ : ∀ m, gq_inv m → gq_yes (J m)) : gq_yes (gx_lt (fun (j : Bool) (m : gx_M) => gx_bd (F j m) (fun r m1 => gx_lt (fun (j' : Bool) (m2 : gx_M) => gx_bd (G j' m2) (fun r' m3 => if r = r' then J m3 else some (false, m3))) (fun K => if c = 0 then K false m1 else K true m1))) (fun K => if c = 0 then K false μ else K true μ)) := by
  by_cases g : c = 0
  · have := gq_y_st (h false) hJ
    simp only [gq_lte, if_pos g]
    exact this
  · have := gq_y_st (h true) hJ
    simp only [gq_lte, if_neg g]
    exact this
theorem gq_y_rdb {ρ : Type} [DecidableEq ρ] {F : Bool → gx_M → Option ρ} {G : Bool → gx_M → Option (ρ × gx_M)} {μ : gx_M} {c : Int32} {J : gx_M → Option (Bool × gx_M)} (h : ∀ b, ∃ r μ2, F b μ = some r ∧ G b μ = some (r, μ2) ∧ gq_inv μ2) (hJ : ∀ m, gq_inv m → gq_yes (J m)) : gq_yes (gx_lt (fun (j : Bool) (m : gx_M) => gx_br (F j m) (fun r => gx_lt (fun (j' : Bool) (m2 : gx_M) => gx_bd (G j' m2) (fun r' m3 => if r = r' then J m3 else some (false, m3))) (fun K => if c = 0 then K false m else K true m))) (fun K => if c = 0 then K false μ else K true μ)) := by
  by_cases g : c = 0
  · have := gq_y_rd (h false) hJ
    simp only [gq_lte, if_pos g]
    exact this
  · have := gq_y_rd (h true) hJ
    simp only [gq_lte, if_neg g]
    exact this
theorem gq_y_lt {α : Type} {v : α} {f : α → Option (Bool × gx_M)} (h : gq_yes (f v)) : gq_yes (gx_lt v f) := h
set_option maxHeartbeats 4000000 in
theorem gq_lawL {xs : Nat → Int32} {Ln : Nat} (hL : Ln ≤ 3072) : ∀ (d f i : Nat) (μ : gx_M), d < f → Ln ≤ i + 6 * d + 5 → i ≤ 3080 → gq_inv μ → gq_yes (L_law_18 Ln xs (fun m => some (true, m)) f (gq_I i) μ)
  | _, 0, _, _, hf, _, _, _ => absurd hf (Nat.not_lt_zero _)
  | 0, f + 1, i, μ, hf, hi, h8, hI => by
    refine ⟨μ, ?_⟩
    rw [L_law_18.eq_2, gq_oN, gq_lit, gq_sub]
    exact if_pos (by rw [gq_lt (by rw [show (OfNat.ofNat 6 : Int) = 6 from rfl]; omega)]; rw [show (OfNat.ofNat 6 : Int) = 6 from rfl]; omega)
  | d + 1, f + 1, i, μ, hf, hi, h8, hI => by
    by_cases g : Ln < i + 6
    · refine ⟨μ, ?_⟩
      rw [L_law_18.eq_2, gq_oN, gq_lit, gq_sub]
      exact if_pos (by rw [gq_lt (by rw [show (OfNat.ofNat 6 : Int) = 6 from rfl]; omega)]; rw [show (OfNat.ofNat 6 : Int) = 6 from rfl]; omega)
    · have x0 : gx_ix (gq_I i) Ln = true := gq_ixT (by omega)
      have x1 : gx_ix (gq_I i + 1) Ln = true := by
        rw [gq_lit, gq_add]
        exact gq_ixT (by rw [show (OfNat.ofNat 1 : Int) = 1 from rfl]; omega)
      have x2 : gx_ix (gq_I i + 2) Ln = true := by
        rw [gq_lit, gq_add]
        exact gq_ixT (by rw [show (OfNat.ofNat 2 : Int) = 2 from rfl]; omega)
      have x3 : gx_ix (gq_I i + 3) Ln = true := by
        rw [gq_lit, gq_add]
        exact gq_ixT (by rw [show (OfNat.ofNat 3 : Int) = 3 from rfl]; omega)
      have x4 : gx_ix (gq_I i + 4) Ln = true := by
        rw [gq_lit, gq_add]
        exact gq_ixT (by rw [show (OfNat.ofNat 4 : Int) = 4 from rfl]; omega)
      have x5 : gx_ix (gq_I i + 5) Ln = true := by
        rw [gq_lit, gq_add]
        exact gq_ixT (by rw [show (OfNat.ofNat 5 : Int) = 5 from rfl]; omega)
      have hJ : ∀ m, gq_inv m → gq_yes (L_law_18 Ln xs (fun m => some (true, m)) f (gq_I i + 6) m) := fun m hm => by
        have := gq_lawL (xs := xs) hL d f (i + 6) m (by omega) (by omega) (by omega) hm
        rw [gq_lit, gq_add]
        exact this
      rw [L_law_18.eq_2]
      rw [if_neg (by rw [gq_oN, gq_lit, gq_sub, gq_lt (by rw [show (OfNat.ofNat 6 : Int) = 6 from rfl]; omega), show (OfNat.ofNat 6 : Int) = 6 from rfl]; omega)]
      refine gq_y_ck x0 (gq_y_lt (gq_y_lt ?_))
      refine gq_y_if (gq_y_ck x1 (gq_y_ck x2 (gq_y_ck x3 (gq_y_ck x4 (gq_y_ck x5 (gq_y_st (gq_e_feed hI _ _ _ _ _) hJ)))))) ?_
      refine gq_y_if (gq_y_ck x1 (gq_y_st (gq_e_end hI _) hJ)) ?_
      refine gq_y_if (gq_y_ck x1 (gq_y_ck x2 (gq_y_st (gq_e_text hI _ _) hJ))) ?_
      refine gq_y_if (gq_y_ck x1 (gq_y_fa (gq_e_fault hI _) hJ)) ?_
      refine gq_y_if (gq_y_ck x1 (gq_y_ck x2 (gq_y_rd (gq_e_street hI _ _) hJ))) ?_
      refine gq_y_if (gq_y_ck x1 (gq_y_ck x2 (gq_y_ck x3 (gq_y_rd (gq_e_deed hI _ _ _) hJ)))) ?_
      refine gq_y_if (gq_y_ck x1 (gq_y_ck x2 (gq_y_st (gq_e_till hI _ _) hJ))) ?_
      refine gq_y_if (gq_y_ck x1 (gq_y_ck x2 (gq_y_ck x3 (gq_y_ck x4 (gq_y_st (gq_e_state hI _ _ _ _) hJ))))) ?_
      refine gq_y_if (gq_y_ck x1 (gq_y_ck x2 (gq_y_ck x3 (gq_y_ck x4 (gq_y_stb (fun _ => gq_e_run hI _ _ _ _) hJ))))) ?_
      refine gq_y_if (gq_y_ck x1 (gq_y_ck x2 (gq_y_ck x3 (gq_y_ck x4 (gq_y_st (gq_e_errands hI _ _ _ _) hJ))))) ?_
      refine gq_y_if (gq_y_ck x1 (gq_y_ck x2 (gq_y_ck x3 (gq_y_stb (fun _ => gq_e_plan hI _ _ _) hJ)))) ?_
      refine gq_y_if (gq_y_ck x1 (gq_y_ck x2 (gq_y_stb (fun _ => gq_e_halves hI _ _) hJ))) ?_
      refine gq_y_if (gq_y_ck x1 (gq_y_ck x2 (gq_y_ck x3 (gq_y_rdb (fun _ => gq_e_free hI _ _ _) hJ)))) ?_
      refine gq_y_if (gq_y_ck x1 (gq_y_ck x2 (gq_y_ck x3 (gq_y_st (gq_e_corner hI _ _ _) hJ)))) ?_
      refine gq_y_if (gq_y_ck x1 (gq_y_ck x2 (gq_y_ck x3 (gq_y_ck x4 (gq_y_rdb (fun _ => gq_e_tin hI _ _ _ _) hJ))))) ?_
      refine gq_y_if (gq_y_ck x1 (gq_y_ck x2 (gq_y_rd (gq_e_waits hI _ _) hJ))) ?_
      refine gq_y_if (gq_y_ck x1 (gq_y_ck x2 (gq_y_ck x3 (gq_y_rd (gq_e_fact hI _ _ _) hJ)))) ?_
      refine gq_y_if (gq_y_ck x1 (gq_y_ck x2 (gq_y_st (gq_e_fits hI _ _) hJ))) ?_
      refine gq_y_if (gq_y_ck x1 (gq_y_ck x2 (gq_y_st (gq_e_swap hI _ _) hJ))) ?_
      refine gq_y_if (gq_y_ck x1 (gq_y_ck x2 (gq_y_ck x3 (gq_y_ck x4 (gq_y_st (gq_e_drawn hI _ _ _ _) hJ))))) ?_
      refine gq_y_if (gq_y_ck x1 (gq_y_ck x2 (gq_y_ck x3 (gq_y_st (gq_e_robbed hI _ _ _) hJ)))) ?_
      refine gq_y_if (gq_y_ck x1 (gq_y_ck x2 (gq_y_ck x3 (gq_y_rd (gq_e_shared hI _ _ _) hJ)))) ?_
      refine gq_y_if (gq_y_ck x1 (gq_y_ck x2 (gq_y_ck x3 (gq_y_ck x4 (gq_y_stb (fun _ => gq_e_gift hI _ _ _ _) hJ))))) ?_
      refine gq_y_if (gq_y_ck x1 (gq_y_ck x2 (gq_y_ck x3 (gq_y_st (gq_e_missed hI _ _ _) hJ)))) ?_
      refine gq_y_if (gq_y_ck x1 (gq_y_ck x2 (gq_y_rdb (fun _ => gq_e_wanted hI _ _) hJ))) ?_
      refine gq_y_if (gq_y_ck x1 (gq_y_ck x2 (gq_y_st (gq_e_left hI _ _) hJ))) ?_
      refine gq_y_if (gq_y_ck x1 (gq_y_ck x2 (gq_y_ck x3 (gq_y_st (gq_e_early hI _ _ _) hJ)))) ?_
      refine gq_y_if (gq_y_ck x1 (gq_y_ck x2 (gq_y_ck x3 (gq_y_st (gq_e_ranked hI _ _ _) hJ)))) ?_
      refine gq_y_if (gq_y_ck x1 (gq_y_ck x2 (gq_y_rd (gq_e_enough hI _ _) hJ))) ?_
      refine gq_y_if (gq_y_ck x1 (gq_y_ck x2 (gq_y_ck x3 (gq_y_st (gq_e_after hI _ _ _) hJ)))) ?_
      refine gq_y_if (gq_y_ck x1 (gq_y_ck x2 (gq_y_st (gq_e_span hI _ _) hJ))) ?_
      refine gq_y_if (gq_y_ck x1 (gq_y_ck x2 (gq_y_st (gq_e_happy hI _ _) hJ))) ?_
      refine gq_y_if (gq_y_ck x1 (gq_y_rd (gq_e_count hI _) hJ)) ?_
      refine gq_y_if (gq_y_ck x1 (gq_y_bi (gq_e_image hI _) hJ)) ?_
      refine gq_y_if (gq_y_ck x1 (gq_y_bi (gq_e_again hI _) hJ)) ?_
      exact hJ μ hI
theorem law_pure (xs : Nat → Int32) (Ln : Nat) (hL : Ln ≤ 3072) : ∃ μ' : gx_M, f_law xs Ln gx_M1 = some (true, μ') := by
  have h := gq_lawL (xs := xs) hL 512 4000 0 gx_M1 (by omega) (by omega) (by omega) gq_1_inv
  unfold f_law
  rw [gq_lit]
  exact h
