/-! wanted -/
theorem gh_iv {A B : Int} (hA : 0 ≤ A) : ∀ n : Nat, ((gm_cnt (fun j => decide (A ≤ (j : Int) ∧ (j : Int) ≤ B)) n : Nat) : Int) = if A < (if B + 1 ≤ n then B + 1 else n) then (if B + 1 ≤ n then B + 1 else n) - A else 0
  | 0 => by
    show (0 : Int) = _
    split <;> split <;> omega
  | n + 1 => by
    have ih := gh_iv (B := B) hA n
    by_cases g : A ≤ (n : Int) ∧ (n : Int) ≤ B
    · rw [gl_cntT (φ := fun j : Nat => decide (A ≤ (j : Int) ∧ (j : Int) ≤ B)) (decide_eq_true g)]
      rw [Int.natCast_add, ih]
      rw [if_neg (c := B + 1 ≤ (n : Int)) (by omega)]
      by_cases g2 : A < n
      · rw [if_pos g2, if_pos (c := A < _) (by split <;> omega)]
        split <;> omega
      · rw [if_neg g2, if_pos (c := A < _) (by split <;> omega)]
        split <;> omega
    · rw [gl_cntF (φ := fun j : Nat => decide (A ≤ (j : Int) ∧ (j : Int) ≤ B)) (decide_eq_false g)]
      rw [ih]
      by_cases g3 : B + 1 ≤ (n : Int)
      · rw [if_pos g3, if_pos (c := B + 1 ≤ ((n + 1 : Nat) : Int)) (by omega)]
      · rw [if_neg g3, if_neg (c := A < (n : Int)) (by omega), if_neg (c := A < _) (by split <;> omega)]
theorem gh_cntQ {P Q Q' : Nat → Bool} : ∀ {n : Nat}, (∀ j, j < n → P j = true → Q' (gm_cnt P j) = Q j) → gm_cnt Q' (gm_cnt P n) = gm_cnt (fun j => P j && Q j) n
  | 0, _ => rfl
  | n + 1, h => by
    have ih := gh_cntQ (P := P) (Q := Q) (Q' := Q') (n := n) fun j hj => h j (by omega)
    cases hp : P n
    · rw [gl_cntF (φ := P) hp, ih, gl_cntF (φ := fun j => P j && Q j) (by show (P n && Q n) = false; rw [hp]; rfl)]
    · have e := h n (by omega) hp
      rw [gl_cntT (φ := P) hp]
      cases hq : Q n
      · rw [gl_cntF (φ := Q') (by rw [e, hq]), ih, gl_cntF (φ := fun j => P j && Q j) (by show (P n && Q n) = false; rw [hp, hq]; rfl)]
      · rw [gl_cntT (φ := Q') (by rw [e, hq]), ih, gl_cntT (φ := fun j => P j && Q j) (by show (P n && Q n) = true; rw [hp, hq]; rfl)]
/-- a run that has minute m -/
def gh_cov (w : Nat → Int) (m j : Nat) : Bool := decide (j % 40 ≤ m ∧ m < j % 40 + ga_l w (j / 40))
def gh_Fc (w : Nat → Int) (φ : Nat → Nat → Bool) (m j : Nat) : Bool := gh_P φ j && gh_cov w m j
theorem gh_48L {ν : gx_M} {m n : Nat} (hm : m < 64) (hn : n ≤ 240) (h : ν.1 206 44 = gq_I n) {k : Int32 → gx_M → Option (Int32 × gx_M)} : ∀ (d f i : Nat), d < f → i + d = n → L_X12_wanted_48 (gq_I m) k f (gq_I (gm_cnt (fun k => gm_b (ν.2 229 k) m) i : Nat)) (gq_I i) ν = k (gq_I (gm_cnt (fun k => gm_b (ν.2 229 k) m) n : Nat)) ν
  | _, 0, _, hf, _ => absurd hf (Nat.not_lt_zero _)
  | 0, f + 1, i, hf, hi => by
    rw [L_X12_wanted_48.eq_2, h, show i = n by omega]
    exact if_pos (by rw [gq_le (by omega)]; omega)
  | d + 1, f + 1, i, hf, hi => by
    have eh := gh_has (x := ν.2 229 i) hm
    rw [← gh_48L hm hn h (k := k) d f (i + 1) (by omega) (by omega), L_X12_wanted_48.eq_2, h]
    cases g : gm_b (ν.2 229 i) m with
    | true =>
      rw [gl_cntT (φ := fun k => gm_b (ν.2 229 k) m) g]
      rw [g] at eh
      simp (disch := omega) only [Int.reduceToNat, gq_lit, gq_neg, gq_add, gq_sub, gq_mul, gq_nat, Int.toNat_natCast, gq_tadd, gq_tmul, gq_lte, gq_br, gq_bd, gq_ck, Bool.false_eq_true, gq_leT, gq_leF, gq_ltT, gq_ltF, gq_eqT, gq_eqF, if_true, if_false, eh, gq_biT]
      rfl
    | false =>
      rw [gl_cntF (φ := fun k => gm_b (ν.2 229 k) m) g]
      rw [g] at eh
      simp (disch := omega) only [Int.reduceToNat, gq_lit, gq_neg, gq_add, gq_sub, gq_mul, gq_nat, Int.toNat_natCast, gq_tadd, gq_tmul, gq_lte, gq_br, gq_bd, gq_ck, Bool.false_eq_true, gq_leT, gq_leF, gq_ltT, gq_ltF, gq_eqT, gq_eqF, if_true, if_false, eh, gq_biF, Int.add_zero]
      rfl
theorem gh_roL {μ : gx_M} {a m T : Nat} {w : Nat → Int} {φ : Nat → Nat → Bool} (ok : gq_okS w) (hT2 : w 2 = T) (hc : gq_cS μ a w) (hm : m < 40) (hφ : ∀ b m : Nat, φ b m = true ↔ (b : Int) < w 2 ∧ gk_run w b m) {k : Int32 → Option Int32} : ∀ (d f i : Nat), d < f → i + d = T → L_X5_runsOver_4 μ a (gq_I m) k f (gq_I (gm_cnt (gh_Fc w φ m) (40 * i) : Nat)) (gq_I i) = k (gq_I (gm_cnt (gh_Fc w φ m) (40 * T) : Nat))
  | _, 0, _, hf, _ => absurd hf (Nat.not_lt_zero _)
  | 0, f + 1, i, hf, hi => by
    have o2 := ok.2.2.1
    rw [L_X5_runsOver_4.eq_2, hc.1.2.2, hT2, show i = T by omega]
    exact if_pos (by rw [gq_le (by omega)]; omega)
  | d + 1, f + 1, i, hf, hi => by
    have o0 := ok.1
    have o2 := ok.2.2.1
    have hb : (i : Int) < w 2 := by omega
    obtain ⟨l1, ⟨f1, f2, f3⟩, _⟩ := ok.2.2.2.2.1 i hb
    obtain ⟨h1, h2, h3, _⟩ := hc.2.2.2.2 i hb
    obtain ⟨A, hA⟩ : ∃ A : Int, A = if w (13 + i) < (m : Int) - w (7 + i) + 1 then (m : Int) - w (7 + i) + 1 else w (13 + i) := ⟨_, rfl⟩
    obtain ⟨B, hB⟩ : ∃ B : Int, B = if w (19 + i) - w (7 + i) + 1 < (m : Int) then w (19 + i) - w (7 + i) + 1 else (m : Int) := ⟨_, rfl⟩
    obtain ⟨X, hX⟩ : ∃ X : Int, X = if 0 < B - A + 1 then B - A + 1 else 0 := ⟨_, rfl⟩
    have A0 : 0 ≤ A ∧ A ≤ 80 := by rw [hA]; split <;> omega
    have B39 : B ≤ 39 ∧ -10 ≤ B := by rw [hB]; split <;> omega
    have blk : gm_cnt (fun j => gh_Fc w φ m (40 * i + j)) 40 = gm_cnt (fun j => decide (A ≤ (j : Int) ∧ (j : Int) ≤ B)) 40 := gm_cnt_ext fun j hj => by
      unfold gh_Fc gh_cov gh_P
      rw [show (40 * i + j) / 40 = i by omega, show (40 * i + j) % 40 = j by omega]
      have hp := hφ i j
      by_cases g : A ≤ (j : Int) ∧ (j : Int) ≤ B
      · rw [decide_eq_true g]
        have q1 : φ i j = true := hp.mpr ⟨hb, by
          constructor
          · rw [hA] at g; split at g <;> omega
          · rw [hB] at g; split at g <;> omega⟩
        have q2 : j ≤ m ∧ m < j + ga_l w i := by
          constructor
          · rw [hB] at g; split at g <;> omega
          · unfold ga_l
            rw [hA] at g; split at g <;> omega
        rw [q1, decide_eq_true q2]
        rfl
      · rw [decide_eq_false g]
        cases q1 : φ i j
        · rfl
        · have q2 := (hp.mp q1).2
          refine decide_eq_false fun q3 => g ?_
          unfold ga_l at q3
          have q4 := q2.1
          have q5 := q2.2
          constructor
          · rw [hA]; split <;> omega
          · rw [hB]; split <;> omega
    have iv := gh_iv (A := A) (B := B) A0.1 40
    rw [if_pos (c := B + 1 ≤ ((40 : Nat) : Int)) (by omega)] at iv
    have cs : ((gm_cnt (gh_Fc w φ m) (40 * (i + 1)) : Nat) : Int) = (gm_cnt (gh_Fc w φ m) (40 * i) : Nat) + X := by
      rw [show 40 * (i + 1) = 40 * i + 40 by omega, gm_cnt_split, blk, Int.natCast_add, iv, hX]
      split <;> split <;> omega
    rw [← gh_roL ok hT2 hc hm hφ (k := k) d f (i + 1) (by omega) (by omega), cs, L_X5_runsOver_4.eq_2, hc.1.2.2, hT2]
    have cle := gm_cnt_le (gh_Fc w φ m) (40 * i)
    have e1 : (if gq_I (w (13 + i)) < gq_I ((m : Int) - w (7 + i) + 1) then gq_I ((m : Int) - w (7 + i) + 1) else gq_I (w (13 + i))) = gq_I A := by
      rw [hA]
      by_cases g : w (13 + i) < (m : Int) - w (7 + i) + 1
      · rw [if_pos g, if_pos (by rw [gq_lt (by omega)]; exact g)]
      · rw [if_neg g, if_neg (by rw [gq_lt (by omega)]; exact g)]
    have e2 : (if gq_I (w (19 + i) - w (7 + i) + 1) < gq_I m then gq_I (w (19 + i) - w (7 + i) + 1) else gq_I m) = gq_I B := by
      rw [hB]
      by_cases g : w (19 + i) - w (7 + i) + 1 < (m : Int)
      · rw [if_pos g, if_pos (by rw [gq_lt (by omega)]; exact g)]
      · rw [if_neg g, if_neg (by rw [gq_lt (by omega)]; exact g)]
    have e3 : (if gq_I 0 < gq_I (B - A + 1) then gq_I (B - A + 1) else gq_I 0) = gq_I X := by
      rw [hX]
      by_cases g : 0 < B - A + 1
      · rw [if_pos g, if_pos (by rw [gq_lt (by omega)]; exact g)]
      · rw [if_neg g, if_neg (by rw [gq_lt (by omega)]; exact g)]
    refine (if_neg (by rw [gq_le (by omega)]; omega)).trans ?_
    rw [gq_ck (by omega), gq_nat (by omega), Int.toNat_natCast, h1, h2, h3]
    simp only [gq_lit, gq_sub, gq_add, gq_lte]
    rw [e1, e2]
    simp only [gq_sub, gq_add]
    rw [e3, gq_add]
    rfl
theorem gh_wL {μ ν : gx_M} {a L : Nat} {w : Nat → Int} {K : Nat → Nat} (hL40 : L ≤ 40) (hK : ∀ m, m < L → K m ≤ 240) (h0 : μ.1 a 0 = gq_I L) (h1 : ν.1 206 25 = gq_I L) (hc : ∀ m, m < L → f_X5_runsOver a (gq_I m) μ = some (gq_I (K m))) (hm : ∀ m, m < L → ∀ k : Int32 → gx_M → Option (Int32 × gx_M), L_X12_wanted_48 (gq_I m) k 4000 (gq_I 0) (gq_I 0) ν = k (gq_I (K m)) ν) {k : Int32 → Int32 → Option Int32} {k2 : Int32 → Int32 → gx_M → Option (Int32 × gx_M)} : ∀ (d f i : Nat) (B M : Int), d < f → i + d = L → (0 ≤ M ∧ M ≤ 240) → ∃ B' M' : Int, L_X11_wanted_30 μ a k f (gq_I B) (gq_I M) (gq_I i) = k (gq_I B') (gq_I M') ∧ L_X12_wanted_33 k2 f (gq_I B) (gq_I M) (gq_I i) ν = k2 (gq_I B') (gq_I M') ν
  | _, 0, _, _, _, hf, _, _ => absurd hf (Nat.not_lt_zero _)
  | 0, f + 1, i, B, M, hf, hi, hM => by
    refine ⟨B, M, ?_, ?_⟩
    · rw [L_X11_wanted_30.eq_2, h0]
      exact if_pos (by rw [gq_le (by omega)]; omega)
    · rw [L_X12_wanted_33.eq_2, h1]
      exact if_pos (by rw [gq_le (by omega)]; omega)
  | d + 1, f + 1, i, B, M, hf, hi, hM => by
    have c := hc i (by omega)
    have Kb := hK i (by omega)
    have m48 := hm i (by omega) (fun (x6_26 : Int32) (μ27 : gx_M) => gx_lt (fun (j0_30 : Int32) (μ31 : gx_M) => gx_lt (f_X12_greater (gq_I M) x6_26) (fun (x32 : Int32) => L_X12_wanted_33 k2 f j0_30 x32 (gq_I i + 1) μ31)) (fun J28 => if x6_26 ≤ gq_I M then J28 (gq_I B) μ27 else J28 (gq_I i) μ27))
    have gr := gp_gr (a := M) (b := (K i : Int)) (by omega)
    by_cases g : (K i : Int) ≤ M
    · obtain ⟨B', M', e1, e2⟩ := gh_wL (w := w) hL40 hK h0 h1 hc hm (k := k) (k2 := k2) d f (i + 1) B M (by omega) (by omega) hM
      refine ⟨B', M', ?_, ?_⟩
      · rw [← e1, L_X11_wanted_30.eq_2, h0]
        refine (if_neg (by rw [gq_le (by omega)]; omega)).trans ?_
        rw [c, gq_br, gq_lte, if_pos (by rw [gq_le (by omega)]; exact g), gq_suc]
      · rw [← e2, L_X12_wanted_33.eq_2, h1]
        refine (if_neg (by rw [gq_le (by omega)]; omega)).trans ?_
        refine m48.trans ?_
        rw [gq_lte, if_pos (by rw [gq_le (by omega)]; exact g)]
        simp only [gq_lte, gr, gq_suc]
        rw [show (if M ≤ (K i : Int) then (K i : Int) else M) = M by split <;> omega]
    · obtain ⟨B', M', e1, e2⟩ := gh_wL (w := w) hL40 hK h0 h1 hc hm (k := k) (k2 := k2) d f (i + 1) i (K i) (by omega) (by omega) (by omega)
      refine ⟨B', M', ?_, ?_⟩
      · rw [← e1, L_X11_wanted_30.eq_2, h0]
        refine (if_neg (by rw [gq_le (by omega)]; omega)).trans ?_
        rw [c, gq_br, gq_lte, if_neg (by rw [gq_le (by omega)]; exact g), gq_suc]
      · rw [← e2, L_X12_wanted_33.eq_2, h1]
        refine (if_neg (by rw [gq_le (by omega)]; omega)).trans ?_
        refine m48.trans ?_
        rw [gq_lte, if_neg (by rw [gq_le (by omega)]; exact g)]
        simp only [gq_lte, gr, gq_suc]
        rw [if_pos (by omega)]
theorem gq_e_wanted {μ : gx_M} (hI : gq_inv μ) (p1 : Int32) (b : Bool) : ∃ r μ2, f_X11_wanted p1 b μ = some r ∧ f_X12_wanted p1 b μ = some (r, μ2) ∧ gq_inv μ2 := by
  obtain ⟨z, hz, rfl⟩ := gq_ex p1
  rcases gq_op hI hz with ⟨h1, h2⟩ | ⟨s, w, hs, rfl, ok, hc, h1, h2⟩
  · refine ⟨gq_I (-2), _, ?_, ?_, gq_inv_m hI (gq_sm_uI (x := gq_I 0) (k := 0) gq_Pm206 gq_sm_rf)⟩
    · unfold f_X11_wanted
      rw [h1]
      rfl
    · unfold f_X12_wanted
      rw [gq_lte, gq_lit, h2 μ gq_sm_rf]
      rfl
  · obtain ⟨μ2, a1, a2, a3⟩ := h2 μ gq_sm_rf
    have o0 := ok.1
    have o2 := ok.2.2.1
    obtain ⟨T, hT2⟩ : ∃ T : Nat, w 2 = T := ⟨(w 2).toNat, by omega⟩
    obtain ⟨L, hL⟩ : ∃ L : Nat, w 0 = L := ⟨(w 0).toNat, by omega⟩
    obtain ⟨A, hA⟩ : ∃ A : Int64, A = (gq_L 1 <<< (gq_L L &&& gq_L 63)) - gq_L 1 := ⟨_, rfl⟩
    have Ab : ∀ j, j < 64 → gm_b A j = decide (j < L) := fun j hj => by rw [hA]; exact gm_low L (by omega) j hj
    have mm : f_X12_allMinutes μ2 = A := by
      unfold f_X12_allMinutes
      rw [a2.1.2.1, hL, gq_toL (by omega), hA]
      rfl
    obtain ⟨φ, hφ⟩ := gh_al_ex w 0 A
    have hφ2 : ∀ b m : Nat, φ b m = true ↔ (b : Int) < w 2 ∧ gk_run w b m := fun b m => (hφ b m).trans ⟨fun ⟨q1, q2, _⟩ => ⟨q1, q2⟩, fun ⟨q1, q2⟩ => ⟨q1, q2, fun j g1 g2 => by
      have lt := gk_lt ok q1 q2
      have l1 := (ok.2.2.2.2.1 b q1).1
      unfold ga_l at g2
      exact ⟨gm_0 j (by omega), by rw [Ab j (by omega)]; exact decide_eq_true (by omega)⟩⟩⟩
    obtain ⟨ν1, b1, b2, b3, b4⟩ := gh_find ok (by omega) hT2 hL hφ (gq_hd_lay a2)
    have h25 : ν1.1 206 25 = gq_I L := by rw [b3 206 25 (by omega), a2.1.2.1, hL]
    have Kle : ∀ m, gm_cnt (gh_Fc w φ m) (40 * T) ≤ 240 := fun m => by
      have := gm_cnt_le (gh_Fc w φ m) (40 * T)
      omega
    have Nle := gm_cnt_le (gh_P φ) (40 * T)
    have cls : ∀ m, m < L → f_X5_runsOver (8 + 16 * s) (gq_I m) μ = some (gq_I (gm_cnt (gh_Fc w φ m) (40 * T) : Nat)) := fun m hm => by
      have := gh_roL (φ := φ) ok hT2 hc (m := m) (by omega) hφ2 (k := fun (x2_11 : Int32) => some x2_11) T 4000 0 (by omega) (by omega)
      unfold f_X5_runsOver
      simp only [gq_lit]
      exact this
    have chk : ∀ m, m < L → ∀ k : Int32 → gx_M → Option (Int32 × gx_M), L_X12_wanted_48 (gq_I m) k 4000 (gq_I 0) (gq_I 0) ν1 = k (gq_I (gm_cnt (gh_Fc w φ m) (40 * T) : Nat)) ν1 := fun m hm k => by
      have e := gh_48L (m := m) (n := gm_cnt (gh_P φ) (40 * T)) (by omega) (by omega) b2.1 (k := k) (gm_cnt (gh_P φ) (40 * T)) 4000 0 (by omega) (by omega)
      have q := gh_cntQ (P := gh_P φ) (Q := gh_cov w m) (Q' := fun k => gm_b (ν1.2 229 k) m) (n := 40 * T) fun j hj hp => by
        have hi := gh_hi ok hL hφ hp
        show gm_b (ν1.2 229 (gm_cnt (gh_P φ) j)) m = _
        rw [b2.2 j hj hp, gh_win_b (by omega) (by omega) (by omega)]
        rfl
      rw [q] at e
      exact e
    obtain ⟨B', M', e1, e2⟩ := gh_wL (w := w) (K := fun m => gm_cnt (gh_Fc w φ m) (40 * T)) (by omega) (fun m _ => Kle m) (by rw [hc.1.1, hL]) h25 cls chk (k := fun (x4_17 : Int32) (x5_18 : Int32) => if b = true then some x5_18 else some x4_17) (k2 := fun (x3_36 : Int32) (x4_37 : Int32) (μ38 : gx_M) => if b = true then some (x4_37, μ38) else some (x3_36, μ38)) L 4000 0 (-1) 0 (by omega) (by omega) (by omega)
    refine ⟨if b = true then gq_I M' else gq_I B', ν1, ?_, ?_, gq_inv_m hI (gq_sm_tr a3 (gh_Pm (fun a j h1 _ => b3 a j h1) b4))⟩
    · unfold f_X11_wanted
      rw [h1, gq_br, if_pos rfl, gq_ck (by omega), gq_lte, gq_nat (by omega), Int.toNat_natCast]
      simp only [gq_lit, gq_neg]
      refine e1.trans ?_
      split <;> rfl
    · unfold f_X12_wanted
      rw [gq_lte, gq_lit, a1, gq_bd, if_pos rfl, mm]
      have b1' : f_X12_findRuns 0 A μ2 = some ((), ν1) := b1
      rw [b1', gq_bd]
      simp only [gq_lit, gq_neg]
      refine e2.trans ?_
      split <;> rfl
