/-! what is read is put where it belongs -/
theorem gp_storeL {W A n1 a : Nat} {p3 : Int32} (hA : gq_I W * p3 = gq_I A) (hW : W ≤ 161) (hn : A + W ≤ n1 ∧ n1 ≤ 2000) (ha : a ≠ 216) {k : gx_M → Option (Unit × gx_M)} : ∀ (d f i : Nat) (ν : gx_M), d < f → i + d = W → ∃ ν', L_X12_store_3 (gq_I W) p3 n1 a k f (gq_I i) ν = k ν' ∧ (∀ j, i ≤ j → j < W → ν'.1 a (A + j) = ν.1 216 j) ∧ (∀ b j, ¬ (b = a ∧ A + i ≤ j ∧ j < A + W) → ν'.1 b j = ν.1 b j) ∧ ν'.2 = ν.2
  | _, 0, _, _, hf, _ => absurd hf (Nat.not_lt_zero _)
  | 0, f + 1, i, ν, hf, hi => by
    refine ⟨ν, ?_, fun j h2 h3 => absurd h3 (by omega), fun _ _ _ => rfl, rfl⟩
    rw [L_X12_store_3.eq_2]
    simp (disch := omega) only [Bool.false_eq_true, gq_leT, gq_leF, gq_ltT, gq_ltF, gq_eqT, gq_eqF, if_true, if_false]
  | d + 1, f + 1, i, ν, hf, hi => by
    obtain ⟨ν', e1, e2, e3, e4⟩ := gp_storeL hA hW hn ha (k := k) d f (i + 1) (gx_uI ν a (A + i) (ν.1 216 i)) (by omega) (by omega)
    refine ⟨ν', ?_, fun j h2 h3 => ?_, fun b j hb => ?_, e4⟩
    · rw [L_X12_store_3.eq_2, ← e1, hA]
      simp (disch := omega) only [Int.reduceToNat, gq_lit, gq_neg, gq_add, gq_sub, gq_mul, gq_nat, Int.toNat_natCast, gq_tadd, gq_tmul, gq_lte, gq_br, gq_bd, gq_ck, Bool.false_eq_true, gq_leT, gq_leF, gq_ltT, gq_ltF, gq_eqT, gq_eqF, if_true, if_false]
      rfl
    · by_cases hj : j = i
      · subst hj
        rw [e3 _ _ (by omega), gq_uI1, if_pos ⟨rfl, rfl⟩]
      · rw [e2 j (by omega) h3, gq_uI1, if_neg (by omega)]
    · rw [e3 _ _ (by omega), gq_uI1, if_neg (by omega)]
theorem gp_store {W k n1 a : Nat} (hW : W ≤ 161) (hn : W * k + W ≤ n1 ∧ n1 ≤ 2000) (ha : a ≠ 216) (ν : gx_M) : ∃ ν', f_X12_store a n1 (gq_I W) (gq_I k) ν = some ((), ν') ∧ (∀ j, j < W → ν'.1 a (W * k + j) = ν.1 216 j) ∧ (∀ b j, ¬ (b = a ∧ W * k ≤ j ∧ j < W * k + W) → ν'.1 b j = ν.1 b j) ∧ ν'.2 = ν.2 := by
  obtain ⟨ν', e1, e2, e3, e4⟩ := gp_storeL (W := W) (A := W * k) (n1 := n1) (a := a) (p3 := gq_I k) (by rw [gq_mul, Int.natCast_mul]) hW hn ha (k := fun (μ9 : gx_M) => some ((), μ9)) W 4000 0 ν (by omega) (by omega)
  refine ⟨ν', ?_, fun j h => e2 j (by omega) h, fun b j h => e3 b j (by omega), e4⟩
  unfold f_X12_store
  rw [gq_lit]
  exact e1
def gp_upd (N : Nat → Nat) (of M q : Nat) : Nat := if q = of then M else N q
def gp_up2 (W : Nat → Nat → Int) (k : Nat) (w : Nat → Int) (s : Nat) : Nat → Int := if s = k then w else W s
set_option maxHeartbeats 2000000 in
theorem gp_put_0 {μ2 ν2 : gx_M} {tp : Nat → Int32} {f p : Int32} {N : Nat → Nat} {W Y G V : Nat → Nat → Int} {k M : Nat} (hk : k < 2) (hkN : k ≤ N 0) (hM : M = if N 0 < k + 1 then k + 1 else N 0) (ok : gq_okT tp 0 N W Y G V) (hc : gq_cT μ2 1 tp 0 f p N W Y G V) (hm : gq_mT ν2 0 tp 0 f p N W Y G V) (hl : ∀ s, s < 2 → gq_ln μ2 (16 + 16 * s) 40 ∧ gq_ln μ2 (19 + 16 * s) 8) (hl1 : gq_ln μ2 53 40) (hl2 : gq_ln μ2 56 8) (fin : gp_fin 0 μ2 ν2) : ∃ (μ3 ν3 : gx_M) (W' Y' G' V' : Nat → Nat → Int), f_X9_put (gq_I 0) (gq_I k) μ2 = some ((), μ3) ∧ f_X12_storeAll (gq_I 0) (gq_I k) (gx_uI ν2 211 0 (gq_I M)) = some ((), ν3) ∧ gq_okT tp 0 (gp_upd N 0 M) W' Y' G' V' ∧ gq_cT μ3 1 tp 0 f p (gp_upd N 0 M) W' Y' G' V' ∧ gq_mT ν3 0 tp 0 f p (gp_upd N 0 M) W' Y' G' V' ∧ (∀ s, s < 2 → gq_ln μ3 (16 + 16 * s) 40 ∧ gq_ln μ3 (19 + 16 * s) 8) ∧ (∀ a j, ¬ (2 ≤ a ∧ a ≤ 39) → μ3.1 a j = μ2.1 a j) ∧ (∀ a j, ¬ gq_im 0 a j → ν3.1 a j = ν2.1 a j) ∧ μ3.2 = μ2.2 ∧ ν3.2 = ν2.2 := by
  obtain ⟨w, w1, w2, w3⟩ := fin.1 rfl
  obtain ⟨o1, o2, o3, o4, o5, o6, o7⟩ := ok
  obtain ⟨c1, c2, c3, c4, c5, c6, c7⟩ := hc
  obtain ⟨m1, m2, m3, m4, m5, m6, m7⟩ := hm
  have n0 := o3 0 (by omega)
  have n1 := o3 1 (by omega)
  have n2 := o3 2 (by omega)
  have n3 := o3 3 (by omega)
  have hMb : M ≤ 2 ∧ k < M ∧ N 0 ≤ M ∧ (∀ s, s < M → s = k ∨ s < N 0) := by
    rw [hM]
    split
    · exact ⟨by omega, by omega, by omega, fun s hs => by omega⟩
    · exact ⟨by omega, by omega, by omega, fun s hs => by omega⟩
  obtain ⟨μa, a1, a2, a3, a4⟩ := gq_copyS (a0 := 8 + 16 * k) (a1 := 45) (μ := μ2) (by omega)
  have slot : gq_cS μa (8 + 16 * k) w := a2 w w3.2.2.1.2 w1
  have F1 : ∀ a j, ¬ (8 + 16 * k ≤ a ∧ a ≤ 15 + 16 * k) → μa.1 a j = μ2.1 a j := fun a j h => a3 _ _ (by omega)
  have la : ∀ s, s < 2 → gq_ln μa (16 + 16 * s) 40 ∧ gq_ln μa (19 + 16 * s) 8 := fun s hs => ⟨gq_ln_w (hl s hs).1 fun j => F1 _ _ (by omega), gq_ln_w (hl s hs).2 fun j => F1 _ _ (by omega)⟩
  have many : μa.1 2 0 = gq_I (N 0) := by rw [F1 _ _ (by omega)]; exact c3 0 (by omega)
  obtain ⟨μ3, e3⟩ : ∃ μ3, μ3 = gx_uI μa 2 0 (gq_I M) := ⟨_, rfl⟩
  have F3 : ∀ a j, ¬ (a = 2 ∧ j = 0) → μ3.1 a j = μa.1 a j := fun a j h => by rw [e3, gq_uI1, if_neg h]
  obtain ⟨ν3, b1, b2, b3, b4⟩ := gp_store (W := 111) (k := k) (n1 := 888) (a := 212) (by omega) (by omega) (by omega) (gx_uI ν2 211 0 (gq_I M))
  have H3 : ∀ a j, ¬ (a = 211 ∧ j = 0) → ¬ (a = 212 ∧ 111 * k ≤ j ∧ j < 111 * k + 111) → ν3.1 a j = ν2.1 a j := fun a j h1 h2 => by
    rw [b3 _ _ h2, gq_uI1, if_neg h1]
  have eM : (if gq_I (N 0 : Int) < gq_I ((k : Int) + 1) then gq_I ((k : Int) + 1) else gq_I (N 0 : Int)) = gq_I M := by
    rw [hM]
    simp (disch := omega) only [gq_lt]
    by_cases g : N 0 < k + 1
    · rw [if_pos g, if_pos (by omega)]; rfl
    · rw [if_neg g, if_neg (by omega)]
  have nup : ∀ q, q ≠ 0 → gp_upd N 0 M q = N q := fun q h => if_neg h
  have nof : gp_upd N 0 M 0 = M := if_pos rfl
  refine ⟨μ3, ν3, (gp_up2 W k w), Y, G, V, ?_, ?_, ⟨o1, o2, fun q hq => ?_, ?_, ?_, ?_, ?_⟩, ⟨fun q hq => (by rw [F3 _ _ (by omega), F1 _ _ (by omega)]; exact c1 q hq), ⟨(by rw [F3 _ _ (by omega), F1 _ _ (by omega)]; exact c2.1), (by rw [F3 _ _ (by omega), F1 _ _ (by omega)]; exact c2.2.1), (by rw [F3 _ _ (by omega), F1 _ _ (by omega)]; exact c2.2.2)⟩, fun q hq => ?_, ?_, ?_, ?_, ?_⟩, ⟨fun q hq => (by rw [H3 _ _ (by omega) (by omega)]; exact m1 q hq), ⟨(by rw [H3 _ _ (by omega) (by omega)]; exact m2.1), (by rw [H3 _ _ (by omega) (by omega)]; exact m2.2.1), (by rw [H3 _ _ (by omega) (by omega)]; exact m2.2.2)⟩, fun q hq => ?_, ?_, ?_, ?_, ?_⟩, fun s hs => ⟨gq_ln_w (la s hs).1 fun j => F3 _ _ (by omega), gq_ln_w (la s hs).2 fun j => F3 _ _ (by omega)⟩, fun a j h => by rw [F3 _ _ (by omega), F1 _ _ (by omega)], fun a j h => ?_, by rw [e3, gq_uI2, a4], by rw [b4]; rfl⟩
  · unfold f_X9_put
    simp (disch := omega) only [Int.reduceToNat, gq_lit, gq_neg, gq_add, gq_sub, gq_mul, gq_nat, Int.toNat_natCast, gq_tadd, gq_tmul, gq_lte, gq_br, gq_bd, gq_ck, Bool.false_eq_true, gq_leT, gq_leF, gq_ltT, gq_ltF, gq_eqT, gq_eqF, if_true, if_false, a1, many, eM]
    rw [e3]
  · unfold f_X12_storeAll
    simp (disch := omega) only [gq_lit, Bool.false_eq_true, gq_leT, gq_leF, gq_ltT, gq_ltF, gq_eqT, gq_eqF, if_true, if_false]
    rw [show gq_I 111 = gq_I ((111 : Nat) : Int) from rfl, b1]
    rfl
  · unfold gp_upd
    split
    · omega
    · exact o3 q hq
  · intro s hs
    rw [nof] at hs
    unfold gp_up2
    split
    · exact w3
    · exact o4 s (by rcases hMb.2.2.2 s hs with g | g <;> omega)
  · intro s hs
    exact o5 s (by rw [nup _ (by omega)] at hs; exact hs)
  · intro s hs
    exact o6 s (by rw [nup _ (by omega)] at hs; exact hs)
  · intro s hs
    exact o7 s (by rw [nup _ (by omega)] at hs; exact hs)
  · by_cases g : q = 0
    · subst g
      rw [nof]
      show μ3.1 2 0 = _
      rw [e3, gq_uI1, if_pos ⟨rfl, rfl⟩]
    · rw [nup _ g]
      show μ3.1 2 q = _
      rw [F3 _ _ (by omega), F1 _ _ (by omega)]
      exact c3 q hq
  · intro s hs
    rw [nof] at hs
    unfold gp_up2
    by_cases g : s = k
    · rw [if_pos g, g]
      exact gq_cS_sm slot fun i hi => by funext j; rw [F3 _ _ (by omega)]
    · rw [if_neg g]
      exact gq_cS_sm (c4 s (by rcases hMb.2.2.2 s hs with g | g <;> omega)) fun i hi => by funext j; rw [F3 _ _ (by omega), F1 _ _ (by omega)]
  · intro s hs
    rw [nup _ (by omega)] at hs
    exact gq_cY_sm (c5 s hs) fun i hi => by funext j; rw [F3 _ _ (by omega), F1 _ _ (by omega)]
  · intro s hs
    rw [nup _ (by omega)] at hs
    exact gq_cG_sm (c6 s hs) fun i hi => by funext j; rw [F3 _ _ (by omega), F1 _ _ (by omega)]
  · intro s hs
    rw [nup _ (by omega)] at hs
    exact gq_cV_sm (c7 s hs) fun i hi => by funext j; rw [F3 _ _ (by omega), F1 _ _ (by omega)]
  · by_cases g : q = 0
    · subst g
      rw [nof, show 4 * 0 + 0 = 0 from rfl, b3 _ _ (by omega), gq_uI1, if_pos ⟨rfl, rfl⟩]
    · rw [nup _ g, H3 _ _ (by omega) (by omega)]
      exact m3 q hq
  · intro s hs
    rw [nof] at hs
    unfold gp_up2
    by_cases g : s = k
    · rw [if_pos g, g]
      intro j hj
      rw [show 111 * (2 * 0 + k) + j = 111 * k + j by omega, b2 j hj, gq_uI1, if_neg (by omega)]
      exact w2 j hj
    · rw [if_neg g]
      intro j hj
      rw [H3 _ _ (by omega) (by omega)]
      exact m4 s (by rcases hMb.2.2.2 s hs with g | g <;> omega) j hj
  · intro s hs j hj
    rw [nup _ (by omega)] at hs
    rw [H3 _ _ (by omega) (by omega)]
    exact m5 s hs j hj
  · intro s hs j hj
    rw [nup _ (by omega)] at hs
    rw [H3 _ _ (by omega) (by omega)]
    exact m6 s hs j hj
  · intro s hs j hj
    rw [nup _ (by omega)] at hs
    rw [H3 _ _ (by omega) (by omega)]
    exact m7 s hs j hj
  · unfold gq_im at h
    exact H3 _ _ (by omega) (by omega)
set_option maxHeartbeats 2000000 in
theorem gp_put_1 {μ2 ν2 : gx_M} {tp : Nat → Int32} {f p : Int32} {N : Nat → Nat} {W Y G V : Nat → Nat → Int} {k M : Nat} (hk : k < 2) (hkN : k ≤ N 1) (hM : M = if N 1 < k + 1 then k + 1 else N 1) (ok : gq_okT tp 0 N W Y G V) (hc : gq_cT μ2 1 tp 0 f p N W Y G V) (hm : gq_mT ν2 0 tp 0 f p N W Y G V) (hl : ∀ s, s < 2 → gq_ln μ2 (16 + 16 * s) 40 ∧ gq_ln μ2 (19 + 16 * s) 8) (hl1 : gq_ln μ2 53 40) (hl2 : gq_ln μ2 56 8) (fin : gp_fin 1 μ2 ν2) : ∃ (μ3 ν3 : gx_M) (W' Y' G' V' : Nat → Nat → Int), f_X9_put (gq_I 1) (gq_I k) μ2 = some ((), μ3) ∧ f_X12_storeAll (gq_I 1) (gq_I k) (gx_uI ν2 211 1 (gq_I M)) = some ((), ν3) ∧ gq_okT tp 0 (gp_upd N 1 M) W' Y' G' V' ∧ gq_cT μ3 1 tp 0 f p (gp_upd N 1 M) W' Y' G' V' ∧ gq_mT ν3 0 tp 0 f p (gp_upd N 1 M) W' Y' G' V' ∧ (∀ s, s < 2 → gq_ln μ3 (16 + 16 * s) 40 ∧ gq_ln μ3 (19 + 16 * s) 8) ∧ (∀ a j, ¬ (2 ≤ a ∧ a ≤ 39) → μ3.1 a j = μ2.1 a j) ∧ (∀ a j, ¬ gq_im 0 a j → ν3.1 a j = ν2.1 a j) ∧ μ3.2 = μ2.2 ∧ ν3.2 = ν2.2 := by
  obtain ⟨w, w1, w2, w3⟩ := fin.2.1 rfl
  obtain ⟨o1, o2, o3, o4, o5, o6, o7⟩ := ok
  obtain ⟨c1, c2, c3, c4, c5, c6, c7⟩ := hc
  obtain ⟨m1, m2, m3, m4, m5, m6, m7⟩ := hm
  have n0 := o3 0 (by omega)
  have n1 := o3 1 (by omega)
  have n2 := o3 2 (by omega)
  have n3 := o3 3 (by omega)
  have hMb : M ≤ 2 ∧ k < M ∧ N 1 ≤ M ∧ (∀ s, s < M → s = k ∨ s < N 1) := by
    rw [hM]
    split
    · exact ⟨by omega, by omega, by omega, fun s hs => by omega⟩
    · exact ⟨by omega, by omega, by omega, fun s hs => by omega⟩
  obtain ⟨μa, a1, a2, a3, a4, a5, a6, a7⟩ := gq_copyL (a0 := 16 + 16 * k) (a1 := 53) (n := 40) (μ := μ2) (by omega) (by omega) (hl k hk).1 hl1
  have F1 : ∀ a j, ¬ (16 + 16 * k ≤ a ∧ a ≤ 18 + 16 * k) → μa.1 a j = μ2.1 a j := fun a j h => a6 _ _ (by omega)
  have slot : gq_cY μa (16 + 16 * k) w := by
    obtain ⟨g1, g2⟩ := w1
    have g0 := w3.1
    have h3 : μ2.1 53 3 = gq_I (w 0).toNat := by rw [Int.toNat_of_nonneg g0.1]; exact g1
    refine ⟨by rw [a3]; exact g1, fun j hj => ?_⟩
    rw [a4 _ h3 j (by omega) (by omega), a5 _ h3 _ (by omega) (by omega), a5 _ h3 _ (by omega) (by omega), a5 _ h3 _ (by omega) (by omega)]
    exact g2 j hj
  have la : ∀ s, s < 2 → gq_ln μa (16 + 16 * s) 40 ∧ gq_ln μa (19 + 16 * s) 8 := fun s hs => by
    refine ⟨?_, gq_ln_w (hl s hs).2 fun j => F1 _ _ (by omega)⟩
    by_cases g : s = k
    · rw [g]; exact a2
    · exact gq_ln_w (hl s hs).1 fun j => F1 _ _ (by omega)
  have many : μa.1 2 1 = gq_I (N 1) := by rw [F1 _ _ (by omega)]; exact c3 1 (by omega)
  obtain ⟨μ3, e3⟩ : ∃ μ3, μ3 = gx_uI μa 2 1 (gq_I M) := ⟨_, rfl⟩
  have F3 : ∀ a j, ¬ (a = 2 ∧ j = 1) → μ3.1 a j = μa.1 a j := fun a j h => by rw [e3, gq_uI1, if_neg h]
  obtain ⟨ν3, b1, b2, b3, b4⟩ := gp_store (W := 161) (k := k) (n1 := 1288) (a := 213) (by omega) (by omega) (by omega) (gx_uI ν2 211 1 (gq_I M))
  have H3 : ∀ a j, ¬ (a = 211 ∧ j = 1) → ¬ (a = 213 ∧ 161 * k ≤ j ∧ j < 161 * k + 161) → ν3.1 a j = ν2.1 a j := fun a j h1 h2 => by
    rw [b3 _ _ h2, gq_uI1, if_neg h1]
  have eM : (if gq_I (N 1 : Int) < gq_I ((k : Int) + 1) then gq_I ((k : Int) + 1) else gq_I (N 1 : Int)) = gq_I M := by
    rw [hM]
    simp (disch := omega) only [gq_lt]
    by_cases g : N 1 < k + 1
    · rw [if_pos g, if_pos (by omega)]; rfl
    · rw [if_neg g, if_neg (by omega)]
  have nup : ∀ q, q ≠ 1 → gp_upd N 1 M q = N q := fun q h => if_neg h
  have nof : gp_upd N 1 M 1 = M := if_pos rfl
  refine ⟨μ3, ν3, W, (gp_up2 Y k w), G, V, ?_, ?_, ⟨o1, o2, fun q hq => ?_, ?_, ?_, ?_, ?_⟩, ⟨fun q hq => (by rw [F3 _ _ (by omega), F1 _ _ (by omega)]; exact c1 q hq), ⟨(by rw [F3 _ _ (by omega), F1 _ _ (by omega)]; exact c2.1), (by rw [F3 _ _ (by omega), F1 _ _ (by omega)]; exact c2.2.1), (by rw [F3 _ _ (by omega), F1 _ _ (by omega)]; exact c2.2.2)⟩, fun q hq => ?_, ?_, ?_, ?_, ?_⟩, ⟨fun q hq => (by rw [H3 _ _ (by omega) (by omega)]; exact m1 q hq), ⟨(by rw [H3 _ _ (by omega) (by omega)]; exact m2.1), (by rw [H3 _ _ (by omega) (by omega)]; exact m2.2.1), (by rw [H3 _ _ (by omega) (by omega)]; exact m2.2.2)⟩, fun q hq => ?_, ?_, ?_, ?_, ?_⟩, fun s hs => ⟨gq_ln_w (la s hs).1 fun j => F3 _ _ (by omega), gq_ln_w (la s hs).2 fun j => F3 _ _ (by omega)⟩, fun a j h => by rw [F3 _ _ (by omega), F1 _ _ (by omega)], fun a j h => ?_, by rw [e3, gq_uI2, a7], by rw [b4]; rfl⟩
  · unfold f_X9_put
    simp (disch := omega) only [Int.reduceToNat, gq_lit, gq_neg, gq_add, gq_sub, gq_mul, gq_nat, Int.toNat_natCast, gq_tadd, gq_tmul, gq_lte, gq_br, gq_bd, gq_ck, Bool.false_eq_true, gq_leT, gq_leF, gq_ltT, gq_ltF, gq_eqT, gq_eqF, if_true, if_false, a1, many, eM]
    rw [e3]
  · unfold f_X12_storeAll
    simp (disch := omega) only [gq_lit, Bool.false_eq_true, gq_leT, gq_leF, gq_ltT, gq_ltF, gq_eqT, gq_eqF, if_true, if_false]
    rw [show gq_I 161 = gq_I ((161 : Nat) : Int) from rfl, b1]
    rfl
  · unfold gp_upd
    split
    · omega
    · exact o3 q hq
  · intro s hs
    exact o4 s (by rw [nup _ (by omega)] at hs; exact hs)
  · intro s hs
    rw [nof] at hs
    unfold gp_up2
    split
    · exact w3
    · exact o5 s (by rcases hMb.2.2.2 s hs with g | g <;> omega)
  · intro s hs
    exact o6 s (by rw [nup _ (by omega)] at hs; exact hs)
  · intro s hs
    exact o7 s (by rw [nup _ (by omega)] at hs; exact hs)
  · by_cases g : q = 1
    · subst g
      rw [nof]
      show μ3.1 2 1 = _
      rw [e3, gq_uI1, if_pos ⟨rfl, rfl⟩]
    · rw [nup _ g]
      show μ3.1 2 q = _
      rw [F3 _ _ (by omega), F1 _ _ (by omega)]
      exact c3 q hq
  · intro s hs
    rw [nup _ (by omega)] at hs
    exact gq_cS_sm (c4 s hs) fun i hi => by funext j; rw [F3 _ _ (by omega), F1 _ _ (by omega)]
  · intro s hs
    rw [nof] at hs
    unfold gp_up2
    by_cases g : s = k
    · rw [if_pos g, g]
      exact gq_cY_sm slot fun i hi => by funext j; rw [F3 _ _ (by omega)]
    · rw [if_neg g]
      exact gq_cY_sm (c5 s (by rcases hMb.2.2.2 s hs with g | g <;> omega)) fun i hi => by funext j; rw [F3 _ _ (by omega), F1 _ _ (by omega)]
  · intro s hs
    rw [nup _ (by omega)] at hs
    exact gq_cG_sm (c6 s hs) fun i hi => by funext j; rw [F3 _ _ (by omega), F1 _ _ (by omega)]
  · intro s hs
    rw [nup _ (by omega)] at hs
    exact gq_cV_sm (c7 s hs) fun i hi => by funext j; rw [F3 _ _ (by omega), F1 _ _ (by omega)]
  · by_cases g : q = 1
    · subst g
      rw [nof, show 4 * 0 + 1 = 1 from rfl, b3 _ _ (by omega), gq_uI1, if_pos ⟨rfl, rfl⟩]
    · rw [nup _ g, H3 _ _ (by omega) (by omega)]
      exact m3 q hq
  · intro s hs j hj
    rw [nup _ (by omega)] at hs
    rw [H3 _ _ (by omega) (by omega)]
    exact m4 s hs j hj
  · intro s hs
    rw [nof] at hs
    unfold gp_up2
    by_cases g : s = k
    · rw [if_pos g, g]
      intro j hj
      rw [show 161 * (2 * 0 + k) + j = 161 * k + j by omega, b2 j hj, gq_uI1, if_neg (by omega)]
      exact w2 j hj
    · rw [if_neg g]
      intro j hj
      rw [H3 _ _ (by omega) (by omega)]
      exact m5 s (by rcases hMb.2.2.2 s hs with g | g <;> omega) j hj
  · intro s hs j hj
    rw [nup _ (by omega)] at hs
    rw [H3 _ _ (by omega) (by omega)]
    exact m6 s hs j hj
  · intro s hs j hj
    rw [nup _ (by omega)] at hs
    rw [H3 _ _ (by omega) (by omega)]
    exact m7 s hs j hj
  · unfold gq_im at h
    exact H3 _ _ (by omega) (by omega)
set_option maxHeartbeats 2000000 in
theorem gp_put_2 {μ2 ν2 : gx_M} {tp : Nat → Int32} {f p : Int32} {N : Nat → Nat} {W Y G V : Nat → Nat → Int} {k M : Nat} (hk : k < 2) (hkN : k ≤ N 2) (hM : M = if N 2 < k + 1 then k + 1 else N 2) (ok : gq_okT tp 0 N W Y G V) (hc : gq_cT μ2 1 tp 0 f p N W Y G V) (hm : gq_mT ν2 0 tp 0 f p N W Y G V) (hl : ∀ s, s < 2 → gq_ln μ2 (16 + 16 * s) 40 ∧ gq_ln μ2 (19 + 16 * s) 8) (hl1 : gq_ln μ2 53 40) (hl2 : gq_ln μ2 56 8) (fin : gp_fin 2 μ2 ν2) : ∃ (μ3 ν3 : gx_M) (W' Y' G' V' : Nat → Nat → Int), f_X9_put (gq_I 2) (gq_I k) μ2 = some ((), μ3) ∧ f_X12_storeAll (gq_I 2) (gq_I k) (gx_uI ν2 211 2 (gq_I M)) = some ((), ν3) ∧ gq_okT tp 0 (gp_upd N 2 M) W' Y' G' V' ∧ gq_cT μ3 1 tp 0 f p (gp_upd N 2 M) W' Y' G' V' ∧ gq_mT ν3 0 tp 0 f p (gp_upd N 2 M) W' Y' G' V' ∧ (∀ s, s < 2 → gq_ln μ3 (16 + 16 * s) 40 ∧ gq_ln μ3 (19 + 16 * s) 8) ∧ (∀ a j, ¬ (2 ≤ a ∧ a ≤ 39) → μ3.1 a j = μ2.1 a j) ∧ (∀ a j, ¬ gq_im 0 a j → ν3.1 a j = ν2.1 a j) ∧ μ3.2 = μ2.2 ∧ ν3.2 = ν2.2 := by
  obtain ⟨w, w1, w2, w3⟩ := fin.2.2.1 rfl
  obtain ⟨o1, o2, o3, o4, o5, o6, o7⟩ := ok
  obtain ⟨c1, c2, c3, c4, c5, c6, c7⟩ := hc
  obtain ⟨m1, m2, m3, m4, m5, m6, m7⟩ := hm
  have n0 := o3 0 (by omega)
  have n1 := o3 1 (by omega)
  have n2 := o3 2 (by omega)
  have n3 := o3 3 (by omega)
  have hMb : M ≤ 2 ∧ k < M ∧ N 2 ≤ M ∧ (∀ s, s < M → s = k ∨ s < N 2) := by
    rw [hM]
    split
    · exact ⟨by omega, by omega, by omega, fun s hs => by omega⟩
    · exact ⟨by omega, by omega, by omega, fun s hs => by omega⟩
  obtain ⟨μa, a1, a2, a3, a4, a5, a6, a7⟩ := gq_copyL (a0 := 19 + 16 * k) (a1 := 56) (n := 8) (μ := μ2) (by omega) (by omega) (hl k hk).2 hl2
  have F1 : ∀ a j, ¬ (19 + 16 * k ≤ a ∧ a ≤ 21 + 16 * k) → μa.1 a j = μ2.1 a j := fun a j h => a6 _ _ (by omega)
  have slot : gq_cG μa (19 + 16 * k) w := by
    obtain ⟨g1, g2⟩ := w1
    have g0 := w3.1
    have h3 : μ2.1 56 3 = gq_I (w 0).toNat := by rw [Int.toNat_of_nonneg g0.1]; exact g1
    refine ⟨by rw [a3]; exact g1, fun j hj => ?_⟩
    rw [a4 _ h3 j (by omega) (by omega), a5 _ h3 _ (by omega) (by omega)]
    exact g2 j hj
  have la : ∀ s, s < 2 → gq_ln μa (16 + 16 * s) 40 ∧ gq_ln μa (19 + 16 * s) 8 := fun s hs => by
    refine ⟨gq_ln_w (hl s hs).1 fun j => F1 _ _ (by omega), ?_⟩
    by_cases g : s = k
    · rw [g]; exact a2
    · exact gq_ln_w (hl s hs).2 fun j => F1 _ _ (by omega)
  have many : μa.1 2 2 = gq_I (N 2) := by rw [F1 _ _ (by omega)]; exact c3 2 (by omega)
  obtain ⟨μ3, e3⟩ : ∃ μ3, μ3 = gx_uI μa 2 2 (gq_I M) := ⟨_, rfl⟩
  have F3 : ∀ a j, ¬ (a = 2 ∧ j = 2) → μ3.1 a j = μa.1 a j := fun a j h => by rw [e3, gq_uI1, if_neg h]
  obtain ⟨ν3, b1, b2, b3, b4⟩ := gp_store (W := 17) (k := k) (n1 := 136) (a := 214) (by omega) (by omega) (by omega) (gx_uI ν2 211 2 (gq_I M))
  have H3 : ∀ a j, ¬ (a = 211 ∧ j = 2) → ¬ (a = 214 ∧ 17 * k ≤ j ∧ j < 17 * k + 17) → ν3.1 a j = ν2.1 a j := fun a j h1 h2 => by
    rw [b3 _ _ h2, gq_uI1, if_neg h1]
  have eM : (if gq_I (N 2 : Int) < gq_I ((k : Int) + 1) then gq_I ((k : Int) + 1) else gq_I (N 2 : Int)) = gq_I M := by
    rw [hM]
    simp (disch := omega) only [gq_lt]
    by_cases g : N 2 < k + 1
    · rw [if_pos g, if_pos (by omega)]; rfl
    · rw [if_neg g, if_neg (by omega)]
  have nup : ∀ q, q ≠ 2 → gp_upd N 2 M q = N q := fun q h => if_neg h
  have nof : gp_upd N 2 M 2 = M := if_pos rfl
  refine ⟨μ3, ν3, W, Y, (gp_up2 G k w), V, ?_, ?_, ⟨o1, o2, fun q hq => ?_, ?_, ?_, ?_, ?_⟩, ⟨fun q hq => (by rw [F3 _ _ (by omega), F1 _ _ (by omega)]; exact c1 q hq), ⟨(by rw [F3 _ _ (by omega), F1 _ _ (by omega)]; exact c2.1), (by rw [F3 _ _ (by omega), F1 _ _ (by omega)]; exact c2.2.1), (by rw [F3 _ _ (by omega), F1 _ _ (by omega)]; exact c2.2.2)⟩, fun q hq => ?_, ?_, ?_, ?_, ?_⟩, ⟨fun q hq => (by rw [H3 _ _ (by omega) (by omega)]; exact m1 q hq), ⟨(by rw [H3 _ _ (by omega) (by omega)]; exact m2.1), (by rw [H3 _ _ (by omega) (by omega)]; exact m2.2.1), (by rw [H3 _ _ (by omega) (by omega)]; exact m2.2.2)⟩, fun q hq => ?_, ?_, ?_, ?_, ?_⟩, fun s hs => ⟨gq_ln_w (la s hs).1 fun j => F3 _ _ (by omega), gq_ln_w (la s hs).2 fun j => F3 _ _ (by omega)⟩, fun a j h => by rw [F3 _ _ (by omega), F1 _ _ (by omega)], fun a j h => ?_, by rw [e3, gq_uI2, a7], by rw [b4]; rfl⟩
  · unfold f_X9_put
    simp (disch := omega) only [Int.reduceToNat, gq_lit, gq_neg, gq_add, gq_sub, gq_mul, gq_nat, Int.toNat_natCast, gq_tadd, gq_tmul, gq_lte, gq_br, gq_bd, gq_ck, Bool.false_eq_true, gq_leT, gq_leF, gq_ltT, gq_ltF, gq_eqT, gq_eqF, if_true, if_false, a1, many, eM]
    rw [e3]
  · unfold f_X12_storeAll
    simp (disch := omega) only [gq_lit, Bool.false_eq_true, gq_leT, gq_leF, gq_ltT, gq_ltF, gq_eqT, gq_eqF, if_true, if_false]
    rw [show gq_I 17 = gq_I ((17 : Nat) : Int) from rfl, b1]
    rfl
  · unfold gp_upd
    split
    · omega
    · exact o3 q hq
  · intro s hs
    exact o4 s (by rw [nup _ (by omega)] at hs; exact hs)
  · intro s hs
    exact o5 s (by rw [nup _ (by omega)] at hs; exact hs)
  · intro s hs
    rw [nof] at hs
    unfold gp_up2
    split
    · exact w3
    · exact o6 s (by rcases hMb.2.2.2 s hs with g | g <;> omega)
  · intro s hs
    exact o7 s (by rw [nup _ (by omega)] at hs; exact hs)
  · by_cases g : q = 2
    · subst g
      rw [nof]
      show μ3.1 2 2 = _
      rw [e3, gq_uI1, if_pos ⟨rfl, rfl⟩]
    · rw [nup _ g]
      show μ3.1 2 q = _
      rw [F3 _ _ (by omega), F1 _ _ (by omega)]
      exact c3 q hq
  · intro s hs
    rw [nup _ (by omega)] at hs
    exact gq_cS_sm (c4 s hs) fun i hi => by funext j; rw [F3 _ _ (by omega), F1 _ _ (by omega)]
  · intro s hs
    rw [nup _ (by omega)] at hs
    exact gq_cY_sm (c5 s hs) fun i hi => by funext j; rw [F3 _ _ (by omega), F1 _ _ (by omega)]
  · intro s hs
    rw [nof] at hs
    unfold gp_up2
    by_cases g : s = k
    · rw [if_pos g, g]
      exact gq_cG_sm slot fun i hi => by funext j; rw [F3 _ _ (by omega)]
    · rw [if_neg g]
      exact gq_cG_sm (c6 s (by rcases hMb.2.2.2 s hs with g | g <;> omega)) fun i hi => by funext j; rw [F3 _ _ (by omega), F1 _ _ (by omega)]
  · intro s hs
    rw [nup _ (by omega)] at hs
    exact gq_cV_sm (c7 s hs) fun i hi => by funext j; rw [F3 _ _ (by omega), F1 _ _ (by omega)]
  · by_cases g : q = 2
    · subst g
      rw [nof, show 4 * 0 + 2 = 2 from rfl, b3 _ _ (by omega), gq_uI1, if_pos ⟨rfl, rfl⟩]
    · rw [nup _ g, H3 _ _ (by omega) (by omega)]
      exact m3 q hq
  · intro s hs j hj
    rw [nup _ (by omega)] at hs
    rw [H3 _ _ (by omega) (by omega)]
    exact m4 s hs j hj
  · intro s hs j hj
    rw [nup _ (by omega)] at hs
    rw [H3 _ _ (by omega) (by omega)]
    exact m5 s hs j hj
  · intro s hs
    rw [nof] at hs
    unfold gp_up2
    by_cases g : s = k
    · rw [if_pos g, g]
      intro j hj
      rw [show 17 * (2 * 0 + k) + j = 17 * k + j by omega, b2 j hj, gq_uI1, if_neg (by omega)]
      exact w2 j hj
    · rw [if_neg g]
      intro j hj
      rw [H3 _ _ (by omega) (by omega)]
      exact m6 s (by rcases hMb.2.2.2 s hs with g | g <;> omega) j hj
  · intro s hs j hj
    rw [nup _ (by omega)] at hs
    rw [H3 _ _ (by omega) (by omega)]
    exact m7 s hs j hj
  · unfold gq_im at h
    exact H3 _ _ (by omega) (by omega)
set_option maxHeartbeats 2000000 in
theorem gp_put_3 {μ2 ν2 : gx_M} {tp : Nat → Int32} {f p : Int32} {N : Nat → Nat} {W Y G V : Nat → Nat → Int} {k M : Nat} (hk : k < 2) (hkN : k ≤ N 3) (hM : M = if N 3 < k + 1 then k + 1 else N 3) (ok : gq_okT tp 0 N W Y G V) (hc : gq_cT μ2 1 tp 0 f p N W Y G V) (hm : gq_mT ν2 0 tp 0 f p N W Y G V) (hl : ∀ s, s < 2 → gq_ln μ2 (16 + 16 * s) 40 ∧ gq_ln μ2 (19 + 16 * s) 8) (hl1 : gq_ln μ2 53 40) (hl2 : gq_ln μ2 56 8) (fin : gp_fin 3 μ2 ν2) : ∃ (μ3 ν3 : gx_M) (W' Y' G' V' : Nat → Nat → Int), f_X9_put (gq_I 3) (gq_I k) μ2 = some ((), μ3) ∧ f_X12_storeAll (gq_I 3) (gq_I k) (gx_uI ν2 211 3 (gq_I M)) = some ((), ν3) ∧ gq_okT tp 0 (gp_upd N 3 M) W' Y' G' V' ∧ gq_cT μ3 1 tp 0 f p (gp_upd N 3 M) W' Y' G' V' ∧ gq_mT ν3 0 tp 0 f p (gp_upd N 3 M) W' Y' G' V' ∧ (∀ s, s < 2 → gq_ln μ3 (16 + 16 * s) 40 ∧ gq_ln μ3 (19 + 16 * s) 8) ∧ (∀ a j, ¬ (2 ≤ a ∧ a ≤ 39) → μ3.1 a j = μ2.1 a j) ∧ (∀ a j, ¬ gq_im 0 a j → ν3.1 a j = ν2.1 a j) ∧ μ3.2 = μ2.2 ∧ ν3.2 = ν2.2 := by
  obtain ⟨w, w1, w2, w3⟩ := fin.2.2.2 rfl
  obtain ⟨o1, o2, o3, o4, o5, o6, o7⟩ := ok
  obtain ⟨c1, c2, c3, c4, c5, c6, c7⟩ := hc
  obtain ⟨m1, m2, m3, m4, m5, m6, m7⟩ := hm
  have n0 := o3 0 (by omega)
  have n1 := o3 1 (by omega)
  have n2 := o3 2 (by omega)
  have n3 := o3 3 (by omega)
  have hMb : M ≤ 2 ∧ k < M ∧ N 3 ≤ M ∧ (∀ s, s < M → s = k ∨ s < N 3) := by
    rw [hM]
    split
    · exact ⟨by omega, by omega, by omega, fun s hs => by omega⟩
    · exact ⟨by omega, by omega, by omega, fun s hs => by omega⟩
  obtain ⟨μa, a1, a2, a3, a4⟩ := gq_copyV (a0 := 22 + 16 * k) (a1 := 59) (μ := μ2) (by omega)
  have slot : gq_cV μa (22 + 16 * k) w := a2 w w1
  have F1 : ∀ a j, ¬ (22 + 16 * k ≤ a ∧ a ≤ 23 + 16 * k) → μa.1 a j = μ2.1 a j := fun a j h => a3 _ _ (by omega)
  have la : ∀ s, s < 2 → gq_ln μa (16 + 16 * s) 40 ∧ gq_ln μa (19 + 16 * s) 8 := fun s hs => ⟨gq_ln_w (hl s hs).1 fun j => F1 _ _ (by omega), gq_ln_w (hl s hs).2 fun j => F1 _ _ (by omega)⟩
  have many : μa.1 2 3 = gq_I (N 3) := by rw [F1 _ _ (by omega)]; exact c3 3 (by omega)
  obtain ⟨μ3, e3⟩ : ∃ μ3, μ3 = gx_uI μa 2 3 (gq_I M) := ⟨_, rfl⟩
  have F3 : ∀ a j, ¬ (a = 2 ∧ j = 3) → μ3.1 a j = μa.1 a j := fun a j h => by rw [e3, gq_uI1, if_neg h]
  obtain ⟨ν3, b1, b2, b3, b4⟩ := gp_store (W := 37) (k := k) (n1 := 296) (a := 215) (by omega) (by omega) (by omega) (gx_uI ν2 211 3 (gq_I M))
  have H3 : ∀ a j, ¬ (a = 211 ∧ j = 3) → ¬ (a = 215 ∧ 37 * k ≤ j ∧ j < 37 * k + 37) → ν3.1 a j = ν2.1 a j := fun a j h1 h2 => by
    rw [b3 _ _ h2, gq_uI1, if_neg h1]
  have eM : (if gq_I (N 3 : Int) < gq_I ((k : Int) + 1) then gq_I ((k : Int) + 1) else gq_I (N 3 : Int)) = gq_I M := by
    rw [hM]
    simp (disch := omega) only [gq_lt]
    by_cases g : N 3 < k + 1
    · rw [if_pos g, if_pos (by omega)]; rfl
    · rw [if_neg g, if_neg (by omega)]
  have nup : ∀ q, q ≠ 3 → gp_upd N 3 M q = N q := fun q h => if_neg h
  have nof : gp_upd N 3 M 3 = M := if_pos rfl
  refine ⟨μ3, ν3, W, Y, G, (gp_up2 V k w), ?_, ?_, ⟨o1, o2, fun q hq => ?_, ?_, ?_, ?_, ?_⟩, ⟨fun q hq => (by rw [F3 _ _ (by omega), F1 _ _ (by omega)]; exact c1 q hq), ⟨(by rw [F3 _ _ (by omega), F1 _ _ (by omega)]; exact c2.1), (by rw [F3 _ _ (by omega), F1 _ _ (by omega)]; exact c2.2.1), (by rw [F3 _ _ (by omega), F1 _ _ (by omega)]; exact c2.2.2)⟩, fun q hq => ?_, ?_, ?_, ?_, ?_⟩, ⟨fun q hq => (by rw [H3 _ _ (by omega) (by omega)]; exact m1 q hq), ⟨(by rw [H3 _ _ (by omega) (by omega)]; exact m2.1), (by rw [H3 _ _ (by omega) (by omega)]; exact m2.2.1), (by rw [H3 _ _ (by omega) (by omega)]; exact m2.2.2)⟩, fun q hq => ?_, ?_, ?_, ?_, ?_⟩, fun s hs => ⟨gq_ln_w (la s hs).1 fun j => F3 _ _ (by omega), gq_ln_w (la s hs).2 fun j => F3 _ _ (by omega)⟩, fun a j h => by rw [F3 _ _ (by omega), F1 _ _ (by omega)], fun a j h => ?_, by rw [e3, gq_uI2, a4], by rw [b4]; rfl⟩
  · unfold f_X9_put
    simp (disch := omega) only [Int.reduceToNat, gq_lit, gq_neg, gq_add, gq_sub, gq_mul, gq_nat, Int.toNat_natCast, gq_tadd, gq_tmul, gq_lte, gq_br, gq_bd, gq_ck, Bool.false_eq_true, gq_leT, gq_leF, gq_ltT, gq_ltF, gq_eqT, gq_eqF, if_true, if_false, a1, many, eM]
    rw [e3]
  · unfold f_X12_storeAll
    simp (disch := omega) only [gq_lit, Bool.false_eq_true, gq_leT, gq_leF, gq_ltT, gq_ltF, gq_eqT, gq_eqF, if_true, if_false]
    rw [show gq_I 37 = gq_I ((37 : Nat) : Int) from rfl, b1]
    rfl
  · unfold gp_upd
    split
    · omega
    · exact o3 q hq
  · intro s hs
    exact o4 s (by rw [nup _ (by omega)] at hs; exact hs)
  · intro s hs
    exact o5 s (by rw [nup _ (by omega)] at hs; exact hs)
  · intro s hs
    exact o6 s (by rw [nup _ (by omega)] at hs; exact hs)
  · intro s hs
    rw [nof] at hs
    unfold gp_up2
    split
    · exact w3
    · exact o7 s (by rcases hMb.2.2.2 s hs with g | g <;> omega)
  · by_cases g : q = 3
    · subst g
      rw [nof]
      show μ3.1 2 3 = _
      rw [e3, gq_uI1, if_pos ⟨rfl, rfl⟩]
    · rw [nup _ g]
      show μ3.1 2 q = _
      rw [F3 _ _ (by omega), F1 _ _ (by omega)]
      exact c3 q hq
  · intro s hs
    rw [nup _ (by omega)] at hs
    exact gq_cS_sm (c4 s hs) fun i hi => by funext j; rw [F3 _ _ (by omega), F1 _ _ (by omega)]
  · intro s hs
    rw [nup _ (by omega)] at hs
    exact gq_cY_sm (c5 s hs) fun i hi => by funext j; rw [F3 _ _ (by omega), F1 _ _ (by omega)]
  · intro s hs
    rw [nup _ (by omega)] at hs
    exact gq_cG_sm (c6 s hs) fun i hi => by funext j; rw [F3 _ _ (by omega), F1 _ _ (by omega)]
  · intro s hs
    rw [nof] at hs
    unfold gp_up2
    by_cases g : s = k
    · rw [if_pos g, g]
      exact gq_cV_sm slot fun i hi => by funext j; rw [F3 _ _ (by omega)]
    · rw [if_neg g]
      exact gq_cV_sm (c7 s (by rcases hMb.2.2.2 s hs with g | g <;> omega)) fun i hi => by funext j; rw [F3 _ _ (by omega), F1 _ _ (by omega)]
  · by_cases g : q = 3
    · subst g
      rw [nof, show 4 * 0 + 3 = 3 from rfl, b3 _ _ (by omega), gq_uI1, if_pos ⟨rfl, rfl⟩]
    · rw [nup _ g, H3 _ _ (by omega) (by omega)]
      exact m3 q hq
  · intro s hs j hj
    rw [nup _ (by omega)] at hs
    rw [H3 _ _ (by omega) (by omega)]
    exact m4 s hs j hj
  · intro s hs j hj
    rw [nup _ (by omega)] at hs
    rw [H3 _ _ (by omega) (by omega)]
    exact m5 s hs j hj
  · intro s hs j hj
    rw [nup _ (by omega)] at hs
    rw [H3 _ _ (by omega) (by omega)]
    exact m6 s hs j hj
  · intro s hs
    rw [nof] at hs
    unfold gp_up2
    by_cases g : s = k
    · rw [if_pos g, g]
      intro j hj
      rw [show 37 * (2 * 0 + k) + j = 37 * k + j by omega, b2 j hj, gq_uI1, if_neg (by omega)]
      exact w2 j hj
    · rw [if_neg g]
      intro j hj
      rw [H3 _ _ (by omega) (by omega)]
      exact m7 s (by rcases hMb.2.2.2 s hs with g | g <;> omega) j hj
  · unfold gq_im at h
    exact H3 _ _ (by omega) (by omega)
