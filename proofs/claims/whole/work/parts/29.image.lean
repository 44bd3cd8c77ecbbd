/-! image, again -/
theorem gq_row {a n0 : Nat} {p1 p2 p3 : Int32} {A B n : Nat} (h1 : p1 = gq_I n) (hA : p1 * p2 = gq_I A) (hB : p1 * p3 = gq_I B) (hn : A + n ≤ n0 ∧ B + n ≤ n0 ∧ n0 ≤ 10000) (hd : A + n ≤ B ∨ B + n ≤ A) {k : gx_M → Option (Unit × gx_M)} : ∀ (d f i : Nat) (μ : gx_M), d < f → i + d = n → ∃ μ', L_X12_copyRow_3 p1 p2 n0 p3 a k f (gq_I i) μ = k μ' ∧ (∀ j, i ≤ j → j < n → μ'.1 a (B + j) = μ.1 a (A + j)) ∧ (∀ b j, ¬ (b = a ∧ B + i ≤ j ∧ j < B + n) → μ'.1 b j = μ.1 b j) ∧ μ'.2 = μ.2
  | _, 0, _, _, hf, _ => absurd hf (Nat.not_lt_zero _)
  | 0, f + 1, i, μ, hf, hi => by
    refine ⟨μ, ?_, fun j h2 h3 => absurd h3 (by omega), fun _ _ _ => rfl, rfl⟩
    rw [L_X12_copyRow_3.eq_2, h1]
    simp (disch := omega) only [gq_leT, gq_leF, gq_ltT, gq_ltF, gq_eqT, gq_eqF, if_true, if_false]
  | d + 1, f + 1, i, μ, hf, hi => by
    obtain ⟨μ', e1, e2, e3, e4⟩ := gq_row (a := a) h1 hA hB hn hd (k := k) d f (i + 1) (gx_uI μ a (B + i) (μ.1 a (A + i))) (by omega) (by omega)
    refine ⟨μ', ?_, fun j h2 h3 => ?_, fun b j hb => ?_, e4⟩
    · rw [L_X12_copyRow_3.eq_2, ← e1, hA, hB, h1]
      simp (disch := omega) only [Int.reduceToNat, gq_lit, gq_neg, gq_add, gq_sub, gq_mul, gq_nat, Int.toNat_natCast, gq_tadd, gq_tmul, gq_lte, gq_br, gq_bd, gq_ck, gq_leT, gq_leF, gq_ltT, gq_ltF, gq_eqT, gq_eqF, if_true, if_false]
      rfl
    · by_cases hj : j = i
      · subst hj
        rw [e3 a (B + j) (by omega), gq_uI1, if_pos ⟨rfl, rfl⟩]
      · rw [e2 j (by omega) h3, gq_uI1, if_neg (by omega)]
    · rw [e3 b j (by omega), gq_uI1, if_neg (by omega)]
theorem gq_rowF {a n0 n x y : Nat} (hn : n * x + n ≤ n0 ∧ n * y + n ≤ n0 ∧ n0 ≤ 10000) (hd : n * x + n ≤ n * y ∨ n * y + n ≤ n * x) (hs : n ≤ 3000) (μ : gx_M) : ∃ μ', f_X12_copyRow a n0 (gq_I n) (gq_I x) (gq_I y) μ = some ((), μ') ∧ (∀ j, j < n → μ'.1 a (n * y + j) = μ.1 a (n * x + j)) ∧ (∀ b j, ¬ (b = a ∧ n * y ≤ j ∧ j < n * y + n) → μ'.1 b j = μ.1 b j) ∧ μ'.2 = μ.2 := by
  obtain ⟨μ', e1, e2, e3, e4⟩ := gq_row (a := a) (n0 := n0) (p1 := gq_I n) (p2 := gq_I x) (p3 := gq_I y) (A := n * x) (B := n * y) (n := n) rfl (by rw [gq_mul, Int.natCast_mul]) (by rw [gq_mul, Int.natCast_mul]) hn hd (k := fun μ => some ((), μ)) n 4000 0 μ (by omega) (by omega)
  refine ⟨μ', ?_, fun j hj => e2 j (by omega) hj, fun b j hb => e3 b j (by omega), e4⟩
  unfold f_X12_copyRow
  rw [gq_lit, ← e1]
  rfl
theorem gq_tape {p1 p2 : Int32} {A B : Nat} (hA : gq_I 600 * p1 = gq_I A) (hB : gq_I 600 * p2 = gq_I B) (hn : A + 600 ≤ 2400 ∧ B + 600 ≤ 2400) (hd : A + 600 ≤ B ∨ B + 600 ≤ A) {k : gx_M → Option (Unit × gx_M)} : ∀ (d f i : Nat) (μ : gx_M), d < f → i + d = 600 → (∀ j, j < 600 → fits .byte (.int (μ.1 207 (A + j))) = true) → ∃ μ', L_X12_copyAll_2 p1 p2 k f (gq_I i) μ = k μ' ∧ (∀ j, i ≤ j → j < 600 → μ'.1 207 (B + j) = μ.1 207 (A + j)) ∧ (∀ b j, ¬ (b = 207 ∧ B + i ≤ j ∧ j < B + 600) → μ'.1 b j = μ.1 b j) ∧ μ'.2 = μ.2
  | _, 0, _, _, hf, _, _ => absurd hf (Nat.not_lt_zero _)
  | 0, f + 1, i, μ, hf, hi, hb => by
    refine ⟨μ, ?_, fun j h2 h3 => absurd h3 (by omega), fun _ _ _ => rfl, rfl⟩
    rw [L_X12_copyAll_2.eq_2]
    simp (disch := omega) only [gq_lit, gq_leT, gq_leF, gq_ltT, gq_ltF, gq_eqT, gq_eqF, if_true, if_false]
  | d + 1, f + 1, i, μ, hf, hi, hb => by
    have hv : vp_nar .byte (μ.1 207 (A + i)) = μ.1 207 (A + i) := by
      have h := hb i (by omega)
      rw [vp_nar_byte]
      have h2 : (decide (-128 ≤ μ.1 207 (A + i)) && decide (μ.1 207 (A + i) ≤ 127)) = true := h
      rw [Bool.and_eq_true, decide_eq_true_iff, decide_eq_true_iff, Int32.le_iff_toInt_le, Int32.le_iff_toInt_le] at h2
      have e1 : (-128 : Int32).toInt = -128 := rfl
      have e2 : (127 : Int32).toInt = 127 := rfl
      rw [← Int32.toInt_inj, Int8.toInt_toInt32, Int32.toInt_toInt8, Int.bmod_eq_of_le (by omega) (by omega)]
    obtain ⟨μ', e1, e2, e3, e4⟩ := gq_tape hA hB hn hd (k := k) d f (i + 1) (gx_uI μ 207 (B + i) (μ.1 207 (A + i))) (by omega) (by omega) (fun j hj => by rw [gq_uI1, if_neg (by omega)]; exact hb j hj)
    refine ⟨μ', ?_, fun j h2 h3 => ?_, fun b j hb => ?_, e4⟩
    · rw [L_X12_copyAll_2.eq_2, ← e1, show (600 : Int32) = gq_I 600 from rfl, hA, hB]
      simp (disch := omega) only [Int.reduceToNat, gq_lit, gq_neg, gq_add, gq_sub, gq_mul, gq_nat, Int.toNat_natCast, gq_tadd, gq_tmul, gq_lte, gq_br, gq_bd, gq_ck, gq_leT, gq_leF, gq_ltT, gq_ltF, gq_eqT, gq_eqF, if_true, if_false, hv]
      rfl
    · by_cases hj : j = i
      · subst hj
        rw [e3 207 (B + j) (by omega), gq_uI1, if_pos ⟨rfl, rfl⟩]
      · rw [e2 j (by omega) h3, gq_uI1, if_neg (by omega)]
    · rw [e3 b j (by omega), gq_uI1, if_neg (by omega)]
/-- image x into image y -/
theorem gq_copyM {x y : Nat} {μ : gx_M} {tp : Nat → Int32} {n : Nat} {f p : Int32} {N : Nat → Nat} {W Y G V : Nat → Nat → Int} (hx : x < 4) (hy : y < 4) (hxy : x ≠ y) (ok : gq_okT tp n N W Y G V) (hm : gq_mT μ x tp n f p N W Y G V) : ∃ μ', f_X12_copyAll (gq_I x) (gq_I y) μ = some ((), μ') ∧ gq_mT μ' y tp n f p N W Y G V ∧ (∀ b j, ¬ gq_im y b j → μ'.1 b j = μ.1 b j) ∧ μ'.2 = μ.2 := by
  obtain ⟨m1, m2, m3, m4, m5, m6, m7⟩ := hm
  have n0 := ok.2.2.1 0 (by omega)
  have n1 := ok.2.2.1 1 (by omega)
  have n2 := ok.2.2.1 2 (by omega)
  have n3 := ok.2.2.1 3 (by omega)
  obtain ⟨K, hK⟩ : ∃ K : gx_M → Option (Unit × gx_M), K = (fun (μ9 : gx_M) => gx_bd (f_X12_copyRow 208 4 (gq_I (1 : Nat)) (gq_I x) (gq_I y) μ9) (fun (r10 : Unit) (μ11 : gx_M) => gx_bd (f_X12_copyRow 209 4 (gq_I (1 : Nat)) (gq_I x) (gq_I y) μ11) (fun (r12 : Unit) (μ13 : gx_M) => gx_bd (f_X12_copyRow 210 4 (gq_I (1 : Nat)) (gq_I x) (gq_I y) μ13) (fun (r14 : Unit) (μ15 : gx_M) => gx_bd (f_X12_copyRow 211 16 (gq_I (4 : Nat)) (gq_I x) (gq_I y) μ15) (fun (r16 : Unit) (μ17 : gx_M) => gx_bd (f_X12_copyRow 212 888 (gq_I (222 : Nat)) (gq_I x) (gq_I y) μ17) (fun (r18 : Unit) (μ19 : gx_M) => gx_bd (f_X12_copyRow 213 1288 (gq_I (322 : Nat)) (gq_I x) (gq_I y) μ19) (fun (r20 : Unit) (μ21 : gx_M) => gx_bd (f_X12_copyRow 214 136 (gq_I (34 : Nat)) (gq_I x) (gq_I y) μ21) (fun (r22 : Unit) (μ23 : gx_M) => gx_bd (f_X12_copyRow 215 296 (gq_I (74 : Nat)) (gq_I x) (gq_I y) μ23) (fun (r24 : Unit) (μ25 : gx_M) => some ((), μ25)))))))))) := ⟨_, rfl⟩
  obtain ⟨μ0, a0, b0, x0, t0⟩ := gq_tape (p1 := gq_I x) (p2 := gq_I y) (A := 600 * x) (B := 600 * y) (by rw [gq_mul]; rfl) (by rw [gq_mul]; rfl) (by omega) (by omega) (k := K) 600 4000 0 μ (by omega) (by omega) (fun j hj => by rw [m1 j hj]; exact ok.2.1 j hj)
  obtain ⟨μ1, a1, b1, x1, t1⟩ := gq_rowF (a := 208) (n0 := 4) (n := 1) (x := x) (y := y) (by omega) (by omega) (by omega) μ0
  obtain ⟨μ2, a2, b2, x2, t2⟩ := gq_rowF (a := 209) (n0 := 4) (n := 1) (x := x) (y := y) (by omega) (by omega) (by omega) μ1
  obtain ⟨μ3, a3, b3, x3, t3⟩ := gq_rowF (a := 210) (n0 := 4) (n := 1) (x := x) (y := y) (by omega) (by omega) (by omega) μ2
  obtain ⟨μ4, a4, b4, x4, t4⟩ := gq_rowF (a := 211) (n0 := 16) (n := 4) (x := x) (y := y) (by omega) (by omega) (by omega) μ3
  obtain ⟨μ5, a5, b5, x5, t5⟩ := gq_rowF (a := 212) (n0 := 888) (n := 222) (x := x) (y := y) (by omega) (by omega) (by omega) μ4
  obtain ⟨μ6, a6, b6, x6, t6⟩ := gq_rowF (a := 213) (n0 := 1288) (n := 322) (x := x) (y := y) (by omega) (by omega) (by omega) μ5
  obtain ⟨μ7, a7, b7, x7, t7⟩ := gq_rowF (a := 214) (n0 := 136) (n := 34) (x := x) (y := y) (by omega) (by omega) (by omega) μ6
  obtain ⟨μ8, a8, b8, x8, t8⟩ := gq_rowF (a := 215) (n0 := 296) (n := 74) (x := x) (y := y) (by omega) (by omega) (by omega) μ7
  have z1 : ∀ j, ¬ j = y → (∀ b, b ≠ 208 → μ1.1 b j = μ0.1 b j) := fun j _ b hb => x1 b j (by omega)
  refine ⟨μ8, ?_, ⟨fun k hk => ?_, ⟨?_, ?_, ?_⟩, fun q hq => ?_, fun s hs j hj => ?_, fun s hs j hj => ?_, fun s hs j hj => ?_, fun s hs j hj => ?_⟩, fun b j hb => ?_, ?_⟩
  · unfold f_X12_copyAll
    simp only [gq_lit]
    rw [show (OfNat.ofNat 0 : Int) = ((0 : Nat) : Int) from rfl]
    refine Eq.trans (Eq.trans ?_ a0) ?_
    · rw [hK]; rfl
    · rw [hK]
      simp only [a1, a2, a3, a4, a5, a6, a7, a8, gq_bd]
  · rw [x8 _ _ (by omega), x7 _ _ (by omega), x6 _ _ (by omega), x5 _ _ (by omega), x4 _ _ (by omega), x3 _ _ (by omega), x2 _ _ (by omega), x1 _ _ (by omega), b0 k (by omega) hk]
    exact m1 k hk
  · rw [x8 _ _ (by omega), x7 _ _ (by omega), x6 _ _ (by omega), x5 _ _ (by omega), x4 _ _ (by omega), x3 _ _ (by omega), x2 _ _ (by omega)]
    have := b1 0 (by omega)
    rw [show 1 * y + 0 = y by omega, show 1 * x + 0 = x by omega] at this
    rw [this, x0 _ _ (by omega)]
    exact m2.1
  · rw [x8 _ _ (by omega), x7 _ _ (by omega), x6 _ _ (by omega), x5 _ _ (by omega), x4 _ _ (by omega), x3 _ _ (by omega)]
    have := b2 0 (by omega)
    rw [show 1 * y + 0 = y by omega, show 1 * x + 0 = x by omega] at this
    rw [this, x1 _ _ (by omega), x0 _ _ (by omega)]
    exact m2.2.1
  · rw [x8 _ _ (by omega), x7 _ _ (by omega), x6 _ _ (by omega), x5 _ _ (by omega), x4 _ _ (by omega)]
    have := b3 0 (by omega)
    rw [show 1 * y + 0 = y by omega, show 1 * x + 0 = x by omega] at this
    rw [this, x2 _ _ (by omega), x1 _ _ (by omega), x0 _ _ (by omega)]
    exact m2.2.2
  · rw [x8 _ _ (by omega), x7 _ _ (by omega), x6 _ _ (by omega), x5 _ _ (by omega), b4 q hq, x3 _ _ (by omega), x2 _ _ (by omega), x1 _ _ (by omega), x0 _ _ (by omega)]
    exact m3 q hq
  · have := b5 (111 * s + j) (by omega)
    rw [x8 _ _ (by omega), x7 _ _ (by omega), x6 _ _ (by omega), show 111 * (2 * y + s) + j = 222 * y + (111 * s + j) by omega, this, x4 _ _ (by omega), x3 _ _ (by omega), x2 _ _ (by omega), x1 _ _ (by omega), x0 _ _ (by omega), show 222 * x + (111 * s + j) = 111 * (2 * x + s) + j by omega]
    exact m4 s hs j hj
  · have := b6 (161 * s + j) (by omega)
    rw [x8 _ _ (by omega), x7 _ _ (by omega), show 161 * (2 * y + s) + j = 322 * y + (161 * s + j) by omega, this, x5 _ _ (by omega), x4 _ _ (by omega), x3 _ _ (by omega), x2 _ _ (by omega), x1 _ _ (by omega), x0 _ _ (by omega), show 322 * x + (161 * s + j) = 161 * (2 * x + s) + j by omega]
    exact m5 s hs j hj
  · have := b7 (17 * s + j) (by omega)
    rw [x8 _ _ (by omega), show 17 * (2 * y + s) + j = 34 * y + (17 * s + j) by omega, this, x6 _ _ (by omega), x5 _ _ (by omega), x4 _ _ (by omega), x3 _ _ (by omega), x2 _ _ (by omega), x1 _ _ (by omega), x0 _ _ (by omega), show 34 * x + (17 * s + j) = 17 * (2 * x + s) + j by omega]
    exact m6 s hs j hj
  · have := b8 (37 * s + j) (by omega)
    rw [show 37 * (2 * y + s) + j = 74 * y + (37 * s + j) by omega, this, x7 _ _ (by omega), x6 _ _ (by omega), x5 _ _ (by omega), x4 _ _ (by omega), x3 _ _ (by omega), x2 _ _ (by omega), x1 _ _ (by omega), x0 _ _ (by omega), show 74 * x + (37 * s + j) = 37 * (2 * x + s) + j by omega]
    exact m7 s hs j hj
  · unfold gq_im at hb
    rw [x8 _ _ (by omega), x7 _ _ (by omega), x6 _ _ (by omega), x5 _ _ (by omega), x4 _ _ (by omega), x3 _ _ (by omega), x2 _ _ (by omega), x1 _ _ (by omega), x0 _ _ (by omega)]
  · rw [t8, t7, t6, t5, t4, t3, t2, t1, t0]
