/-! plan, left, missed -/
theorem ga_full : ∀ T, T < 7 → ∀ d, d < 2 ^ T → ∀ c, c < 6 → ga_h d c = true → ga_h (2 ^ T - 1) c = true := by decide +kernel
theorem gb_bits : ∀ x : Nat, x < 64 → f_J6_bitCount_0f7a4 (gq_I x) = gq_I (gm_cnt (ga_h x) 6 : Nat) ∧ gm_cnt (ga_h x) 6 ≤ 6 := by decide +kernel
theorem gb_onesL {x : Nat} (hx : x < 64) {k : Int32 → Option Int32} : ∀ (d f i : Nat), d < f → i + d = 6 → L_X12_ones_4 (gq_I x) k f (gq_I (gm_cnt (ga_h x) i : Nat)) (gq_I i) = k (gq_I (gm_cnt (ga_h x) 6 : Nat))
  | _, 0, _, hf, _ => absurd hf (Nat.not_lt_zero _)
  | 0, f + 1, i, hf, hi => by
    rw [L_X12_ones_4.eq_2, show i = 6 by omega]
    simp (disch := omega) only [gq_lit, Bool.false_eq_true, gq_leT, gq_leF, gq_ltT, gq_ltF, gq_eqT, gq_eqF, if_true, if_false]
  | d + 1, f + 1, i, hf, hi => by
    have eh := ga_hasX (x := x) (b := i) hx (by omega)
    rw [← gb_onesL hx (k := k) d f (i + 1) (by omega) (by omega), L_X12_ones_4.eq_2]
    cases h : ga_h x i with
    | true =>
      rw [gl_cntT (φ := ga_h x) h]
      rw [h] at eh
      simp (disch := omega) only [Int.reduceToNat, gq_lit, gq_neg, gq_add, gq_sub, gq_mul, gq_nat, Int.toNat_natCast, gq_tadd, gq_tmul, gq_lte, gq_br, gq_bd, gq_ck, Bool.false_eq_true, gq_leT, gq_leF, gq_ltT, gq_ltF, gq_eqT, gq_eqF, if_true, if_false, eh, gq_biT]
      rfl
    | false =>
      rw [gl_cntF (φ := ga_h x) h]
      rw [h] at eh
      simp (disch := omega) only [Int.reduceToNat, gq_lit, gq_neg, gq_add, gq_sub, gq_mul, gq_nat, Int.toNat_natCast, gq_tadd, gq_tmul, gq_lte, gq_br, gq_bd, gq_ck, Bool.false_eq_true, gq_leT, gq_leF, gq_ltT, gq_ltF, gq_eqT, gq_eqF, if_true, if_false, eh, gq_biF, Int.add_zero]
      rfl
theorem gb_ones {x : Nat} (hx : x < 64) (ν : gx_M) : f_X12_ones (gq_I x) ν = some (gq_I (gm_cnt (ga_h x) 6 : Nat)) := by
  have := gb_onesL hx (k := fun (x1_10 : Int32) => some x1_10) 6 4000 0 (by omega) (by omega)
  unfold f_X12_ones
  simp only [gq_lit]
  exact this
/-- the worth of a set -/
abbrev gb_w (w : Nat → Int) (x : Nat) (n : Nat) : Int := ga_sum (ga_h x) (fun b => w (25 + b)) n
theorem gb_w_b {w : Nat → Int} {x T n : Nat} (ok : gq_okS w) (hT2 : w 2 = T) (hn : n ≤ T) : 0 ≤ gb_w w x n ∧ gb_w w x n ≤ n * 99 :=
  ga_sum_b (by omega) fun c hc _ => (ok.2.2.2.2.1 c (by omega)).2.2
theorem gb_wcL {μ : gx_M} {a x T : Nat} {w : Nat → Int} (ok : gq_okS w) (hT2 : w 2 = T) (hc : gq_cS μ a w) (hx : x < 64) {k : Int32 → Option Int32} : ∀ (d f i : Nat), d < f → i + d = T → L_X5_worthOfSet_4 μ a (gq_I x) k f (gq_I (gb_w w x i)) (gq_I i) = k (gq_I (gb_w w x T))
  | _, 0, _, hf, _ => absurd hf (Nat.not_lt_zero _)
  | 0, f + 1, i, hf, hi => by
    have o2 := ok.2.2.1
    rw [L_X5_worthOfSet_4.eq_2, hc.1.2.2, show i = T by omega, hT2]
    simp (disch := omega) only [gq_lit, Bool.false_eq_true, gq_leT, gq_leF, gq_ltT, gq_ltF, gq_eqT, gq_eqF, if_true, if_false]
  | d + 1, f + 1, i, hf, hi => by
    have o2 := ok.2.2.1
    have eh := ga_hasI x hx i (by omega)
    have e := (hc.2.2.2.2 i (by omega)).2.2.2
    rw [← gb_wcL ok hT2 hc hx (k := k) d f (i + 1) (by omega) (by omega), L_X5_worthOfSet_4.eq_2, hc.1.2.2, hT2]
    have es : gb_w w x (i + 1) = gb_w w x i + (if ga_h x i = true then w (25 + i) else 0) := rfl
    rw [es]
    by_cases g : ga_h x i = true
    · rw [if_pos g]
      simp (disch := omega) only [Int.reduceToNat, gq_lit, gq_neg, gq_add, gq_sub, gq_mul, gq_nat, Int.toNat_natCast, gq_tadd, gq_tmul, gq_lte, gq_br, gq_bd, gq_ck, Bool.false_eq_true, gq_leT, gq_leF, gq_ltT, gq_ltF, gq_eqT, gq_eqF, if_true, if_false, e]
      rw [if_pos (eh.mpr g)]
      rfl
    · rw [if_neg g, Int.add_zero]
      simp (disch := omega) only [Int.reduceToNat, gq_lit, gq_neg, gq_add, gq_sub, gq_mul, gq_nat, Int.toNat_natCast, gq_tadd, gq_tmul, gq_lte, gq_br, gq_bd, gq_ck, Bool.false_eq_true, gq_leT, gq_leF, gq_ltT, gq_ltF, gq_eqT, gq_eqF, if_true, if_false, e]
      rw [if_neg fun c => g (eh.mp c)]
      rfl
theorem gb_wmL {ν : gx_M} {s x T : Nat} {w : Nat → Int} (ok : gq_okS w) (hs : s < 8) (hT2 : w 2 = T) (hl : gq_lay ν s w) (hx : x < 64) {k : Int32 → Option Int32} : ∀ (d f i : Nat), d < f → i + d = T → L_X12_worthOf_4 ν (gq_I x) k f (gq_I (gb_w w x i)) (gq_I i) = k (gq_I (gb_w w x T))
  | _, 0, _, hf, _ => absurd hf (Nat.not_lt_zero _)
  | 0, f + 1, i, hf, hi => by
    have o2 := ok.2.2.1
    rw [L_X12_worthOf_4.eq_2, hl.1.2.2.2, show i = T by omega, hT2]
    simp (disch := omega) only [gq_lit, Bool.false_eq_true, gq_leT, gq_leF, gq_ltT, gq_ltF, gq_eqT, gq_eqF, if_true, if_false]
  | d + 1, f + 1, i, hf, hi => by
    have o2 := ok.2.2.1
    have eh := ga_hasX (x := x) (b := i) hx (by omega)
    have e := gq_xof hl.1.1 hs hl.2 (z := 25 + i) (by omega)
    rw [show ((25 : Int) + i).toNat = 25 + i by omega] at e
    rw [← gb_wmL ok hs hT2 hl hx (k := k) d f (i + 1) (by omega) (by omega), L_X12_worthOf_4.eq_2, hl.1.2.2.2, hT2]
    have es : gb_w w x (i + 1) = gb_w w x i + (if ga_h x i = true then w (25 + i) else 0) := rfl
    rw [es]
    by_cases g : ga_h x i = true
    · rw [if_pos g]
      rw [g] at eh
      simp (disch := omega) only [Int.reduceToNat, gq_lit, gq_neg, gq_add, gq_sub, gq_mul, gq_nat, Int.toNat_natCast, gq_tadd, gq_tmul, gq_lte, gq_br, gq_bd, gq_ck, Bool.false_eq_true, gq_leT, gq_leF, gq_ltT, gq_ltF, gq_eqT, gq_eqF, if_true, if_false, eh, e]
      rfl
    · rw [if_neg g]
      have g' : ga_h x i = false := by
        cases h : ga_h x i
        · rfl
        · exact absurd h g
      rw [g'] at eh
      simp (disch := omega) only [Int.reduceToNat, gq_lit, gq_neg, gq_add, gq_sub, gq_mul, gq_nat, Int.toNat_natCast, gq_tadd, gq_tmul, gq_lte, gq_br, gq_bd, gq_ck, Bool.false_eq_true, gq_leT, gq_leF, gq_ltT, gq_ltF, gq_eqT, gq_eqF, if_true, if_false, eh]
      rfl
theorem gb_wc {μ : gx_M} {a x T : Nat} {w : Nat → Int} (ok : gq_okS w) (hT2 : w 2 = T) (hc : gq_cS μ a w) (hx : x < 64) : f_X5_worthOfSet a (gq_I x) μ = some (gq_I (gb_w w x T)) := by
  have o2 := ok.2.2.1
  have := gb_wcL ok hT2 hc hx (k := fun (x2_11 : Int32) => some x2_11) T 4000 0 (by omega) (by omega)
  unfold f_X5_worthOfSet
  simp only [gq_lit]
  exact this
theorem gb_wm {ν : gx_M} {s x T : Nat} {w : Nat → Int} (ok : gq_okS w) (hs : s < 8) (hT2 : w 2 = T) (hl : gq_lay ν s w) (hx : x < 64) : f_X12_worthOf (gq_I x) ν = some (gq_I (gb_w w x T)) := by
  have o2 := ok.2.2.1
  have := gb_wmL ok hs hT2 hl hx (k := fun (x2_11 : Int32) => some x2_11) T 4000 0 (by omega) (by omega)
  unfold f_X12_worthOf
  simp only [gq_lit]
  exact this
/-- the class weighs a choice -/
def gb_up (p1 p2 : Int32) (j : Bool) (μ : gx_M) : Option (Unit × gx_M) := if (μ.1 75 4) < p2 then some ((), gx_uI (gx_uI μ 75 3 p1) 75 4 p2) else if p2 = (μ.1 75 4) then if j = true then some ((), gx_uI (gx_uI μ 75 3 p1) 75 4 p2) else some ((), μ) else some ((), μ)
theorem gb_wch (p1 p2 : Int32) (μ : gx_M) : f_X0_weighChoice p1 p2 μ = if (f_J6_bitCount_0f7a4 (μ.1 75 3)) ≤ (f_J6_bitCount_0f7a4 p1) then gb_up p1 p2 false μ else gb_up p1 p2 true μ := rfl
theorem gb_weigh {μ : gx_M} {x P : Nat} {G v : Int} (hx : x < 64) (hP : P < 64) (hG : 0 ≤ G ∧ G ≤ 594) (hv : -1000 ≤ v ∧ v ≤ 594) (h3 : μ.1 75 3 = gq_I P) (h4 : μ.1 75 4 = gq_I G) : ∃ μ', f_X0_weighChoice (gq_I x) (gq_I v) μ = some ((), μ') ∧ μ'.1 75 3 = gq_I (if G < v ∨ (v = G ∧ gm_cnt (ga_h x) 6 < gm_cnt (ga_h P) 6) then x else P : Nat) ∧ μ'.1 75 4 = gq_I (if G < v then v else G) ∧ (∀ y j, y ≠ 75 → μ'.1 y j = μ.1 y j) ∧ μ'.2 = μ.2 := by
  obtain ⟨b1, b2⟩ := gb_bits x hx
  obtain ⟨b3, b4⟩ := gb_bits P hP
  have upd : ∀ μ0 : gx_M, μ0 = gx_uI (gx_uI μ 75 3 (gq_I x)) 75 4 (gq_I v) → μ0.1 75 3 = gq_I x ∧ μ0.1 75 4 = gq_I v ∧ (∀ y j, y ≠ 75 → μ0.1 y j = μ.1 y j) ∧ μ0.2 = μ.2 := fun μ0 h => by
    subst h
    refine ⟨rfl, rfl, fun y j hy => ?_, rfl⟩
    rw [gq_uI1, if_neg fun c => hy c.1, gq_uI1, if_neg fun c => hy c.1]
  by_cases g1 : G < v
  · obtain ⟨c1, c2, c3, c4⟩ := upd _ rfl
    refine ⟨_, ?_, ?_, ?_, c3, c4⟩
    · rw [gb_wch, h3, b1, b3]
      unfold gb_up
      rw [h4, if_pos (c := gq_I G < gq_I v) (by rw [gq_lt (by omega)]; exact g1), if_pos (c := gq_I G < gq_I v) (by rw [gq_lt (by omega)]; exact g1)]
      split <;> rfl
    · rw [if_pos (Or.inl g1)]; exact c1
    · rw [if_pos g1]; exact c2
  · by_cases g3 : v = G ∧ gm_cnt (ga_h x) 6 < gm_cnt (ga_h P) 6
    · obtain ⟨c1, c2, c3, c4⟩ := upd _ rfl
      refine ⟨_, ?_, ?_, ?_, c3, c4⟩
      · rw [gb_wch, h3, b1, b3, if_neg (by rw [gq_le (by omega)]; omega)]
        unfold gb_up
        rw [h4, if_neg (by rw [gq_lt (by omega)]; exact g1), if_pos (by rw [g3.1]), if_pos rfl]
      · rw [if_pos (Or.inr g3)]; exact c1
      · rw [if_neg g1, c2, g3.1]
    · refine ⟨μ, ?_, ?_, ?_, fun _ _ _ => rfl, rfl⟩
      · rw [gb_wch, h3, b1, b3]
        by_cases g2 : gm_cnt (ga_h P) 6 ≤ gm_cnt (ga_h x) 6
        · rw [if_pos (by rw [gq_le (by omega)]; omega)]
          unfold gb_up
          rw [h4, if_neg (by rw [gq_lt (by omega)]; exact g1)]
          by_cases g4 : v = G
          · rw [if_pos (by rw [g4]), if_neg (by decide)]
          · rw [if_neg (by rw [gq_eq (by omega)]; exact g4)]
        · rw [if_neg (by rw [gq_le (by omega)]; omega)]
          unfold gb_up
          rw [h4, if_neg (by rw [gq_lt (by omega)]; exact g1), if_neg (by rw [gq_eq (by omega)]; omega)]
      · rw [if_neg fun c => c.elim g1 g3]; exact h3
      · rw [if_neg g1]; exact h4
/-- the check's step -/
def gb_s2 (next : Int32 → gx_M → Option (Int32 × gx_M)) (v2_4 v3_5 j0_14 : Int32) (j0_26 : Bool) (μ27 : gx_M) : Option (Int32 × gx_M) := gx_lt (fun (j0_30 : Int32) (μ31 : gx_M) => gx_lt (gx_uI μ31 206 41 j0_30) (fun (μ32 : gx_M) => gx_lt (f_X12_greater v2_4 j0_14) (fun (x33 : Int32) => next x33 μ32))) (fun J28 => if j0_26 = true then J28 v3_5 μ27 else J28 (μ27.1 206 41) μ27)
def gb_s1 (next : Int32 → gx_M → Option (Int32 × gx_M)) (v2_4 v3_5 j0_14 : Int32) (μ15 : gx_M) : Option (Int32 × gx_M) := gx_lt (fun (μ25 : gx_M) => gb_s2 next v2_4 v3_5 j0_14 true μ25) (fun J17 => if v2_4 < j0_14 then J17 μ15 else gx_lt (fun (μ24 : gx_M) => gb_s2 next v2_4 v3_5 j0_14 false μ24) (fun J19 => if j0_14 = v2_4 then gx_br (f_X12_ones v3_5 μ15) (fun (r21 : Int32) => gx_br (f_X12_ones (μ15.1 206 41) μ15) (fun (r22 : Int32) => if r22 ≤ r21 then J19 μ15 else J17 μ15)) else J19 μ15))
theorem gb_s0 (p1 : Int32) (k7 : Int32 → gx_M → Option (Int32 × gx_M)) (n : Nat) (v2_4 v3_5 : Int32) (μ6 : gx_M) : L_X12_planOf_14 p1 k7 (n + 1) v2_4 v3_5 μ6 = if ((1 : Int32) <<< ((μ6.1 206 27) &&& 31)) ≤ v3_5 then k7 v2_4 μ6 else gx_ck (gx_ix v3_5 2624 = true) (gx_br (f_X12_of ((3 : Int32) + p1) μ6) (fun (r10 : Int32) => if r10 < (μ6.1 226 v3_5.toNatClampNeg) then gb_s1 (fun x m => L_X12_planOf_14 p1 k7 n x (v3_5 + 1) m) v2_4 v3_5 (-1) μ6 else gx_br (f_X12_worthOf v3_5 μ6) (fun (r13 : Int32) => gb_s1 (fun x m => L_X12_planOf_14 p1 k7 n x (v3_5 + 1) m) v2_4 v3_5 (r13 - (μ6.1 226 v3_5.toNatClampNeg)) μ6))) := rfl
theorem gb_s2e (next : Int32 → gx_M → Option (Int32 × gx_M)) {G v : Int} {x P : Nat} {t : Bool} {ν : gx_M} (hG : 0 ≤ G ∧ G ≤ 594) (hv : -1000 ≤ v ∧ v ≤ 594) (hP : ν.1 206 41 = gq_I P) : gb_s2 next (gq_I G) (gq_I x) (gq_I v) t ν = next (gq_I (if G < v then v else G)) (gx_uI ν 206 41 (gq_I (if t = true then x else P : Nat))) := by
  unfold gb_s2
  have e : (if G ≤ v then v else G) = (if G < v then v else G) := by split <;> split <;> omega
  cases t with
  | true =>
    simp only [gq_lte, if_true]
    rw [gp_gr (by omega), e]
  | false =>
    simp only [gq_lte, Bool.false_eq_true, if_false]
    rw [gp_gr (by omega), e, hP]
theorem gb_s1e (next : Int32 → gx_M → Option (Int32 × gx_M)) {G v : Int} {x P : Nat} {ν : gx_M} (hx : x < 64) (hP64 : P < 64) (hG : 0 ≤ G ∧ G ≤ 594) (hv : -1000 ≤ v ∧ v ≤ 594) (hP : ν.1 206 41 = gq_I P) : gb_s1 next (gq_I G) (gq_I x) (gq_I v) ν = next (gq_I (if G < v then v else G)) (gx_uI ν 206 41 (gq_I (if G < v ∨ (v = G ∧ gm_cnt (ga_h x) 6 < gm_cnt (ga_h P) 6) then x else P : Nat))) := by
  have b2 := (gb_bits x hx).2
  have b4 := (gb_bits P hP64).2
  have o1 := gb_ones hx ν
  have o2 := gb_ones hP64 ν
  unfold gb_s1
  rw [gq_lte]
  by_cases g1 : G < v
  · rw [if_pos (by rw [gq_lt (by omega)]; exact g1)]
    refine (gb_s2e next hG hv hP).trans ?_
    rw [if_pos (c := G < v ∨ _) (Or.inl g1), if_pos (c := true = true) rfl]
  · rw [if_neg (by rw [gq_lt (by omega)]; exact g1), gq_lte]
    by_cases g4 : v = G
    · rw [if_pos (by rw [g4]), o1, gq_br, hP, o2, gq_br]
      by_cases g2 : gm_cnt (ga_h P) 6 ≤ gm_cnt (ga_h x) 6
      · rw [if_pos (by rw [gq_le (by omega)]; omega)]
        refine (gb_s2e next hG hv hP).trans ?_
        rw [if_neg (c := G < v ∨ _) (fun c => c.elim g1 fun c => absurd c.2 (by omega)), if_neg (c := false = true) (by decide)]
      · rw [if_neg (by rw [gq_le (by omega)]; omega)]
        refine (gb_s2e next hG hv hP).trans ?_
        rw [if_pos (c := G < v ∨ _) (Or.inr ⟨g4, by omega⟩), if_pos (c := true = true) rfl]
    · rw [if_neg (by rw [gq_eq (by omega)]; exact g4)]
      refine (gb_s2e next hG hv hP).trans ?_
      rw [if_neg (c := G < v ∨ _) (fun c => c.elim g1 fun c => g4 c.1), if_neg (c := false = true) (by decide)]
/-- both choose alike -/
theorem gb_chL {s a T L : Nat} {w O B : Nat → Int} {p g : Int} {φ : Nat → Nat → Bool} {c : Nat → Nat → Int} {t : Nat → Int} {u : Nat → Nat → Int} (ok : gq_okS w) (hs : s < 8) (hT2 : w 2 = T) (hL : w 0 = L) (hp : 0 ≤ p ∧ p < w 1) (hcx : gd_ctx w φ c) (ht0 : ∀ j, j < 2624 → 0 ≤ t j ∧ t j ≤ 1152921504606846976) (ht1 : ∀ d, d < 2 ^ T → ga_min φ (ga_l w) (ga_W φ c) d 0 L 1152921504606846976 (t (L * 64 + d))) {k : gx_M → Option (Unit × gx_M)} {k2 : Int32 → gx_M → Option (Int32 × gx_M)} (ha : a < 50) : ∀ (d f i P : Nat) (G : Int) (μ ν : gx_M), d < f → i + d = 2 ^ T → 1 ≤ i → P < 64 → (0 ≤ G ∧ G ≤ 594) → gq_cS μ a w → gc_tab μ 77 t → gc_K ν s w O B g → (∀ y, y < 2 ^ T → gd_at ν w φ c L u 0 y) → μ.1 75 3 = gq_I P → μ.1 75 4 = gq_I G → ν.1 206 41 = gq_I P → ∃ (P' : Nat) (G' : Int) (μ' ν' : gx_M), L_X0_choose_31 a (gq_I p) k f (gq_I i) μ = k μ' ∧ L_X12_planOf_14 (gq_I p) k2 f (gq_I G) (gq_I i) ν = k2 (gq_I G') ν' ∧ (0 ≤ G' ∧ G' ≤ 594) ∧ μ'.1 75 3 = gq_I P' ∧ μ'.1 75 4 = gq_I G' ∧ ν'.1 206 41 = gq_I P' ∧ (∀ y j, y ≠ 75 → μ'.1 y j = μ.1 y j) ∧ μ'.2 = μ.2 ∧ (∀ y j, ¬ (y = 206 ∧ j = 41) → ν'.1 y j = ν.1 y j) ∧ ν'.2 = ν.2
  | _, 0, _, _, _, _, _, hf, _, _, _, _, _, _, _, _, _, _, _ => absurd hf (Nat.not_lt_zero _)
  | 0, f + 1, i, P, G, μ, ν, hf, hi, hi1, hP, hG, hc, ht, hK, hu, h3, h4, h5 => by
    have o2 := ok.2.2.1
    have p2 := ga_2T T (by omega)
    refine ⟨P, G, μ, ν, ?_, ?_, hG, h3, h4, h5, fun _ _ _ => rfl, rfl, fun _ _ _ => rfl, rfl⟩
    · rw [L_X0_choose_31.eq_2, gc_subs ok hc hT2]
      exact if_pos (by rw [gq_le (by omega)]; omega)
    · rw [gb_s0, hK.1.1.2.2.2, hT2]
      simp only [gq_lit]
      rw [ga_subI T (by omega)]
      exact if_pos (by rw [gq_le (by omega)]; omega)
  | d + 1, f + 1, i, P, G, μ, ν, hf, hi, hi1, hP, hG, hc, ht, hK, hu, h3, h4, h5 => by
    have o0 := ok.1
    have o1 := ok.2.1
    have o2 := ok.2.2.1
    have p2 := ga_2T T (by omega)
    obtain ⟨n, hn⟩ : ∃ n : Nat, p = n := ⟨p.toNat, by omega⟩
    obtain ⟨C, hC⟩ : ∃ C, C = u 0 i := ⟨_, rfl⟩
    obtain ⟨u1, u2, u3⟩ := hu i (by omega)
    rw [← hC] at u1 u2 u3
    rw [show 64 * 0 + i = i by omega] at u1
    have hco := ok.2.2.2.1 n (by omega)
    have ec := gb_cost (C := C) ok hL hc hcx ht (x := i) (by omega) (ht0 _ (by omega)) u2 (ht1 i (by omega)) u3
    have eo := gq_xof hK.1.1.1 hs hK.1.2 (z := 3 + n) (by omega)
    rw [show ((3 : Int) + n).toNat = 3 + n by omega] at eo
    have eco := hc.2.1 n (by omega)
    have ewc := gb_wc (x := i) ok hT2 hc (by omega)
    have ewm := gb_wm (x := i) ok hs hT2 hK.1 (by omega)
    have wb := gb_w_b (x := i) (n := T) ok hT2 (Nat.le_refl _)
    have msub : ∀ (v : Int), (-1000 ≤ v ∧ v ≤ 594) → L_X12_planOf_14 (gq_I p) k2 (f + 1) (gq_I G) (gq_I i) ν = gb_s1 (fun x m => L_X12_planOf_14 (gq_I p) k2 f x (gq_I i + 1) m) (gq_I G) (gq_I i) (gq_I v) ν → ∀ μ1, (μ1.1 75 3 = gq_I (if G < v ∨ (v = G ∧ gm_cnt (ga_h i) 6 < gm_cnt (ga_h P) 6) then i else P : Nat)) → μ1.1 75 4 = gq_I (if G < v then v else G) → (∀ y j, y ≠ 75 → μ1.1 y j = μ.1 y j) → μ1.2 = μ.2 → L_X0_choose_31 a (gq_I p) k (f + 1) (gq_I i) μ = L_X0_choose_31 a (gq_I p) k f (gq_I (i + 1 : Nat)) μ1 → ∃ (P' : Nat) (G' : Int) (μ' ν' : gx_M), L_X0_choose_31 a (gq_I p) k (f + 1) (gq_I i) μ = k μ' ∧ L_X12_planOf_14 (gq_I p) k2 (f + 1) (gq_I G) (gq_I i) ν = k2 (gq_I G') ν' ∧ (0 ≤ G' ∧ G' ≤ 594) ∧ μ'.1 75 3 = gq_I P' ∧ μ'.1 75 4 = gq_I G' ∧ ν'.1 206 41 = gq_I P' ∧ (∀ y j, y ≠ 75 → μ'.1 y j = μ.1 y j) ∧ μ'.2 = μ.2 ∧ (∀ y j, ¬ (y = 206 ∧ j = 41) → ν'.1 y j = ν.1 y j) ∧ ν'.2 = ν.2 := fun v hv em μ1 m3 m4 m5 m6 ecl => by
      rw [gb_s1e _ (by omega) hP hG hv h5, gq_suc] at em
      obtain ⟨Q, hQ⟩ : ∃ Q : Nat, Q = if G < v ∨ (v = G ∧ gm_cnt (ga_h i) 6 < gm_cnt (ga_h P) 6) then i else P := ⟨_, rfl⟩
      rw [← hQ] at em m3
      obtain ⟨H, hH⟩ : ∃ H : Int, H = if G < v then v else G := ⟨_, rfl⟩
      rw [← hH] at em m4
      obtain ⟨P', G', μ', ν', e1, e2, e3, e4, e5, e6, e7, e8, e9, e10⟩ := gb_chL ok hs hT2 hL hp hcx ht0 ht1 (k := k) (k2 := k2) ha d f (i + 1) Q H μ1 (gx_uI ν 206 41 (gq_I Q)) (by omega) (by omega) (by omega) (by rw [hQ]; split <;> omega) (by rw [hH]; split <;> omega) (gq_cS_sm hc fun j hj => funext fun j2 => m5 _ _ (by omega)) (fun j hj => by rw [m6]; exact ht j hj) ⟨⟨⟨hK.1.1.1, hK.1.1.2.1, hK.1.1.2.2.1, hK.1.1.2.2.2⟩, gq_mS_w hK.1.2 rfl⟩, hK.2.1, hK.2.2.1, hK.2.2.2⟩ (fun y hy => hu y hy) m3 m4 rfl
      refine ⟨P', G', μ', ν', ecl.trans e1, em.trans e2, e3, e4, e5, e6, fun y j hy => (e7 y j hy).trans (m5 y j hy), e8.trans m6, fun y j hy => ?_, e10⟩
      rw [e9 y j hy, gq_uI1, if_neg hy]
    -- the class's step
    by_cases g1 : C < 1000000
    · have en : gb_n C = C := if_pos g1
      rw [en] at ec
      by_cases g2 : w (3 + n) < C
      · refine msub (-1) (by omega) ?_ μ ?_ ?_ (fun _ _ _ => rfl) rfl ?_
        · rw [gb_s0, hK.1.1.2.2.2, hT2, hn]
          simp only [gq_lit, gq_neg]
          rw [ga_subI T (by omega), if_neg (by rw [gq_le (by omega)]; omega), gq_add, eo, gq_ck (by omega), gq_br, gq_nat (by omega), Int.toNat_natCast, u1, if_pos (by rw [gq_lt (by omega)]; exact g2)]
        · rw [if_neg (by omega)]; exact h3
        · rw [if_neg (by omega)]; exact h4
        · rw [L_X0_choose_31.eq_2, gc_subs ok hc hT2, hn]
          simp (disch := omega) only [Int.reduceToNat, gq_lit, gq_neg, gq_add, gq_sub, gq_mul, gq_nat, Int.toNat_natCast, gq_tadd, gq_tmul, gq_lte, gq_br, gq_bd, gq_ck, Bool.false_eq_true, gq_leT, gq_leF, gq_ltT, gq_ltF, gq_eqT, gq_eqF, if_true, if_false, ec, eco]
          rfl
      · have cb : -1000 ≤ gb_w w i T - C ∧ gb_w w i T - C ≤ 594 := by omega
        obtain ⟨μ1, m1, m3, m4, m5, m6⟩ := gb_weigh (μ := μ) (x := i) (P := P) (G := G) (v := gb_w w i T - C) (by omega) hP hG cb h3 h4
        refine msub (gb_w w i T - C) cb ?_ μ1 m3 m4 m5 m6 ?_
        · rw [gb_s0, hK.1.1.2.2.2, hT2, hn]
          simp only [gq_lit, gq_neg]
          rw [ga_subI T (by omega), if_neg (by rw [gq_le (by omega)]; omega), gq_add, eo, gq_ck (by omega), gq_br, gq_nat (by omega), Int.toNat_natCast, u1, if_neg (by rw [gq_lt (by omega)]; exact g2), ewm, gq_br, gq_sub]
        · rw [L_X0_choose_31.eq_2, gc_subs ok hc hT2, hn]
          simp (disch := omega) only [Int.reduceToNat, gq_lit, gq_neg, gq_add, gq_sub, gq_mul, gq_nat, Int.toNat_natCast, gq_tadd, gq_tmul, gq_lte, gq_br, gq_bd, gq_ck, Bool.false_eq_true, gq_leT, gq_leF, gq_ltT, gq_ltF, gq_eqT, gq_eqF, if_true, if_false, ec, eco, ewc, gq_sub, m1]
          rfl
    · have en : gb_n C = -1 := if_neg g1
      rw [en] at ec
      refine msub (-1) (by omega) ?_ μ ?_ ?_ (fun _ _ _ => rfl) rfl ?_
      · rw [gb_s0, hK.1.1.2.2.2, hT2, hn]
        simp only [gq_lit, gq_neg]
        rw [ga_subI T (by omega), if_neg (by rw [gq_le (by omega)]; omega), gq_add, eo, gq_ck (by omega), gq_br, gq_nat (by omega), Int.toNat_natCast, u1, if_pos (by rw [gq_lt (by omega)]; omega)]
      · rw [if_neg (by omega)]; exact h3
      · rw [if_neg (by omega)]; exact h4
      · rw [L_X0_choose_31.eq_2, gc_subs ok hc hT2, hn]
        simp (disch := omega) only [Int.reduceToNat, gq_lit, gq_neg, gq_add, gq_sub, gq_mul, gq_nat, Int.toNat_natCast, gq_tadd, gq_tmul, gq_lte, gq_br, gq_bd, gq_ck, Bool.false_eq_true, gq_leT, gq_leF, gq_ltT, gq_ltF, gq_eqT, gq_eqF, if_true, if_false, ec]
        rfl
theorem gb_choose {μ ν : gx_M} {s a T L : Nat} {w : Nat → Int} {p g : Int} {y : Int64} {φ : Nat → Nat → Bool} (ok : gq_okS w) (hs : s < 8) (ha : a < 50) (hT2 : w 2 = T) (hL : w 0 = L) (hp : 0 ≤ p ∧ p < w 1) (hg : -1 ≤ g ∧ g ≤ 39) (hφ : gc_al w (fun _ => -1) g φ) (hy : ∀ b : Nat, (b : Int) < w 2 → ∀ m, m < 40 → (φ b m = true ↔ gk_in w y b m)) (hc : gq_cS μ a w) (hK : gc_K ν s w (gk_O w) (fun _ => -1) g) : ∃ (P : Nat) (G : Int) (μ' ν' : gx_M), f_X0_choose a (gq_I p) y μ = some ((), μ') ∧ f_X12_planOf (gq_I p) ν = some (gq_I G, ν') ∧ (0 ≤ G ∧ G ≤ 594) ∧ μ'.1 75 3 = gq_I P ∧ μ'.1 75 4 = gq_I G ∧ ν'.1 206 41 = gq_I P ∧ (∀ y j, y ≠ 75 → μ'.1 y j = μ.1 y j) ∧ (∀ y, y ≠ 76 → y ≠ 77 → μ'.2 y = μ.2 y) ∧ (∀ y j, y ≠ 226 → y ≠ 227 → ¬ (y = 206 ∧ j = 41) → ν'.1 y j = ν.1 y j) ∧ ν'.2 = ν.2 := by
  have o1 := ok.2.1
  have o2 := ok.2.2.1
  have p2 := ga_2T T (by omega)
  have okK : gc_okK (gk_O w) (fun _ => -1) g := ⟨(gc_okK_hd ok).1, (gc_okK_hd ok).2.1, hg⟩
  obtain ⟨μ1, μ2, t, a1, a2, a3, a4, a5, a6, a7, a8, a9⟩ := gb_cls (x := 2 ^ T - 1) ok hT2 hL hc (p := p) (by omega) hφ hy (by omega)
  obtain ⟨ν1, u, b1, b2, b3, b4⟩ := gd_find ok hs okK hφ hT2 hL (p := p) (by omega) hK
  have hc2 := gq_cS_1 hc a9
  have hK1 := gc_K_w hK b3
  obtain ⟨P, G, μ', ν', e1, e2, e3, e4, e5, e6, e7, e8, e9, e10⟩ := gb_chL (O := gk_O w) (B := fun _ => -1) (g := g) (t := t) (u := u) ok hs hT2 hL hp (gd_ctx_of ok hφ) a6 (fun d hd => a7 L d (Nat.le_refl _) hd fun c hc h => ga_full T (by omega) d hd c hc h) (k := fun (μ21 : gx_M) => some ((), μ21)) (k2 := fun (x2_36 : Int32) (μ37 : gx_M) => some (x2_36, μ37)) ha (2 ^ T - 1) 4000 1 0 0 (gx_uI (gx_uI μ2 75 3 (gq_I 0)) 75 4 (gq_I 0)) (gx_uI ν1 206 41 (gq_I 0)) (by omega) (by omega) (by omega) (by omega) (by omega) (gq_cS_sm hc2 fun i hi => funext fun j => by rw [gq_uI1, if_neg (by omega), gq_uI1, if_neg (by omega)]) a5 ⟨⟨⟨hK1.1.1.1, hK1.1.1.2.1, hK1.1.1.2.2.1, hK1.1.1.2.2.2⟩, gq_mS_w hK1.1.2 rfl⟩, hK1.2.1, hK1.2.2.1, hK1.2.2.2⟩ (fun y hy => b2 0 y (Nat.zero_le _) hy) rfl rfl rfl
  refine ⟨P, G, μ', ν', ?_, ?_, e3, e4, e5, e6, fun y j hy => ?_, fun y h1 h2 => ?_, fun y j h1 h2 h3 => ?_, e10.trans b4⟩
  · unfold f_X0_choose
    rw [a1, gq_bd, gc_subs ok a2 hT2, gq_lit, gq_sub, show (OfNat.ofNat 1 : Int) = 1 from rfl, show ((2 ^ T : Nat) : Int) - 1 = ((2 ^ T - 1 : Nat) : Int) by omega, a3, gq_bd]
    simp only [gq_lit, gq_lte]
    exact e1
  · unfold f_X12_planOf
    rw [b1, gq_bd]
    simp only [gq_lit, gq_lte]
    exact e2
  · rw [e7 y j hy, gq_uI1, if_neg fun c => hy c.1, gq_uI1, if_neg fun c => hy c.1, a9]
  · rw [e8]
    exact a8 y h1 h2
  · rw [e9 y j h3, gq_uI1, if_neg h3, b3 y j h1 h2]
