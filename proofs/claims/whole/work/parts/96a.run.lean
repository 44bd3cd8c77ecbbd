/-! run, ranked -/
theorem gr_dig {C : Int} {n b : Nat} (hC : 0 ≤ C) (hn : n < 64) (hb : b < 6) : (C * 68719476736 + n * ga_q b) / ga_q b % 64 = n := by
  obtain ⟨q0, q1, q2, q3, q4, q5⟩ := ga_q_v
  rcases (by omega : b = 0 ∨ b = 1 ∨ b = 2 ∨ b = 3 ∨ b = 4 ∨ b = 5) with h | h | h | h | h | h <;> subst h
  · rw [q0]; omega
  · rw [q1]; omega
  · rw [q2]; omega
  · rw [q3]; omega
  · rw [q4]; omega
  · rw [q5]; omega
/-- the best of a business so far: first minute B, cost C; the class's weight V -/
def gr_S (φ : Nat → Nat → Bool) (c : Nat → Nat → Int) (b i : Nat) (B C V : Int) : Prop := (C = 1000000 ∧ B = -1 ∧ V = 1152921504606846976) ∨ ∃ n : Nat, B = n ∧ n < i ∧ φ b n = true ∧ C = c b n ∧ V = c b n * 68719476736 + n * ga_q b
theorem gr_bestL {μ ν : gx_M} {s a b L : Nat} {w O B0 : Nat → Int} {p g : Int} {φ : Nat → Nat → Bool} (ok : gq_okS w) (hs : s < 8) (hL : w 0 = L) (hc : gq_cS μ a w) (hK : gc_K ν s w O B0 g) (hO : gc_okK O B0 g) (hφ : gc_al w B0 g φ) (hb : (b : Int) < w 2) (hp : -1 ≤ p ∧ p ≤ 4) (hwt : gc_Wt μ w (ga_W φ (gk_c w O p))) {k : Int64 → Option Int64} {k2 : Int32 → Option Int32} : ∀ (d f i : Nat) (B C V : Int), d < f → i + d = L → gr_S φ (gk_c w O p) b i B C V → ∃ B' C' V', L_X0_bestWeight_7 μ a (gq_I b) k f (gq_L V) (gq_I i) = k (gq_L V') ∧ L_X12_firstRun_10 ν (gq_I p) (gq_I b) k2 f (gq_I B) (gq_I C) (gq_I i) = k2 (gq_I B') ∧ gr_S φ (gk_c w O p) b L B' C' V'
  | _, 0, _, _, _, _, hf, _, _ => absurd hf (Nat.not_lt_zero _)
  | 0, f + 1, i, B, C, V, hf, hi, hS => by
    have o0 := ok.1
    refine ⟨B, C, V, ?_, ?_, ?_⟩
    · rw [L_X0_bestWeight_7.eq_2, hc.1.1, hL]
      exact if_pos (by rw [gq_le (by omega)]; omega)
    · rw [L_X12_firstRun_10.eq_2, hK.1.1.2.1, hL]
      exact if_pos (by rw [gq_le (by omega)]; omega)
    · rw [show L = i by omega]
      exact hS
  | d + 1, f + 1, i, B, C, V, hf, hi, hS => by
    have o0 := ok.1
    have o2 := ok.2.2.1
    have cx := gd_ctx_of (O := O) (p := p) ok hφ
    have hA := gd_ctx_m ok cx
    obtain ⟨q1, q2, _⟩ := ga_q_b b (by omega)
    have eW := hwt b i hb (by omega)
    have er := gc_rc ok hs hK hO hφ hb hp (m := i) (by omega)
    -- bounds of the state
    have sb : (0 ≤ C ∧ C ≤ 1000000) ∧ (-1 ≤ B ∧ B < 40) ∧ 0 ≤ V ∧ V ≤ 1152921504606846976 := by
      rcases hS with ⟨h1, h2, h3⟩ | ⟨n, h1, h2, h3, h4, h5⟩
      · omega
      · have := (cx b n h3).2
        have p1 : 0 ≤ (n : Int) * ga_q b := Int.mul_nonneg (by omega) (by omega)
        have p2 : (n : Int) * ga_q b ≤ 39 * 1073741824 := Int.mul_le_mul (by omega) q2 (by omega) (by omega)
        omega
    have st : ∀ B1 C1 V1, gr_S φ (gk_c w O p) b (i + 1) B1 C1 V1 → (if ga_W φ (gk_c w O p) b i < V then ga_W φ (gk_c w O p) b i else V) = V1 → (if C ≤ ga_R φ (gk_c w O p) b i then B else (i : Int)) = B1 → (if ga_R φ (gk_c w O p) b i ≤ C then ga_R φ (gk_c w O p) b i else C) = C1 → (0 ≤ ga_W φ (gk_c w O p) b i ∧ ga_W φ (gk_c w O p) b i ≤ 1152921504606846976) → (0 ≤ ga_R φ (gk_c w O p) b i ∧ ga_R φ (gk_c w O p) b i ≤ 1000000) → ∃ B' C' V', L_X0_bestWeight_7 μ a (gq_I b) k (f + 1) (gq_L V) (gq_I i) = k (gq_L V') ∧ L_X12_firstRun_10 ν (gq_I p) (gq_I b) k2 (f + 1) (gq_I B) (gq_I C) (gq_I i) = k2 (gq_I B') ∧ gr_S φ (gk_c w O p) b L B' C' V' := fun B1 C1 V1 hS1 hV1 hB1 hC1 wb rb => by
      obtain ⟨B', C', V', e1, e2, e3⟩ := gr_bestL ok hs hL hc hK hO hφ hb hp hwt (k := k) (k2 := k2) d f (i + 1) B1 C1 V1 (by omega) (by omega) hS1
      refine ⟨B', C', V', ?_, ?_, e3⟩
      · rw [← e1, L_X0_bestWeight_7.eq_2, hc.1.1, hL, ← hV1]
        simp (disch := omega) only [Int.reduceToNat, gq_lit, gq_neg, gq_add, gq_sub, gq_mul, gq_nat, Int.toNat_natCast, gq_tadd, gq_tmul, gq_lte, gq_br, gq_bd, gq_ck, Bool.false_eq_true, gq_leT, gq_leF, gq_ltT, gq_ltF, gq_eqT, gq_eqF, if_true, if_false, eW]
        by_cases g1 : ga_W φ (gk_c w O p) b i < V
        · rw [if_pos (by rw [gq_Llt (by omega)]; exact g1), if_pos g1]
          rfl
        · rw [if_neg (by rw [gq_Llt (by omega)]; exact g1), if_neg g1]
          rfl
      · rw [← e2, L_X12_firstRun_10.eq_2, hK.1.1.2.1, hL, er, ← hB1, ← hC1]
        simp (disch := omega) only [Int.reduceToNat, gq_lit, gq_neg, gq_add, gq_sub, gq_mul, gq_nat, Int.toNat_natCast, gq_tadd, gq_tmul, gq_lte, gq_br, gq_bd, gq_ck, Bool.false_eq_true, gq_leT, gq_leF, gq_ltT, gq_ltF, gq_eqT, gq_eqF, if_true, if_false, gp_ls]
        by_cases g1 : C ≤ ga_R φ (gk_c w O p) b i
        · rw [if_pos (by rw [gq_le (by omega)]; exact g1), if_pos g1]
          rfl
        · rw [if_neg (by rw [gq_le (by omega)]; exact g1), if_neg g1]
          rfl
    by_cases g1 : φ b i = true
    · obtain ⟨c1, c2⟩ := (cx b i g1).2
      have eWv : ga_W φ (gk_c w O p) b i = gk_c w O p b i * 68719476736 + i * ga_q b := if_pos g1
      have eRv : ga_R φ (gk_c w O p) b i = gk_c w O p b i := if_pos g1
      have p1 : 0 ≤ (i : Int) * ga_q b := Int.mul_nonneg (by omega) (by omega)
      have p2 : (i : Int) * ga_q b ≤ 39 * 1073741824 := Int.mul_le_mul (by have := hA b i g1; omega) q2 (by omega) (by omega)
      rw [eWv, eRv] at st
      rcases hS with ⟨h1, h2, h3⟩ | ⟨n, h1, h2, h3, h4, h5⟩
      · exact st i (gk_c w O p b i) (gk_c w O p b i * 68719476736 + i * ga_q b) (Or.inr ⟨i, rfl, by omega, g1, rfl, rfl⟩) (if_pos (by omega)) (if_neg (by omega)) (if_pos (by omega)) (by omega) (by omega)
      · have c3 := (cx b n h3).2
        have p3 : 0 ≤ (n : Int) * ga_q b := Int.mul_nonneg (by omega) (by omega)
        have p4 : (n : Int) * ga_q b ≤ 39 * 1073741824 := Int.mul_le_mul (by have := hA b n h3; omega) q2 (by omega) (by omega)
        have p5 : (n : Int) * ga_q b ≤ (i : Int) * ga_q b := Int.mul_le_mul_of_nonneg_right (by omega) (by omega)
        by_cases g2 : C ≤ gk_c w O p b i
        · exact st B C V (Or.inr ⟨n, h1, by omega, h3, h4, h5⟩) (if_neg (by omega)) (if_pos g2) (by split <;> omega) (by omega) (by omega)
        · exact st i (gk_c w O p b i) (gk_c w O p b i * 68719476736 + i * ga_q b) (Or.inr ⟨i, rfl, by omega, g1, rfl, rfl⟩) (if_pos (by omega)) (if_neg g2) (if_pos (by omega)) (by omega) (by omega)
    · have eWv : ga_W φ (gk_c w O p) b i = 1152921504606846976 := if_neg g1
      have eRv : ga_R φ (gk_c w O p) b i = 1000000 := if_neg g1
      rw [eWv, eRv] at st
      refine st B C V ?_ (if_neg (by omega)) (if_pos (by omega)) (by split <;> omega) (by omega) (by omega)
      rcases hS with h | ⟨n, h1, h2, h3, h4, h5⟩
      · exact Or.inl h
      · exact Or.inr ⟨n, h1, by omega, h3, h4, h5⟩
theorem gr_best {μ ν : gx_M} {s a b : Nat} {w O B0 : Nat → Int} {p g : Int} {φ : Nat → Nat → Bool} (ok : gq_okS w) (hs : s < 8) (hc : gq_cS μ a w) (hK : gc_K ν s w O B0 g) (hO : gc_okK O B0 g) (hφ : gc_al w B0 g φ) (hb : (b : Int) < w 2) (hp : -1 ≤ p ∧ p ≤ 4) (hwt : gc_Wt μ w (ga_W φ (gk_c w O p))) : (f_X0_bestCost a (gq_I b) μ = some (gq_I (-1)) ∧ f_X0_bestFirst a (gq_I b) μ = some (gq_I (-1)) ∧ f_X12_firstRun (gq_I p) (gq_I b) ν = some (gq_I (-1))) ∨ ∃ n : Nat, n < 40 ∧ φ b n = true ∧ f_X0_bestCost a (gq_I b) μ = some (gq_I (gk_c w O p b n)) ∧ f_X0_bestFirst a (gq_I b) μ = some (gq_I n) ∧ f_X12_firstRun (gq_I p) (gq_I b) ν = some (gq_I n) := by
  have o0 := ok.1
  have o2 := ok.2.2.1
  have cx := gd_ctx_of (O := O) (p := p) ok hφ
  obtain ⟨q1, q2, _⟩ := ga_q_b b (by omega)
  obtain ⟨B, C, V, e1, e2, e3⟩ := gr_bestL (L := (w 0).toNat) ok hs (by omega) hc hK hO hφ hb hp hwt (k := fun (x3_8 : Int64) => some x3_8) (k2 := fun (x3_12 : Int32) => some x3_12) (w 0).toNat 4000 0 (-1) 1000000 1152921504606846976 (by omega) (by omega) (Or.inl ⟨rfl, rfl, rfl⟩)
  have b1 : f_X0_bestWeight a (gq_I b) μ = some (gq_L V) := by
    unfold f_X0_bestWeight
    simp only [gq_lit, gq_Llit]
    exact e1
  have b2 : f_X12_firstRun (gq_I p) (gq_I b) ν = some (gq_I B) := by
    unfold f_X12_firstRun
    simp only [gq_lit, gq_neg]
    exact e2
  rcases e3 with ⟨h1, h2, h3⟩ | ⟨n, h1, h2, h3, h4, h5⟩
  · refine Or.inl ⟨?_, ?_, by rw [b2, h2]⟩
    · unfold f_X0_bestCost
      rw [b1, gq_br, gc_costIn (by omega), if_neg (by omega)]
    · unfold f_X0_bestFirst
      rw [b1, gq_br, gc_firstIn (by omega) (by omega), if_neg (by omega)]
  · have c3 := (cx b n h3).2
    have p3 : 0 ≤ (n : Int) * ga_q b := Int.mul_nonneg (by omega) (by omega)
    have p4 : (n : Int) * ga_q b ≤ 39 * 1073741824 := Int.mul_le_mul (by omega) q2 (by omega) (by omega)
    refine Or.inr ⟨n, by omega, h3, ?_, ?_, by rw [b2, h1]⟩
    · unfold f_X0_bestCost
      rw [b1, gq_br, gc_costIn (by omega), if_pos (by omega)]
      exact congrArg (fun z => some (gq_I z)) (by omega)
    · unfold f_X0_bestFirst
      rw [b1, gq_br, gc_firstIn (by omega) (by omega), if_pos (by omega), h5, gr_dig c3.1 (by omega) (by omega)]
theorem gq_e_run {μ : gx_M} (hI : gq_inv μ) (p1 p2 p3 : Int32) (b : Bool) : gq_st (f_X11_run p1 p2 p3 b) (f_X12_run p1 p2 p3 b) μ := by
  obtain ⟨z, hz, rfl⟩ := gq_ex p1
  obtain ⟨p, hp, rfl⟩ := gq_ex p2
  obtain ⟨m, hm, rfl⟩ := gq_ex p3
  refine gq_two hI fun ν0 hν => ?_
  rcases gq_op hI hz with ⟨h1, h2⟩ | ⟨s, w, hs, rfl, ok, hc, h1, h2⟩
  · refine ⟨gq_I (-1), μ, _, ?_, ?_, gq_sm_rf, gq_sm_uI (x := gq_I 0) (k := 0) gq_Pm206 gq_sm_rf⟩
    · unfold f_X11_run
      rw [gq_hasP0 h1]
      rfl
    · unfold f_X12_run
      rw [gq_lte, gq_lit, h2 ν0 hν]
      rfl
  · obtain ⟨μ2, a1, a2, a3⟩ := h2 ν0 hν
    have o0 := ok.1
    have o1 := ok.2.1
    have o2 := ok.2.2.1
    have hP := gq_hasP1 hs ok hp hc h1
    have iP := gq_isP hp ok a2
    have hM := gq_hasB ok hm hc
    have iM := gq_isB hm ok a2
    by_cases g : 0 ≤ p ∧ p < w 1
    · by_cases g2 : 0 ≤ m ∧ m < w 2
      · obtain ⟨n, rfl⟩ : ∃ n : Nat, m = n := ⟨m.toNat, by omega⟩
        obtain ⟨φ, hφ⟩ := gc_al_ex w (fun _ => -1) (-1)
        have K := gc_K_hd a2
        obtain ⟨μ1, b1, b2, b3, b4⟩ := gc_weigh (p := p) ok hc (by omega) (gb_all ok hφ)
        have hc1 := gq_cS_1 hc b4
        have fr : gq_sm gq_Pc μ μ1 := gb_Pc (fun y j _ => by rw [b4]) (fun y h _ => b3 y h)
        rcases gr_best ok (by omega) hc1 K (gc_okK_hd ok) hφ (b := n) (by omega) (p := p) (by omega) b2 with ⟨x1, x2, x3⟩ | ⟨f, f1, f2, x1, x2, x3⟩
        · refine ⟨gq_I (-1), μ1, μ2, ?_, ?_, fr, a3⟩
          · unfold f_X11_run
            rw [hP, decide_eq_true g, gq_br, if_pos rfl, gq_ck (by omega), gq_lte, gq_nat (by omega), Int.toNat_natCast, hM, decide_eq_true g2, if_pos rfl, gq_lte, b1, gq_bd, x1, x2, gq_br]
            split <;> rfl
          · unfold f_X12_run
            rw [gq_lte, gq_lit, a1, gq_bd, if_pos rfl, if_pos (by rw [iP]; exact g), if_pos (by rw [iM]; exact g2), x3, gq_br, if_pos (by rfl)]
        · have er := gc_rc ok (by omega) K (gc_okK_hd ok) hφ (b := n) (m := f) (by omega) (p := p) (by omega) f1
          have eR : ga_R φ (gk_c w (gk_O w) p) n f = gk_c w (gk_O w) p n f := if_pos f2
          rw [eR] at er
          refine ⟨if b = true then gq_I (gk_c w (gk_O w) p n f) else gq_I f, μ1, μ2, ?_, ?_, fr, a3⟩
          · unfold f_X11_run
            rw [hP, decide_eq_true g, gq_br, if_pos rfl, gq_ck (by omega), gq_lte, gq_nat (by omega), Int.toNat_natCast, hM, decide_eq_true g2, if_pos rfl, gq_lte, b1, gq_bd, x1, x2, gq_br, gq_br]
            split <;> rfl
          · unfold f_X12_run
            rw [gq_lte, gq_lit, a1, gq_bd, if_pos rfl, if_pos (by rw [iP]; exact g), if_pos (by rw [iM]; exact g2), x3, gq_br, if_neg (by rw [gq_lit, gq_neg, gq_eq (by omega)]; omega), er, gq_br]
            split <;> rfl
      · refine ⟨gq_I (-1), μ, μ2, ?_, ?_, gq_sm_rf, a3⟩
        · unfold f_X11_run
          rw [hP, decide_eq_true g, gq_br, if_pos rfl, gq_ck (by omega), gq_lte, gq_nat (by omega), Int.toNat_natCast, hM, decide_eq_false g2]
          rfl
        · unfold f_X12_run
          rw [gq_lte, gq_lit, a1, gq_bd, if_pos rfl, if_pos (by rw [iP]; exact g), if_neg (by rw [iM]; exact g2)]
          rfl
    · refine ⟨gq_I (-1), μ, μ2, ?_, ?_, gq_sm_rf, a3⟩
      · unfold f_X11_run
        rw [hP, decide_eq_false g]
        rfl
      · unfold f_X12_run
        rw [gq_lte, gq_lit, a1, gq_bd, if_pos rfl, if_neg (by rw [iP]; exact g)]
        rfl
