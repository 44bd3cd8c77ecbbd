/-! ranked -/
/-- the costs of all business, on both sides -/
def gr_K (μ ν : gx_M) (a T : Nat) (p : Int) (K : Nat → Int) : Prop := ∀ b, b < T → f_X0_bestCost a (gq_I b) μ = some (gq_I (gb_n (K b))) ∧ f_X12_rankCost (gq_I p) (gq_I b) ν = some (gq_I (K b)) ∧ 0 ≤ K b ∧ (K b ≤ 81 ∨ K b = 1000000)
def gr_P (K : Nat → Int) (b o : Nat) : Bool := decide (K o < K b ∨ (K o = K b ∧ o < b))
theorem gr_K_ex {μ ν : gx_M} {s a T : Nat} {w O B0 : Nat → Int} {p g : Int} {φ : Nat → Nat → Bool} (ok : gq_okS w) (hs : s < 8) (hT2 : w 2 = T) (hc : gq_cS μ a w) (hK : gc_K ν s w O B0 g) (hO : gc_okK O B0 g) (hφ : gc_al w B0 g φ) (hp : -1 ≤ p ∧ p ≤ 4) (hwt : gc_Wt μ w (ga_W φ (gk_c w O p))) : ∃ K, gr_K μ ν a T p K := by
  have o2 := ok.2.2.1
  have cx := gd_ctx_of (O := O) (p := p) ok hφ
  have one : ∀ b, b < T → ∃ z, f_X0_bestCost a (gq_I b) μ = some (gq_I (gb_n z)) ∧ f_X12_rankCost (gq_I p) (gq_I b) ν = some (gq_I z) ∧ 0 ≤ z ∧ (z ≤ 81 ∨ z = 1000000) := fun b hb => by
    rcases gr_best ok hs hc hK hO hφ (b := b) (by omega) hp hwt with ⟨x1, x2, x3⟩ | ⟨f, f1, f2, x1, x2, x3⟩
    · refine ⟨1000000, ?_, ?_, by omega, by omega⟩
      · rw [x1]
        rfl
      · unfold f_X12_rankCost
        rw [x3, gq_br, if_pos (by rfl)]
        rfl
    · have er := gc_rc ok hs hK hO hφ (b := b) (m := f) (by omega) hp f1
      have eR : ga_R φ (gk_c w O p) b f = gk_c w O p b f := if_pos f2
      have cb := (cx b f f2).2
      rw [eR] at er
      refine ⟨gk_c w O p b f, ?_, ?_, by omega, by omega⟩
      · rw [x1]
        unfold gb_n
        rw [if_pos (by omega)]
      · unfold f_X12_rankCost
        rw [x3, gq_br, if_neg (by rw [gq_lit, gq_neg, gq_eq (by omega)]; omega), er, gq_br]
  exact ⟨fun b => if h : b < T then (one b h).choose else 0, fun b hb => by
    show f_X0_bestCost a (gq_I b) μ = some (gq_I (gb_n (if h : b < T then (one b h).choose else 0))) ∧ f_X12_rankCost (gq_I p) (gq_I b) ν = some (gq_I (if h : b < T then (one b h).choose else 0)) ∧ 0 ≤ (if h : b < T then (one b h).choose else 0) ∧ ((if h : b < T then (one b h).choose else 0) ≤ 81 ∨ (if h : b < T then (one b h).choose else 0) = 1000000)
    rw [dif_pos hb]
    exact (one b hb).choose_spec⟩
theorem gr_cL {μ ν : gx_M} {a b T : Nat} {w : Nat → Int} {p : Int} {K : Nat → Int} (ok : gq_okS w) (hT2 : w 2 = T) (hc : gq_cS μ a w) (h : gr_K μ ν a T p K) (hb : b < T) (hK : K b ≤ 81) {k : Int32 → Option Int32} : ∀ (d f i : Nat), d < f → i + d = T → L_X0_rankOf_13 μ a (gq_I (K b)) (gq_I b) k f (gq_I (gm_cnt (gr_P K b) i : Nat)) (gq_I i) = k (gq_I (gm_cnt (gr_P K b) T : Nat))
  | _, 0, _, hf, _ => absurd hf (Nat.not_lt_zero _)
  | 0, f + 1, i, hf, hi => by
    have o2 := ok.2.2.1
    rw [L_X0_rankOf_13.eq_2, hc.1.2.2, hT2, show i = T by omega]
    exact if_pos (by rw [gq_le (by omega)]; omega)
  | d + 1, f + 1, i, hf, hi => by
    have o2 := ok.2.2.1
    obtain ⟨e1, e2, e3, e4⟩ := h i (by omega)
    obtain ⟨_, _, b3, _⟩ := h b hb
    rw [← gr_cL ok hT2 hc h hb hK (k := k) d f (i + 1) (by omega) (by omega), L_X0_rankOf_13.eq_2, hc.1.2.2, hT2]
    by_cases g0 : K i ≤ 81
    · have en : gb_n (K i) = K i := if_pos (by omega)
      rw [en] at e1
      by_cases g1 : K i < K b
      · have eP : gr_P K b i = true := decide_eq_true (Or.inl g1)
        rw [gl_cntT (φ := gr_P K b) eP]
        simp (disch := omega) only [Int.reduceToNat, gq_lit, gq_neg, gq_add, gq_sub, gq_mul, gq_nat, Int.toNat_natCast, gq_tadd, gq_tmul, gq_lte, gq_br, gq_bd, gq_ck, Bool.false_eq_true, gq_leT, gq_leF, gq_ltT, gq_ltF, gq_eqT, gq_eqF, if_true, if_false, e1]
        rfl
      · by_cases g2 : K i = K b
        · by_cases g3 : i < b
          · have eP : gr_P K b i = true := decide_eq_true (Or.inr ⟨g2, g3⟩)
            rw [gl_cntT (φ := gr_P K b) eP]
            simp (disch := omega) only [Int.reduceToNat, gq_lit, gq_neg, gq_add, gq_sub, gq_mul, gq_nat, Int.toNat_natCast, gq_tadd, gq_tmul, gq_lte, gq_br, gq_bd, gq_ck, Bool.false_eq_true, gq_leT, gq_leF, gq_ltT, gq_ltF, gq_eqT, gq_eqF, if_true, if_false, e1]
            rfl
          · have eP : gr_P K b i = false := decide_eq_false (by omega)
            rw [gl_cntF (φ := gr_P K b) eP]
            simp (disch := omega) only [Int.reduceToNat, gq_lit, gq_neg, gq_add, gq_sub, gq_mul, gq_nat, Int.toNat_natCast, gq_tadd, gq_tmul, gq_lte, gq_br, gq_bd, gq_ck, Bool.false_eq_true, gq_leT, gq_leF, gq_ltT, gq_ltF, gq_eqT, gq_eqF, if_true, if_false, e1]
            rfl
        · have eP : gr_P K b i = false := decide_eq_false (by omega)
          rw [gl_cntF (φ := gr_P K b) eP]
          simp (disch := omega) only [Int.reduceToNat, gq_lit, gq_neg, gq_add, gq_sub, gq_mul, gq_nat, Int.toNat_natCast, gq_tadd, gq_tmul, gq_lte, gq_br, gq_bd, gq_ck, Bool.false_eq_true, gq_leT, gq_leF, gq_ltT, gq_ltF, gq_eqT, gq_eqF, if_true, if_false, e1]
          rfl
    · have en : gb_n (K i) = -1 := if_neg (by omega)
      rw [en] at e1
      have eP : gr_P K b i = false := decide_eq_false (by omega)
      rw [gl_cntF (φ := gr_P K b) eP]
      simp (disch := omega) only [Int.reduceToNat, gq_lit, gq_neg, gq_add, gq_sub, gq_mul, gq_nat, Int.toNat_natCast, gq_tadd, gq_tmul, gq_lte, gq_br, gq_bd, gq_ck, Bool.false_eq_true, gq_leT, gq_leF, gq_ltT, gq_ltF, gq_eqT, gq_eqF, if_true, if_false, e1]
      rfl
theorem gr_mL {μ ν : gx_M} {a b T : Nat} {p : Int} {K : Nat → Int} (hT : ν.1 206 27 = gq_I T) (hT6 : T ≤ 6) (h : gr_K μ ν a T p K) (hb : b < T) {k : Int32 → gx_M → Option (Int32 × gx_M)} : ∀ (d f i : Nat), d < f → i + d = T → L_X12_ranked_50 (gq_I p) (gq_I (K b)) (gq_I b) k f (gq_I (gm_cnt (gr_P K b) i : Nat)) (gq_I i) ν = k (gq_I (gm_cnt (gr_P K b) T : Nat)) ν
  | _, 0, _, hf, _ => absurd hf (Nat.not_lt_zero _)
  | 0, f + 1, i, hf, hi => by
    rw [L_X12_ranked_50.eq_2, hT, show i = T by omega]
    exact if_pos (by rw [gq_le (by omega)]; omega)
  | d + 1, f + 1, i, hf, hi => by
    obtain ⟨e1, e2, e3, e4⟩ := h i (by omega)
    obtain ⟨_, _, b3, b4⟩ := h b hb
    rw [← gr_mL hT hT6 h hb (k := k) d f (i + 1) (by omega) (by omega), L_X12_ranked_50.eq_2, hT]
    by_cases g1 : K i < K b
    · have eP : gr_P K b i = true := decide_eq_true (Or.inl g1)
      rw [gl_cntT (φ := gr_P K b) eP]
      simp (disch := omega) only [Int.reduceToNat, gq_lit, gq_neg, gq_add, gq_sub, gq_mul, gq_nat, Int.toNat_natCast, gq_tadd, gq_tmul, gq_lte, gq_br, gq_bd, gq_ck, Bool.false_eq_true, gq_leT, gq_leF, gq_ltT, gq_ltF, gq_eqT, gq_eqF, if_true, if_false, e2, gq_biT]
      rfl
    · by_cases g2 : K i = K b
      · by_cases g3 : i < b
        · have eP : gr_P K b i = true := decide_eq_true (Or.inr ⟨g2, g3⟩)
          rw [gl_cntT (φ := gr_P K b) eP]
          simp (disch := omega) only [Int.reduceToNat, gq_lit, gq_neg, gq_add, gq_sub, gq_mul, gq_nat, Int.toNat_natCast, gq_tadd, gq_tmul, gq_lte, gq_br, gq_bd, gq_ck, Bool.false_eq_true, gq_leT, gq_leF, gq_ltT, gq_ltF, gq_eqT, gq_eqF, if_true, if_false, e2, gq_biT]
          rfl
        · have eP : gr_P K b i = false := decide_eq_false (by omega)
          rw [gl_cntF (φ := gr_P K b) eP]
          simp (disch := omega) only [Int.reduceToNat, gq_lit, gq_neg, gq_add, gq_sub, gq_mul, gq_nat, Int.toNat_natCast, gq_tadd, gq_tmul, gq_lte, gq_br, gq_bd, gq_ck, Bool.false_eq_true, gq_leT, gq_leF, gq_ltT, gq_ltF, gq_eqT, gq_eqF, if_true, if_false, e2, gq_biF, Int.add_zero]
          rfl
      · have eP : gr_P K b i = false := decide_eq_false (by omega)
        rw [gl_cntF (φ := gr_P K b) eP]
        simp (disch := omega) only [Int.reduceToNat, gq_lit, gq_neg, gq_add, gq_sub, gq_mul, gq_nat, Int.toNat_natCast, gq_tadd, gq_tmul, gq_lte, gq_br, gq_bd, gq_ck, Bool.false_eq_true, gq_leT, gq_leF, gq_ltT, gq_ltF, gq_eqT, gq_eqF, if_true, if_false, e2, gq_biF, Int.add_zero]
        rfl
theorem gr_rL {μ ν : gx_M} {a T : Nat} {w : Nat → Int} {p q : Int} {K : Nat → Int} (ok : gq_okS w) (hT2 : w 2 = T) (hc : gq_cS μ a w) (hT : ν.1 206 27 = gq_I T) (h : gr_K μ ν a T p K) (hq : -2147483648 ≤ q ∧ q < 2147483648) : ∀ (d f i : Nat), d < f → i + d = T → ∃ r, L_X0_atRank_2 μ a (gq_I q) (some (gq_I (-1))) f (gq_I i) = some r ∧ L_X12_ranked_26 (gq_I p) (gq_I q) (fun m => some (gq_I (-1), m)) f (gq_I i) ν = some (r, ν)
  | _, 0, _, hf, _ => absurd hf (Nat.not_lt_zero _)
  | 0, f + 1, i, hf, hi => by
    have o2 := ok.2.2.1
    refine ⟨gq_I (-1), ?_, ?_⟩
    · rw [L_X0_atRank_2.eq_2, hc.1.2.2, hT2]
      exact if_pos (by rw [gq_le (by omega)]; omega)
    · rw [L_X12_ranked_26.eq_2, hT]
      exact if_pos (by rw [gq_le (by omega)]; omega)
  | d + 1, f + 1, i, hf, hi => by
    have o2 := ok.2.2.1
    obtain ⟨e1, e2, e3, e4⟩ := h i (by omega)
    obtain ⟨r, i1, i2⟩ := gr_rL ok hT2 hc hT h hq d f (i + 1) (by omega) (by omega)
    have cnt : gm_cnt (gr_P K i) T ≤ 6 := Nat.le_trans (gm_cnt_le (gr_P K i) T) (by omega)
    have em := gr_mL hT (by omega) h (b := i) (by omega) (k := fun (x6_30 : Int32) (μ31 : gx_M) => gx_lt (fun (μ35 : gx_M) => L_X12_ranked_26 (gq_I p) (gq_I q) (fun m => some (gq_I (-1), m)) f (gq_I i + 1) μ35) (fun J32 => if 1000000 ≤ gq_I (K i) then J32 μ31 else if x6_30 = gq_I q then some (gq_I i, μ31) else J32 μ31)) T 4000 0 (by omega) (by omega)
    have step : L_X12_ranked_26 (gq_I p) (gq_I q) (fun m => some (gq_I (-1), m)) (f + 1) (gq_I i) ν = if 1000000 ≤ gq_I (K i) then L_X12_ranked_26 (gq_I p) (gq_I q) (fun m => some (gq_I (-1), m)) f (gq_I (i + 1 : Nat)) ν else if gq_I (gm_cnt (gr_P K i) T : Nat) = gq_I q then some (gq_I i, ν) else L_X12_ranked_26 (gq_I p) (gq_I q) (fun m => some (gq_I (-1), m)) f (gq_I (i + 1 : Nat)) ν := by
      rw [L_X12_ranked_26.eq_2, hT, e2]
      refine (if_neg (by rw [gq_le (by omega)]; omega)).trans ?_
      rw [gq_br]
      refine em.trans ?_
      rw [gq_lte, gq_suc]
    by_cases g0 : K i ≤ 81
    · have en : gb_n (K i) = K i := if_pos (by omega)
      rw [en] at e1
      have ec := gr_cL ok hT2 hc h (b := i) (by omega) g0 (k := fun (x4_15 : Int32) => some x4_15) T 4000 0 (by omega) (by omega)
      have er : f_X0_rankOf a (gq_I i) μ = some (gq_I (gm_cnt (gr_P K i) T : Nat)) := by
        unfold f_X0_rankOf
        rw [e1, gq_br]
        simp only [gq_lit]
        exact ec
      rw [if_neg (by rw [gq_lit, gq_le (by omega)]; omega)] at step
      by_cases g1 : ((gm_cnt (gr_P K i) T : Nat) : Int) = q
      · refine ⟨gq_I i, ?_, ?_⟩
        · rw [L_X0_atRank_2.eq_2, hc.1.2.2, hT2]
          simp (disch := omega) only [Int.reduceToNat, gq_lit, gq_neg, gq_add, gq_sub, gq_mul, gq_nat, Int.toNat_natCast, gq_tadd, gq_tmul, gq_lte, gq_br, gq_bd, gq_ck, Bool.false_eq_true, gq_leT, gq_leF, gq_ltT, gq_ltF, gq_eqT, gq_eqF, if_true, if_false, e1, er]
        · rw [step, if_pos (by rw [g1])]
      · refine ⟨r, ?_, ?_⟩
        · rw [← i1, L_X0_atRank_2.eq_2, hc.1.2.2, hT2]
          simp (disch := omega) only [Int.reduceToNat, gq_lit, gq_neg, gq_add, gq_sub, gq_mul, gq_nat, Int.toNat_natCast, gq_tadd, gq_tmul, gq_lte, gq_br, gq_bd, gq_ck, Bool.false_eq_true, gq_leT, gq_leF, gq_ltT, gq_ltF, gq_eqT, gq_eqF, if_true, if_false, e1, er]
          rfl
        · rw [step, if_neg (by rw [gq_eq (by omega)]; exact g1), i2]
    · have en : gb_n (K i) = -1 := if_neg (by omega)
      rw [en] at e1
      rw [if_pos (by rw [gq_lit, gq_le (by omega)]; omega)] at step
      refine ⟨r, ?_, by rw [step, i2]⟩
      rw [← i1, L_X0_atRank_2.eq_2, hc.1.2.2, hT2]
      simp (disch := omega) only [Int.reduceToNat, gq_lit, gq_neg, gq_add, gq_sub, gq_mul, gq_nat, Int.toNat_natCast, gq_tadd, gq_tmul, gq_lte, gq_br, gq_bd, gq_ck, Bool.false_eq_true, gq_leT, gq_leF, gq_ltT, gq_ltF, gq_eqT, gq_eqF, if_true, if_false, e1]
      rfl
theorem gq_e_ranked {μ : gx_M} (hI : gq_inv μ) (p1 p2 p3 : Int32) : gq_st (f_X11_ranked p1 p2 p3) (f_X12_ranked p1 p2 p3) μ := by
  obtain ⟨z, hz, rfl⟩ := gq_ex p1
  obtain ⟨p, hp, rfl⟩ := gq_ex p2
  obtain ⟨m, hm, rfl⟩ := gq_ex p3
  refine gq_two hI fun ν0 hν => ?_
  rcases gq_op hI hz with ⟨h1, h2⟩ | ⟨s, w, hs, rfl, ok, hc, h1, h2⟩
  · refine ⟨gq_I (-1), μ, _, ?_, ?_, gq_sm_rf, gq_sm_uI (x := gq_I 0) (k := 0) gq_Pm206 gq_sm_rf⟩
    · unfold f_X11_ranked
      rw [gq_hasP0 h1]
      rfl
    · unfold f_X12_ranked
      rw [gq_lte, gq_lit, h2 ν0 hν]
      rfl
  · obtain ⟨μ2, a1, a2, a3⟩ := h2 ν0 hν
    have o0 := ok.1
    have o1 := ok.2.1
    have o2 := ok.2.2.1
    have hP := gq_hasP1 hs ok hp hc h1
    have iP := gq_isP hp ok a2
    by_cases g : 0 ≤ p ∧ p < w 1
    · obtain ⟨φ, hφ⟩ := gc_al_ex w (fun _ => -1) (-1)
      have hT2 : w 2 = ((w 2).toNat : Nat) := by omega
      have K := gc_K_hd a2
      obtain ⟨μ1, b1, b2, b3, b4⟩ := gc_weigh (p := p) ok hc (by omega) (gb_all ok hφ)
      have hc1 := gq_cS_1 hc b4
      obtain ⟨C, hC⟩ := gr_K_ex ok (by omega) hT2 hc1 K (gc_okK_hd ok) hφ (p := p) (by omega) b2
      obtain ⟨r, r1, r2⟩ := gr_rL ok hT2 hc1 (by rw [← hT2]; exact a2.1.2.2.2.1) hC hm (w 2).toNat 4000 0 (by omega) (by omega)
      refine ⟨r, μ1, μ2, ?_, ?_, gb_Pc (fun y j _ => by rw [b4]) (fun y h _ => b3 y h), a3⟩
      · have er : f_X0_atRank (8 + 16 * s) (gq_I m) μ1 = some r := by
          unfold f_X0_atRank
          simp only [gq_lit, gq_neg]
          exact r1
        unfold f_X11_ranked
        rw [hP, decide_eq_true g, gq_br, if_pos rfl, gq_ck (by omega), gq_lte, gq_nat (by omega), Int.toNat_natCast, b1, gq_bd, er, gq_br]
      · unfold f_X12_ranked
        rw [gq_lte, gq_lit, a1, gq_bd, if_pos rfl, if_pos (by rw [iP]; exact g)]
        simp only [gq_lit, gq_neg]
        exact r2
    · refine ⟨gq_I (-1), μ, μ2, ?_, ?_, gq_sm_rf, a3⟩
      · unfold f_X11_ranked
        rw [hP, decide_eq_false g]
        rfl
      · unfold f_X12_ranked
        rw [gq_lte, gq_lit, a1, gq_bd, if_pos rfl, if_neg (by rw [iP]; exact g)]
        rfl
