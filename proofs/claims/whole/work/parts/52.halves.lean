/-! halves -/
theorem gq_marg {μ ν : gx_M} {s a : Nat} {w : Nat → Int} {h : Nat → Int32} {m t : Nat} (ok : gq_okS w) (hc : gq_cS μ a w) (hh : gq_hd ν s w) (hmt : (m + t : Nat) ≤ w 0) (h1 : μ.1 88 (m + t) = h (m + t)) (h2 : ν.1 228 (m + t) = h (m + t)) : ∀ (d f i : Nat) (v : Int32), d < f → i + d = t → ∃ X, L_X11_marginOf_6 (gq_I m) (gq_I t) μ a (fun (x4_8 : Int32) => gx_ck (gx_ix (gq_I m + gq_I t) 41 = true) (some (x4_8 - (μ.1 88 (gq_I m + gq_I t).toNatClampNeg)))) f v (gq_I (m + i : Nat)) = some X ∧ L_X12_leadBy_5 (gq_I t) (gq_I m) ν (fun (x3_8 : Int32) => gx_ck (gx_ix (gq_I m + gq_I t) 41 = true) (some (x3_8 - (ν.1 228 (gq_I m + gq_I t).toNatClampNeg)))) f v (gq_I i) = some X
  | _, 0, _, _, hf, _ => absurd hf (Nat.not_lt_zero _)
  | 0, f + 1, i, v, hf, hi => by
    have o0 := ok.1
    have e : i = t := by omega
    subst e
    refine ⟨v - h (m + i), ?_, ?_⟩
    · rw [L_X11_marginOf_6.eq_2]
      simp (disch := omega) only [Int.reduceToNat, gq_lit, gq_neg, gq_add, gq_sub, gq_mul, gq_nat, Int.toNat_natCast, gq_tadd, gq_tmul, gq_lte, gq_br, gq_bd, gq_ck, Bool.false_eq_true, gq_leT, gq_leF, gq_ltT, gq_ltF, gq_eqT, gq_eqF, if_true, if_false, h1]
    · rw [L_X12_leadBy_5.eq_2]
      simp (disch := omega) only [Int.reduceToNat, gq_lit, gq_neg, gq_add, gq_sub, gq_mul, gq_nat, Int.toNat_natCast, gq_tadd, gq_tmul, gq_lte, gq_br, gq_bd, gq_ck, Bool.false_eq_true, gq_leT, gq_leF, gq_ltT, gq_ltF, gq_eqT, gq_eqF, if_true, if_false, h2]
  | d + 1, f + 1, i, v, hf, hi => by
    have o0 := ok.1
    have c := hc.2.2.1 (m + i) (by omega)
    have c2 := hh.2.2.1 (m + i) (by omega)
    obtain ⟨X, i1, i2⟩ := gq_marg ok hc hh hmt h1 h2 d f (i + 1) (v + gq_I (w (31 + (m + i)))) (by omega) (by omega)
    refine ⟨X, ?_, ?_⟩
    · rw [L_X11_marginOf_6.eq_2, ← i1]
      simp (disch := omega) only [Int.reduceToNat, gq_lit, gq_neg, gq_add, gq_sub, gq_mul, gq_nat, Int.toNat_natCast, gq_tadd, gq_tmul, gq_lte, gq_br, gq_bd, gq_ck, Bool.false_eq_true, gq_leT, gq_leF, gq_ltT, gq_ltF, gq_eqT, gq_eqF, if_true, if_false, c]
      rfl
    · rw [L_X12_leadBy_5.eq_2, ← i2]
      simp (disch := omega) only [Int.reduceToNat, gq_lit, gq_neg, gq_add, gq_sub, gq_mul, gq_nat, Int.toNat_natCast, gq_tadd, gq_tmul, gq_lte, gq_br, gq_bd, gq_ck, Bool.false_eq_true, gq_leT, gq_leF, gq_ltT, gq_ltF, gq_eqT, gq_eqF, if_true, if_false, c2]
      rfl
theorem gq_margF {μ ν : gx_M} {s a : Nat} {w : Nat → Int} {h : Nat → Int32} {m t : Nat} (ok : gq_okS w) (hc : gq_cS μ a w) (hh : gq_hd ν s w) (hmt : (m + t : Nat) ≤ w 0) (h1 : μ.1 88 (m + t) = h (m + t)) (h2 : ν.1 228 (m + t) = h (m + t)) : ∃ X, f_X11_marginOf a (gq_I m) (gq_I t) μ = some X ∧ f_X12_leadBy (gq_I m) (gq_I t) ν = some X := by
  have o0 := ok.1
  obtain ⟨X, i1, i2⟩ := gq_marg ok hc hh hmt h1 h2 t 4000 0 (gq_I 0) (by omega) (by omega)
  refine ⟨X, ?_, ?_⟩
  · unfold f_X11_marginOf
    simp only [gq_lit]
    exact i1
  · unfold f_X12_leadBy
    simp only [gq_lit]
    exact i2
/-- one minute earlier -/
theorem gq_best {μ ν : gx_M} {s a : Nat} {w : Nat → Int} {h : Nat → Int32} {m : Nat} (ok : gq_okS w) (hc : gq_cS μ a w) (hh : gq_hd ν s w) (hm : (m : Int) < w 0) (h1 : ∀ j : Nat, m < j → (j : Int) ≤ w 0 → μ.1 88 j = h j ∧ ν.1 228 j = h j) {k : Int32 → Option Int32} {k' : Int32 → gx_M → Option (Int32 × gx_M)} : ∀ (d f t b : Nat), d < f → t + d = 4 → 2 ≤ t → 1 ≤ b → b ≤ 3 → (m + b : Nat) ≤ w 0 → ∃ b' : Nat, (1 ≤ b' ∧ b' ≤ 3 ∧ (m + b' : Nat) ≤ w 0) ∧ L_X11_bestTaking_5 μ a (gq_I m) k f (gq_I b) (gq_I t) = k (gq_I b') ∧ L_X12_halves_47 (gq_I m) k' f (gq_I b) (gq_I t) ν = k' (gq_I b') ν
  | _, 0, _, _, hf, _, _, _, _, _ => absurd hf (Nat.not_lt_zero _)
  | 0, f + 1, t, b, hf, ht, ht2, hb1, hb2, hb3 => by
    refine ⟨b, ⟨hb1, hb2, hb3⟩, ?_, ?_⟩
    · rw [L_X11_bestTaking_5.eq_2]
      simp (disch := omega) only [gq_lit, Bool.false_eq_true, gq_leT, gq_leF, gq_ltT, gq_ltF, gq_eqT, gq_eqF, if_true, if_false]
    · rw [L_X12_halves_47.eq_2]
      simp (disch := omega) only [gq_lit, Bool.false_eq_true, gq_leT, gq_leF, gq_ltT, gq_ltF, gq_eqT, gq_eqF, if_true, if_false]
  | d + 1, f + 1, t, b, hf, ht, ht2, hb1, hb2, hb3 => by
    have o0 := ok.1
    by_cases g : w 0 < (m + t : Nat)
    · refine ⟨b, ⟨hb1, hb2, hb3⟩, ?_, ?_⟩
      · rw [L_X11_bestTaking_5.eq_2, hc.1.1]
        simp (disch := omega) only [Int.reduceToNat, gq_lit, gq_neg, gq_add, gq_sub, gq_mul, gq_nat, Int.toNat_natCast, gq_tadd, gq_tmul, gq_lte, gq_br, gq_bd, gq_ck, Bool.false_eq_true, gq_leT, gq_leF, gq_ltT, gq_ltF, gq_eqT, gq_eqF, if_true, if_false]
      · rw [L_X12_halves_47.eq_2, hh.1.2.1]
        simp (disch := omega) only [Int.reduceToNat, gq_lit, gq_neg, gq_add, gq_sub, gq_mul, gq_nat, Int.toNat_natCast, gq_tadd, gq_tmul, gq_lte, gq_br, gq_bd, gq_ck, Bool.false_eq_true, gq_leT, gq_leF, gq_ltT, gq_ltF, gq_eqT, gq_eqF, if_true, if_false]
    · by_cases t0 : t = 0
      · subst t0
        omega
      · obtain ⟨X, x1, x2⟩ := gq_margF (m := m) (t := t) ok hc hh (by omega) (h1 (m + t) (by omega) (by omega)).1 (h1 (m + t) (by omega) (by omega)).2
        obtain ⟨Y, y1, y2⟩ := gq_margF (m := m) (t := b) ok hc hh (by omega) (h1 (m + b) (by omega) (by omega)).1 (h1 (m + b) (by omega) (by omega)).2
        obtain ⟨b', z0, z1, z2⟩ := gq_best ok hc hh hm h1 (k := k) (k' := k') d f (t + 1) (if X ≤ Y then b else t) (by omega) (by omega) (by omega) (by split <;> omega) (by split <;> omega) (by split <;> omega)
        refine ⟨b', z0, ?_, ?_⟩
        · rw [L_X11_bestTaking_5.eq_2, ← z1, hc.1.1]
          simp (disch := omega) only [Int.reduceToNat, gq_lit, gq_neg, gq_add, gq_sub, gq_mul, gq_nat, Int.toNat_natCast, gq_tadd, gq_tmul, gq_lte, gq_br, gq_bd, gq_ck, Bool.false_eq_true, gq_leT, gq_leF, gq_ltT, gq_ltF, gq_eqT, gq_eqF, if_true, if_false, x1, y1]
          by_cases g2 : X ≤ Y
          · rw [if_pos g2, if_pos g2]; rfl
          · rw [if_neg g2, if_neg g2]; rfl
        · rw [L_X12_halves_47.eq_2, ← z2, hh.1.2.1]
          simp (disch := omega) only [Int.reduceToNat, gq_lit, gq_neg, gq_add, gq_sub, gq_mul, gq_nat, Int.toNat_natCast, gq_tadd, gq_tmul, gq_lte, gq_br, gq_bd, gq_ck, Bool.false_eq_true, gq_leT, gq_leF, gq_ltT, gq_ltF, gq_eqT, gq_eqF, if_true, if_false, x2, y2]
          by_cases g2 : X ≤ Y
          · rw [if_pos g2, if_pos g2]; rfl
          · rw [if_neg g2, if_neg g2]; rfl
theorem gq_hd_w {ν ν' : gx_M} {s : Nat} {w : Nat → Int} (h : gq_hd ν s w) (e : ∀ a j, (a = 206 ∧ 24 ≤ j ∧ j ≤ 38) ∨ a = 212 ∨ (218 ≤ a ∧ a ≤ 222) ∨ a = 225 → ν'.1 a j = ν.1 a j) : gq_hd ν' s w := by
  obtain ⟨⟨h1, h2, h3, h4, h5⟩, h6, h7, h8, h9, h10, h11⟩ := h
  refine ⟨⟨?_, ?_, ?_, ?_, ?_⟩, fun p hp => ?_, fun p hp => ?_, fun p hp => ?_, fun p hp => ?_, fun p hp => ?_, gq_mS_w h11 ?_⟩
  · rw [e _ _ (by omega)]; exact h1
  · rw [e _ _ (by omega)]; exact h2
  · rw [e _ _ (by omega)]; exact h3
  · rw [e _ _ (by omega)]; exact h4
  · rw [e _ _ (by omega)]; exact h5
  · rw [e _ _ (by omega)]; exact h6 p hp
  · rw [e _ _ (by omega)]; exact h7 p hp
  · rw [e _ _ (by omega)]; exact h8 p hp
  · rw [e _ _ (by omega)]; exact h9 p hp
  · rw [e _ _ (by omega), e _ _ (by omega)]; exact h10 p hp
  · funext j; exact e _ _ (by omega)
theorem gq_halfL {s : Nat} {w : Nat → Int} (hs : s < 2) (ok : gq_okS w) {k k' : Int32 → gx_M → Option (Int32 × gx_M)} : ∀ (d f : Nat) (T : Int32) (μ ν : gx_M), d < f → (d : Int) ≤ w 0 → gq_cS μ (8 + 16 * s) w → gq_hd ν s w → (∀ j : Nat, d ≤ j → (j : Int) ≤ w 0 → ν.1 228 j = μ.1 88 j) → ∃ T' μ' ν', L_X11_halves_43 (8 + 16 * s) k f T (gq_I ((d : Int) - 1)) μ = k T' μ' ∧ L_X12_halves_37 k' f T (gq_I ((d : Int) - 1)) ν = k' T' ν' ∧ ν'.1 228 0 = μ'.1 88 0 ∧ gq_sm gq_Pc μ μ' ∧ gq_sm gq_Pm ν ν'
  | _, 0, _, _, _, hf, _, _, _, _ => absurd hf (Nat.not_lt_zero _)
  | 0, f + 1, T, μ, ν, hf, hd, hc, hh, hj => by
    have o0 := ok.1
    refine ⟨T, μ, ν, ?_, ?_, hj 0 (by omega) (by omega), gq_sm_rf, gq_sm_rf⟩
    · rw [L_X11_halves_43.eq_2]
      simp (disch := omega) only [gq_lit, Bool.false_eq_true, gq_leT, gq_leF, gq_ltT, gq_ltF, gq_eqT, gq_eqF, if_true, if_false]
    · rw [L_X12_halves_37.eq_2]
      simp (disch := omega) only [gq_lit, Bool.false_eq_true, gq_leT, gq_leF, gq_ltT, gq_ltF, gq_eqT, gq_eqF, if_true, if_false]
  | d + 1, f + 1, T, μ, ν, hf, hd, hc, hh, hj => by
    have o0 := ok.1
    have em : ((d + 1 : Nat) : Int) - 1 = d := by omega
    rw [em]
    obtain ⟨X, hX⟩ : ∃ X : Int32, True := ⟨0, trivial⟩
    have H : ∀ j : Nat, d < j → (j : Int) ≤ w 0 → μ.1 88 j = (fun j => μ.1 88 j) j ∧ ν.1 228 j = (fun j => μ.1 88 j) j := fun j h1 h2 => ⟨rfl, hj j (by omega) h2⟩
    obtain ⟨b, ⟨b1, b2, b3⟩, c1, _⟩ := gq_best (m := d) (h := fun j => μ.1 88 j) ok hc hh (by omega) H (k := fun x => some x) (k' := fun x m => some (x, m)) 2 4000 2 1 (by omega) (by omega) (by omega) (by omega) (by omega) (by omega)
    obtain ⟨Y, y1, y2⟩ := gq_margF (m := d) (t := b) (h := fun j => μ.1 88 j) ok hc hh b3 rfl (hj (d + b) (by omega) b3)
    obtain ⟨T', μ', ν', i1, i2, i3, i4, i5⟩ := gq_halfL hs ok (k := k) (k' := k') d f (gq_I b) (gx_uI μ 88 d Y) (gx_uI ν 228 d Y) (by omega) (by omega) (gq_cS_sm hc fun i hi => by funext j; rw [gq_uI1, if_neg (by omega)]) (gq_hd_w hh fun a j g => by rw [gq_uI1, if_neg (by omega)]) (fun j h1 h2 => by
      rw [gq_uI1, gq_uI1]
      by_cases g : j = d
      · rw [if_pos ⟨rfl, g⟩, if_pos ⟨rfl, g⟩]
      · rw [if_neg (by omega), if_neg (by omega)]; exact hj j (by omega) h2)
    have c1' : f_X11_bestTaking (8 + 16 * s) (gq_I d) μ = some (gq_I b) := by
      unfold f_X11_bestTaking
      simp only [gq_lit]
      exact c1
    refine ⟨T', μ', ν', ?_, ?_, i3, gq_sm_tr (gq_sm_uI (by unfold gq_Pc; omega) gq_sm_rf) i4, gq_sm_tr (gq_sm_uI (by unfold gq_Pm; omega) gq_sm_rf) i5⟩
    · rw [L_X11_halves_43.eq_2, ← i1]
      simp (disch := omega) only [Int.reduceToNat, gq_lit, gq_neg, gq_add, gq_sub, gq_mul, gq_nat, Int.toNat_natCast, gq_tadd, gq_tmul, gq_lte, gq_br, gq_bd, gq_ck, Bool.false_eq_true, gq_leT, gq_leF, gq_ltT, gq_ltF, gq_eqT, gq_eqF, if_true, if_false, c1', y1]
      rw [Int.sub_eq_add_neg]
    · rw [L_X12_halves_37.eq_2, ← i2]
      obtain ⟨b', _, c3, c4⟩ := gq_best (m := d) (h := fun j => μ.1 88 j) ok hc hh (by omega) H (k := fun x => some x) (k' := (fun (x3_27 : Int32) (μ28 : gx_M) => gx_br (f_X12_leadBy (gq_I d) x3_27 μ28) (fun (r29 : Int32) => gx_ck (gx_ix (gq_I d) 41 = true) (gx_lt (gx_uI μ28 228 (gq_I d).toNatClampNeg r29) (fun (μ31 : gx_M) => L_X12_halves_37 k' f x3_27 (gq_I d + gq_I (-1)) μ31))))) 2 4000 2 1 (by omega) (by omega) (by omega) (by omega) (by omega) (by omega)
      have eb : b' = b := by
        rw [c1] at c3
        have := Option.some.inj c3
        rw [gq_eq (by omega)] at this
        omega
      subst eb
      simp (disch := omega) only [gq_lit, gq_neg, Bool.false_eq_true, gq_leT, gq_leF, gq_ltT, gq_ltF, gq_eqT, gq_eqF, if_true, if_false]
      refine Eq.trans c4 ?_
      simp (disch := omega) only [Int.reduceToNat, gq_lit, gq_neg, gq_add, gq_sub, gq_mul, gq_nat, Int.toNat_natCast, gq_tadd, gq_tmul, gq_lte, gq_br, gq_bd, gq_ck, y2]
      rw [Int.sub_eq_add_neg]
/-- a question whose answers are shown side by side, the check's from any memory that the class's may leave -/
theorem gq_two {ρ : Type} {F G : gx_M → Option (ρ × gx_M)} {μ : gx_M} (hI : gq_inv μ) (h : ∀ ν0, gq_sm gq_Pc μ ν0 → ∃ r μ' ν', F μ = some (r, μ') ∧ G ν0 = some (r, ν') ∧ gq_sm gq_Pc μ μ' ∧ gq_sm gq_Pm ν0 ν') : gq_st F G μ := by
  obtain ⟨r, μ', _, x1, _, x3, _⟩ := h μ gq_sm_rf
  obtain ⟨r', μ'', ν', y1, y2, y3, y4⟩ := h μ' x3
  have e : (r, μ') = (r', μ'') := by
    rw [x1] at y1
    exact Option.some.inj y1
  have e1 : r = r' := congrArg Prod.fst e
  subst e1
  exact gq_st_q hI x1 x3 y2 y4
theorem gq_e_halves {μ : gx_M} (hI : gq_inv μ) (p1 : Int32) (b : Bool) : gq_st (f_X11_halves p1 b) (f_X12_halves p1 b) μ := by
  obtain ⟨z, hz, rfl⟩ := gq_ex p1
  rcases gq_op hI hz with ⟨h1, h2⟩ | ⟨s, w, hs, rfl, ok, hc, h1, h2⟩
  · refine gq_st_q hI (r := gq_I (-1000)) (μ1 := μ) (μ2 := gx_uI μ 206 0 (gq_I 0)) ?_ gq_sm_rf ?_ (gq_sm_uI gq_Pm206 gq_sm_rf)
    · unfold f_X11_halves
      rw [h1]
      rfl
    · unfold f_X12_halves
      rw [gq_lte, gq_lit, h2 μ gq_sm_rf]
      rfl
  · have o0 := ok.1
    obtain ⟨n, hn⟩ : ∃ n : Nat, w 0 = n := ⟨(w 0).toNat, by omega⟩
    have start : ∀ ν0, gq_sm gq_Pc μ ν0 → ∃ T' μ' ν' μ2, f_X11_halves (gq_I s) b μ = some (if b = true then T' else μ'.1 88 0, μ') ∧ f_X12_halves (gq_I s) b ν0 = some (if b = true then T' else μ'.1 88 0, ν') ∧ gq_sm gq_Pc μ μ' ∧ gq_sm gq_Pm ν0 μ2 ∧ gq_sm gq_Pm μ2 ν' := by
      intro ν0 hν
      obtain ⟨μ2, a1, a2, a3⟩ := h2 ν0 hν
      obtain ⟨T', μ', ν', i1, i2, i3, i4, i5⟩ := gq_halfL hs ok (k := fun (x4_19 : Int32) (μ20 : gx_M) => if b = true then some (x4_19, μ20) else some ((μ20.1 88 0), μ20)) (k' := fun (x3_34 : Int32) (μ35 : gx_M) => if b = true then some (x3_34, μ35) else some ((μ35.1 228 0), μ35)) n 4000 (gq_I 0) (gx_uI μ 88 n (gq_I 0)) (gx_uI μ2 228 n (gq_I 0)) (by omega) (by omega) (gq_cS_sm hc fun i hi => by funext j; rw [gq_uI1, if_neg (by omega)]) (gq_hd_w a2 fun a j g => by rw [gq_uI1, if_neg (by omega)]) (fun j h1 h2 => by
        have : j = n := by omega
        rw [gq_uI1, gq_uI1, if_pos ⟨rfl, this⟩, if_pos ⟨rfl, this⟩])
      have c0 : μ.1 (8 + 16 * s) 0 = gq_I n := by rw [hc.1.1, hn]
      have c0' : (gx_uI μ 88 n (gq_I 0)).1 (8 + 16 * s) 0 = gq_I n := by rw [gq_uI1, if_neg (by omega)]; exact c0
      have m0 : μ2.1 206 25 = gq_I n := by rw [a2.1.2.1, hn]
      have m0' : (gx_uI μ2 228 n (gq_I 0)).1 206 25 = gq_I n := by rw [gq_uI1, if_neg (by omega)]; exact m0
      refine ⟨T', μ', ν', μ2, ?_, ?_, gq_sm_tr (gq_sm_uI (by unfold gq_Pc; omega) gq_sm_rf) i4, a3, gq_sm_tr (gq_sm_uI (by unfold gq_Pm; omega) gq_sm_rf) i5⟩
      · unfold f_X11_halves
        rw [h1]
        simp (disch := omega) only [Int.reduceToNat, gq_lit, gq_neg, gq_add, gq_sub, gq_mul, gq_nat, Int.toNat_natCast, gq_tadd, gq_tmul, gq_lte, gq_br, gq_bd, gq_ck, if_true, c0, c0']
        refine Eq.trans i1 ?_
        split <;> rfl
      · unfold f_X12_halves
        rw [gq_lte, gq_lit, a1, gq_bd, if_pos rfl]
        simp (disch := omega) only [Int.reduceToNat, gq_lit, gq_neg, gq_add, gq_sub, gq_mul, gq_nat, Int.toNat_natCast, gq_tadd, gq_tmul, gq_lte, gq_br, gq_bd, gq_ck, m0, m0']
        refine Eq.trans i2 ?_
        rw [i3]
        split <;> rfl
    exact gq_two hI fun ν0 hν => by
      obtain ⟨T', μ', ν', μ2, x1, x2, x3, x4, x5⟩ := start ν0 hν
      exact ⟨_, μ', ν', x1, x2, x3, gq_sm_tr x4 x5⟩
