/-! what the class's table holds in the end -/
theorem gc_fillL {a : Nat} {v : Int64} {k : gx_M → Option (Unit × gx_M)} : ∀ (d f i : Nat) (μ : gx_M), d < f → i + d = 2624 → ∃ μ', L_J7_fill_d0a16_6 (gq_I 2624) 2624 a v k f (gq_I i) μ = k μ' ∧ (∀ j, i ≤ j → j < 2624 → μ'.2 a j = v) ∧ (∀ y j, ¬ (y = a ∧ i ≤ j) → μ'.2 y j = μ.2 y j) ∧ μ'.1 = μ.1
  | _, 0, _, _, hf, _ => absurd hf (Nat.not_lt_zero _)
  | 0, f + 1, i, μ, hf, hi => by
    refine ⟨μ, ?_, fun j h1 h2 => absurd h2 (by omega), fun _ _ _ => rfl, rfl⟩
    rw [L_J7_fill_d0a16_6.eq_2]
    simp (disch := omega) only [Int.reduceToNat, gq_lit, gq_neg, gq_add, gq_sub, gq_mul, gq_nat, Int.toNat_natCast, gq_tadd, gq_tmul, gq_lte, gq_br, gq_bd, gq_ck, Bool.false_eq_true, gq_leT, gq_leF, gq_ltT, gq_ltF, gq_eqT, gq_eqF, if_true, if_false]
  | d + 1, f + 1, i, μ, hf, hi => by
    obtain ⟨μ', e1, e2, e3, e4⟩ := gc_fillL (a := a) (v := v) (k := k) d f (i + 1) (gx_uL μ a i v) (by omega) (by omega)
    refine ⟨μ', ?_, fun j h1 h2 => ?_, fun y j h1 => ?_, e4⟩
    · rw [← e1, L_J7_fill_d0a16_6.eq_2]
      simp (disch := omega) only [Int.reduceToNat, gq_lit, gq_neg, gq_add, gq_sub, gq_mul, gq_nat, Int.toNat_natCast, gq_tadd, gq_tmul, gq_lte, gq_br, gq_bd, gq_ck, Bool.false_eq_true, gq_leT, gq_leF, gq_ltT, gq_ltF, gq_eqT, gq_eqF, if_true, if_false]
      rfl
    · by_cases e : j = i
      · subst e
        rw [e3 a j (by omega), gq_uL2, if_pos ⟨rfl, rfl⟩]
      · exact e2 j (by omega) h2
    · rw [e3 y j (by omega), gq_uL2, if_neg (by omega)]
theorem gc_fill (a : Nat) (v : Int64) (μ : gx_M) : ∃ μ', f_J7_fill_d0a16 a 2624 v μ = some ((), μ') ∧ (∀ j, j < 2624 → μ'.2 a j = v) ∧ (∀ y, y ≠ a → μ'.2 y = μ.2 y) ∧ μ'.1 = μ.1 := by
  obtain ⟨μ', e1, e2, e3, e4⟩ := gc_fillL (a := a) (v := v) (k := fun (μ9 : gx_M) => some ((), μ9)) 2624 4000 0 μ (by omega) (by omega)
  refine ⟨μ', ?_, fun j hj => e2 j (by omega) hj, fun y hy => funext fun j => e3 y j fun c => hy c.1, e4⟩
  unfold f_J7_fill_d0a16
  rw [gq_lte, gq_oN, gq_lit]
  exact e1
theorem ga_no : ∀ d, d < 64 → (∀ b, b < 6 → ga_h d b = false) → d = 0 := by decide +kernel
theorem gc_comp {x T L : Nat} {w : Nat → Int} {φ : Nat → Nat → Bool} {W : Nat → Nat → Int} {t : Nat → Int} (ok : gq_okS w) (hW : gc_ctx w φ W) (hT2 : w 2 = T) (hL : w 0 = L) (hC : ∀ m d : Nat, (m : Int) < w 0 → d < 2 ^ T → gc_C w φ W x t m d) (h0 : t 0 ≤ 0) : ∀ (N m : Nat), m < N → m ≤ L → ∀ d, d < 2 ^ T → ga_sub d x → ∀ S, ga_arr φ (ga_l w) d 0 m S → t (m * 64 + d) ≤ ga_v W d S
  | 0, _, h, _, _, _, _, _, _ => absurd h (Nat.not_lt_zero _)
  | N + 1, m, hN, hm, d, hd, hx, S, hS => by
    have o0 := ok.1
    have o2 := ok.2.2.1
    have p2 := ga_2T T (by omega)
    have hl : ∀ b, b < 6 → ga_h d b = true → 1 ≤ ga_l w b := fun b hb h => by
      have hbT := ga_h_lt T (by omega) d hd b hb h
      have := (ok.2.2.2.2.1 b (by omega)).1
      unfold ga_l
      omega
    have bnd : ∀ y S hi, ga_arr φ (ga_l w) y 0 hi S → ga_v W y S < 1152921504606846976 := fun y S hi h => by
      have := ga_v_b (g := W) (B := 8796093022208) (by omega) h fun b m hb hA => (hW.1 b m hA).2
      omega
    cases m with
    | zero =>
      have e : d = 0 := ga_no d (by omega) fun b hb => by
        cases h : ga_h d b with
        | false => rfl
        | true =>
          have h1 := (hS.1 b hb h).2.2
          have h2 := hl b hb h
          omega
      subst e
      rw [ga_v_0]
      exact h0
    | succ m =>
      rcases ga_last hl hS with h | ⟨b, hb, h1, h2, h3⟩
      · have ih := gc_comp ok hW hT2 hL hC h0 N m (by omega) (by omega) d hd hx S h
        have hB := bnd d S m h
        exact Int.le_trans (hC m d (by omega) hd (by omega)).1 ih
      · obtain ⟨i1, i2⟩ := ga_rm_ins d (by omega) b hb h1
        have l1 := hl b hb h1
        have hy := h3 _ i1
        have dlt : d - 2 ^ b < 2 ^ T := Nat.lt_of_le_of_lt (Nat.sub_le _ _) hd
        have sy : ga_sub (d - 2 ^ b) x := fun c hc h => hx c hc (ga_ins_x i1 hc h).1
        have ih := gc_comp ok hW hT2 hL hC h0 N (S b) (by omega) (by omega) (d - 2 ^ b) dlt sy S hy
        have hB := bnd _ S _ hy
        have hA := (hS.1 b hb h1).1
        have c := (hC (S b) (d - 2 ^ b) (by omega) dlt (by omega)).2 b (hx b hb h1) i1.2.1 hA
        rw [h2, Nat.sub_add_cancel i2] at c
        rw [ga_v_ins i1 S]
        omega
theorem gc_arrS {μ : gx_M} {a x T L : Nat} {w : Nat → Int} {φ : Nat → Nat → Bool} {W : Nat → Nat → Int} (ok : gq_okS w) (hW : gc_ctx w φ W) (hT2 : w 2 = T) (hL : w 0 = L) (hx : x < 64) (hc : gq_cS μ a w) (hwt : gc_Wt μ w W) : ∃ μ' t, f_X0_arrange a (gq_I x) μ = some ((), μ') ∧ gc_tab μ' 77 t ∧ (∀ j, j < 2624 → 0 ≤ t j ∧ t j ≤ 1152921504606846976) ∧ (∀ m d, m ≤ L → d < 2 ^ T → ga_sub d x → ga_min φ (ga_l w) W d 0 m 1152921504606846976 (t (m * 64 + d))) ∧ (∀ y, y ≠ 77 → μ'.2 y = μ.2 y) ∧ μ'.1 = μ.1 ∧ ∀ m d, m ≤ 40 → d < 64 → t (m * 64 + d) < 1152921504606846976 → ∃ S, ga_arr φ (ga_l w) d 0 m S ∧ ga_v W d S = t (m * 64 + d) := by
  have o0 := ok.1
  have o2 := ok.2.2.1
  have p2 := ga_2T T (by omega)
  obtain ⟨μ1, a1, a2, a3, a4⟩ := gc_fill 77 (gq_L 1152921504606846976) μ
  have ht : gc_tab (gx_uL μ1 77 0 (gq_L 0)) 77 (fun j => if j = 0 then 0 else 1152921504606846976) := fun j hj => by
    rw [gq_uL2]
    by_cases e : j = 0
    · rw [if_pos ⟨rfl, e⟩]
      show _ = gq_L (if j = 0 then 0 else 1152921504606846976)
      rw [if_pos e]
    · rw [if_neg fun c => e c.2, a2 j hj]
      show _ = gq_L (if j = 0 then 0 else 1152921504606846976)
      rw [if_neg e]
  have hT : gc_T w φ W x (fun j => if j = 0 then 0 else 1152921504606846976) := by
    refine ⟨fun j hj => ?_, fun m d h1 h2 h3 => ?_⟩
    · show 0 ≤ (if j = 0 then (0 : Int) else 1152921504606846976) ∧ (if j = 0 then (0 : Int) else 1152921504606846976) ≤ 1152921504606846976
      split <;> omega
    · have e : m * 64 + d = 0 := by
        by_cases c : m * 64 + d = 0
        · exact c
        · exfalso
          have h4 : (if m * 64 + d = 0 then (0 : Int) else 1152921504606846976) < 1152921504606846976 := h3
          rw [if_neg c] at h4
          omega
      have e1 : m = 0 := by omega
      have e2 : d = 0 := by omega
      subst e1
      subst e2
      exact ⟨fun _ => 0, ga_arr_0, ga_v_0⟩
  obtain ⟨μ', t', e1, e2, e3, e4, e5, e6, e7, e8⟩ := gc_arrL2 (a := a) ok hW hT2 hx (k := fun (μ22 : gx_M) => some ((), μ22)) L 4000 0 (gx_uL μ1 77 0 (gq_L 0)) _ (by omega) (by omega) (gq_cS_1 hc a4) (fun b j h1 h2 => by
    show (gx_uL μ1 77 0 (gq_L 0)).2 76 (b * 40 + j) = _
    rw [gq_uL2, if_neg (by omega), a3 76 (by omega)]
    exact hwt b j h1 h2) ht hT
  have h0 : t' 0 = 0 := (e5 0 (by omega)).trans (if_pos rfl)
  refine ⟨μ', t', ?_, e2, e3.1, fun m d hm hd hdx => ⟨fun h => e3.2 m d (by omega) (by omega) h, fun S hS => gc_comp ok hW hT2 hL (fun m d h1 h2 => e6 m d (by omega) h1 h2) (by omega) (m + 1) m (by omega) hm d hd hdx S hS⟩, fun y hy => ?_, e8.trans a4, e3.2⟩
  · unfold f_X0_arrange
    rw [gc_FL, a1, gq_bd, gq_lte]
    exact e1
  · rw [e7 y hy]
    funext j
    rw [gq_uL2, if_neg fun c => hy c.1, a3 y hy]
theorem gc_arrange {μ : gx_M} {a x T L : Nat} {w : Nat → Int} {φ : Nat → Nat → Bool} {W : Nat → Nat → Int} (ok : gq_okS w) (hW : gc_ctx w φ W) (hT2 : w 2 = T) (hL : w 0 = L) (hx : x < 64) (hc : gq_cS μ a w) (hwt : gc_Wt μ w W) : ∃ μ' t, f_X0_arrange a (gq_I x) μ = some ((), μ') ∧ gc_tab μ' 77 t ∧ (∀ j, j < 2624 → 0 ≤ t j ∧ t j ≤ 1152921504606846976) ∧ (∀ m d, m ≤ L → d < 2 ^ T → ga_sub d x → ga_min φ (ga_l w) W d 0 m 1152921504606846976 (t (m * 64 + d))) ∧ (∀ y, y ≠ 77 → μ'.2 y = μ.2 y) ∧ μ'.1 = μ.1 := by
  obtain ⟨μ', t, e1, e2, e3, e4, e5, e6, _⟩ := gc_arrS ok hW hT2 hL hx hc hwt
  exact ⟨μ', t, e1, e2, e3, e4, e5, e6⟩
