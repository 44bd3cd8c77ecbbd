/-! early: the call -/
theorem gz_lastL {μ : gx_M} {a x L : Nat} {w : Nat → Int} {y : Int64} {φ : Nat → Nat → Bool} {t : Nat → Int} {E : Int} (ok : gq_okS w) (hL : w 0 = L) (hφ : gz_al w y φ) (hc : gq_cS μ a w) (ht : gc_tab μ 77 t) (tb : ∀ j, j < 2624 → 0 ≤ t j ∧ t j ≤ 1152921504606846976) (hx : x < 64) (h : ∀ m, m ≤ L → (t (m * 64 + x) < 1152921504606846976 ↔ ∃ S, ga_arr φ (ga_l w) x 0 m S)) (hE : 0 ≤ E ∧ E ≤ 1000000) (hE2 : ∀ k : Nat, k < 1000000 → (E ≤ k ↔ ∃ S, ga_arr φ (ga_l w) x 0 (k + 1) S)) : ∀ (d f m : Nat), d < f → m + d = L + 1 → 1 ≤ m → (m : Int) ≤ E + 1 → L_X0_lastUsed_8 μ a (gq_I x) (some (gq_I (-1))) f (gq_I m) = some (gq_I (gb_n E))
  | _, 0, _, hf, _, _, _ => absurd hf (Nat.not_lt_zero _)
  | 0, f + 1, m, hf, hi, h1, h2 => by
    have o0 := ok.1
    have e : E = 1000000 := by
      by_cases g : E < 1000000
      · exfalso
        obtain ⟨k, hk⟩ : ∃ k : Nat, E = k := ⟨E.toNat, by omega⟩
        obtain ⟨S, s1⟩ := (hE2 k (by omega)).mp (by omega)
        have := (hE2 (L - 1) (by omega)).mpr ⟨S, by rw [Nat.sub_add_cancel (by omega)]; exact gz_hi ok hL hφ s1⟩
        omega
      · omega
    rw [L_X0_lastUsed_8.eq_2, hc.1.1, hL, e]
    exact if_pos (by rw [gq_lt (by omega)]; omega)
  | d + 1, f + 1, m, hf, hi, h1, h2 => by
    have o0 := ok.1
    have et := ht (m * 64 + x) (by omega)
    have eb := tb (m * 64 + x) (by omega)
    have k1 := h m (by omega)
    have k2 := hE2 (m - 1) (by omega)
    rw [Nat.sub_add_cancel (by omega)] at k2
    by_cases g : t (m * 64 + x) < 1152921504606846976
    · have k3 := k2.mpr (k1.mp g)
      have en : gb_n E = m - 1 := by
        unfold gb_n
        rw [if_pos (by omega)]
        omega
      rw [L_X0_lastUsed_8.eq_2, hc.1.1, hL, en]
      simp (disch := omega) only [Int.reduceToNat, gq_lit, gq_neg, gq_add, gq_sub, gq_mul, gq_nat, Int.toNat_natCast, gq_tadd, gq_tmul, gq_lte, gq_br, gq_bd, gq_ck, Bool.false_eq_true, gq_leT, gq_leF, gq_ltT, gq_ltF, gq_eqT, gq_eqF, if_true, if_false, et, gq_sub, gq_Llit]
      rw [if_neg (by rw [gq_Lle (by omega)]; omega)]
    · have k3 : ¬ E ≤ ((m - 1 : Nat) : Int) := fun c => g (k1.mpr (k2.mp c))
      rw [← gz_lastL ok hL hφ hc ht tb hx h hE hE2 d f (m + 1) (by omega) (by omega) (by omega) (by omega), L_X0_lastUsed_8.eq_2, hc.1.1, hL]
      simp (disch := omega) only [Int.reduceToNat, gq_lit, gq_neg, gq_add, gq_sub, gq_mul, gq_nat, Int.toNat_natCast, gq_tadd, gq_tmul, gq_lte, gq_br, gq_bd, gq_ck, Bool.false_eq_true, gq_leT, gq_leF, gq_ltT, gq_ltF, gq_eqT, gq_eqF, if_true, if_false, et, gq_sub, gq_Llit]
      rw [if_pos (by rw [gq_Lle (by omega)]; omega)]
      rfl
theorem gq_e_early {μ : gx_M} (hI : gq_inv μ) (p1 p2 p3 : Int32) : gq_st (f_X11_early p1 p2 p3) (f_X12_early p1 p2 p3) μ := by
  obtain ⟨z, hz, rfl⟩ := gq_ex p1
  obtain ⟨p, hp, rfl⟩ := gq_ex p2
  obtain ⟨m, hm, rfl⟩ := gq_ex p3
  refine gq_two hI fun ν0 hν => ?_
  rcases gq_op hI hz with ⟨h1, h2⟩ | ⟨s, w, hs, rfl, ok, hc, h1, h2⟩
  · refine ⟨gq_I (-1), μ, _, ?_, ?_, gq_sm_rf, gq_sm_uI (x := gq_I 0) (k := 0) gq_Pm206 gq_sm_rf⟩
    · unfold f_X11_early
      rw [gq_hasPS0 h1]
      rfl
    · unfold f_X12_early
      rw [gq_lte, gq_lit, h2 ν0 hν]
      rfl
  · obtain ⟨μ2, a1, a2, a3⟩ := h2 ν0 hν
    have o0 := ok.1
    have o1 := ok.2.1
    have o2 := ok.2.2.1
    obtain ⟨T, hT2⟩ : ∃ T : Nat, w 2 = T := ⟨(w 2).toNat, by omega⟩
    obtain ⟨L, hL⟩ : ∃ L : Nat, w 0 = L := ⟨(w 0).toNat, by omega⟩
    have p2 := ga_2T T (by omega)
    have hP := gq_hasPS1 hs ok hT2 hp hm hc h1
    have iP := gq_isP hp ok a2
    have iS := gq_isSt hm ok hT2 a2
    by_cases g : (0 ≤ p ∧ p < w 1) ∧ 0 ≤ m ∧ m < (2 ^ T : Nat)
    · obtain ⟨x, rfl⟩ : ∃ x : Nat, m = x := ⟨m.toNat, by omega⟩
      have hx : x < 2 ^ T := by omega
      obtain ⟨y, y1, y2, y3⟩ := gq_his ok hc a2 (p := p) (by omega)
      obtain ⟨φ, hφ⟩ := gz_al_ex w y
      have cx := gz_ctx (O := gk_O w) (p := p) ok hφ
      obtain ⟨μ3, b1, b2, b3, b4⟩ := gc_weigh (a := 8 + 16 * s) (p := p) (x := y) (φ := φ) ok hc (by omega) (fun b hb m _ => (hφ b m).trans ⟨fun h => h.2, fun h => ⟨hb, h⟩⟩)
      have hc3 := gq_cS_1 hc b4
      obtain ⟨μ4, t, c1, c2, c3, c4, c5, c6⟩ := gc_arrange (a := 8 + 16 * s) (x := x) ok (gc_ctx_of ok cx) hT2 hL (by omega) hc3 b2
      have hc4 := gq_cS_1 hc3 c6
      have fr : gq_sm gq_Pc μ μ4 := gb_Pc (fun y j _ => by rw [c6, b4]) (fun y h1 h2 => (c5 y h2).trans (b3 y h1))
      have tt : ∀ m, m ≤ L → (t (m * 64 + x) < 1152921504606846976 ↔ ∃ S, ga_arr φ (ga_l w) x 0 m S) := fun m hm => by
        have mV := c4 m x hm hx fun c _ h => h
        refine ⟨fun h => ?_, fun ⟨S, h⟩ => ?_⟩
        · obtain ⟨S, s1, _⟩ := mV.1 h
          exact ⟨S, s1⟩
        · have k1 := mV.2 S h
          have k2 := ga_v_b (g := ga_W φ (gk_c w (gk_O w) p)) (B := 8796093022208) (by omega) h fun b m _ hb => ((gc_ctx_of ok cx).1 b m hb).2
          omega
      obtain ⟨ν', E, d1, d2, d3, d4⟩ := gz_tabL (s := s) ok (by omega) hT2 hL hφ (k := fun (μ51 : gx_M) => gx_ck (gx_ix (gq_I x) 2624 = true) (if (μ51.1 226 (gq_I x).toNatClampNeg) < (gq_I 1000000) then some ((μ51.1 226 (gq_I x).toNatClampNeg), μ51) else some (gq_I (-1), μ51))) (L + 1) 4000 μ2 (fun _ _ => 0) (by omega) (by omega) (gq_hd_lay a2) (fun m' z h1 h2 => absurd h2 (by omega))
      obtain ⟨e1, e2, e3⟩ := d2 0 x (Nat.zero_le _) hx
      rw [show 64 * 0 + x = x by omega] at e1
      have fm : gq_sm gq_Pm ν0 ν' := gq_sm_tr a3 (ge_Pm (fun y j _ h2 _ => d3 y j h2) d4)
      refine ⟨gq_I (gb_n (E 0 x)), μ4, ν', ?_, ?_, fr, fm⟩
      · have el : f_X0_lastUsed (8 + 16 * s) (gq_I x) μ4 = some (gq_I (gb_n (E 0 x))) := by
          unfold f_X0_lastUsed
          by_cases x0 : x = 0
          · have k1 := (e3 0 (by omega)).mpr ⟨fun _ => 0, by rw [x0]; exact ga_arr_0⟩
            have k2 : E 0 x = 0 := by omega
            rw [if_pos (by rw [x0]; rfl), k2]
            rfl
          · rw [if_neg (by rw [gq_lit, gq_eq (by omega)]; omega)]
            simp only [gq_lit, gq_neg]
            exact gz_lastL ok hL hφ hc4 c2 c3 (by omega) tt e2 e3 L 4000 1 (by omega) (by omega) (by omega) (by omega)
        unfold f_X11_early
        rw [hP, decide_eq_true g, gq_br, if_pos rfl, gq_ck (by omega), gq_lte, gq_nat (by omega), Int.toNat_natCast, y1, gq_br, b1, gq_bd, c1, gq_bd, el, gq_br]
      · unfold f_X12_early
        rw [gq_lte, gq_lit, a1, gq_bd, if_pos rfl, if_pos (by rw [iP]; exact g.1), if_pos (by rw [iS]; exact g.2), y2, gq_br, gq_lte, a2.1.2.1, hL, show (L : Int) = ((L + 1 : Nat) : Int) - 1 by omega]
        simp only [gq_lit, gq_neg]
        refine d1.trans ?_
        rw [gq_ck (by omega), gq_nat (by omega), Int.toNat_natCast, e1]
        unfold gb_n
        by_cases g3 : E 0 x < 1000000
        · rw [if_pos (c := gq_I (E 0 x) < gq_I 1000000) (by rw [gq_lt (by omega)]; exact g3), if_pos g3]
        · rw [if_neg (c := gq_I (E 0 x) < gq_I 1000000) (by rw [gq_lt (by omega)]; exact g3), if_neg g3]
    · refine ⟨gq_I (-1), μ, μ2, ?_, ?_, gq_sm_rf, a3⟩
      · unfold f_X11_early
        rw [hP, decide_eq_false g]
        rfl
      · unfold f_X12_early
        rw [gq_lte, gq_lit, a1, gq_bd, if_pos rfl]
        by_cases g2 : 0 ≤ p ∧ p < w 1
        · rw [if_pos (by rw [iP]; exact g2), if_neg (by rw [iS]; exact fun c => g ⟨g2, c⟩)]
          rfl
        · rw [if_neg (by rw [iP]; exact g2)]
          rfl
