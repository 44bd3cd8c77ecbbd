/-! gift: the call -/
theorem gj_firstL {μ : gx_M} {a L : Nat} {w : Nat → Int} {p : Int} (ok : gq_okS w) (hL : w 0 = L) (hc : gq_cS μ a w) (hp : -1 ≤ p ∧ p ≤ 4) : ∀ (d f i : Nat), d < f → i + d = L → (∀ j, j < i → gk_O w j = p) → ∃ F : Int, L_X0_firstNotHis_2 μ a (gq_I p) (some (gq_I (-1))) f (gq_I i) = some (gq_I F) ∧ ((F = -1 ∧ ∀ m, m < L → gk_O w m = p) ∨ ∃ n : Nat, F = n ∧ n < L ∧ gk_O w n ≠ p ∧ ∀ j, j < n → gk_O w j = p)
  | _, 0, _, hf, _, _ => absurd hf (Nat.not_lt_zero _)
  | 0, f + 1, i, hf, hi, h => by
    have o0 := ok.1
    refine ⟨-1, ?_, Or.inl ⟨rfl, fun m hm => h m (by omega)⟩⟩
    rw [L_X0_firstNotHis_2.eq_2, hc.1.1, hL]
    exact if_pos (by rw [gq_le (by omega)]; omega)
  | d + 1, f + 1, i, hf, hi, h => by
    have o0 := ok.1
    have o1 := ok.2.1
    have c3 := hc.2.2.2.1 i (by omega)
    have o6 := ok.2.2.2.2.2.2 i (by omega)
    by_cases g : w (71 + i) = p
    · obtain ⟨F, e1, e2⟩ := gj_firstL ok hL hc hp d f (i + 1) (by omega) (by omega) fun j hj => by
        by_cases e : j = i
        · rw [e]; exact g
        · exact h j (by omega)
      refine ⟨F, ?_, e2⟩
      rw [← e1, L_X0_firstNotHis_2.eq_2, hc.1.1, hL]
      simp (disch := omega) only [Int.reduceToNat, gq_lit, gq_neg, gq_add, gq_sub, gq_mul, gq_nat, Int.toNat_natCast, gq_tadd, gq_tmul, gq_lte, gq_br, gq_bd, gq_ck, Bool.false_eq_true, gq_leT, gq_leF, gq_ltT, gq_ltF, gq_eqT, gq_eqF, if_true, if_false, c3]
      rfl
    · refine ⟨i, ?_, Or.inr ⟨i, rfl, by omega, g, h⟩⟩
      rw [L_X0_firstNotHis_2.eq_2, hc.1.1, hL]
      simp (disch := omega) only [Int.reduceToNat, gq_lit, gq_neg, gq_add, gq_sub, gq_mul, gq_nat, Int.toNat_natCast, gq_tadd, gq_tmul, gq_lte, gq_br, gq_bd, gq_ck, Bool.false_eq_true, gq_leT, gq_leF, gq_ltT, gq_ltF, gq_eqT, gq_eqF, if_true, if_false, c3]
theorem gj_first {μ : gx_M} {a L : Nat} {w : Nat → Int} {p : Int} (ok : gq_okS w) (hL : w 0 = L) (hc : gq_cS μ a w) (hp : -1 ≤ p ∧ p ≤ 4) : ∃ F : Int, f_X0_firstNotHis a (gq_I p) μ = some (gq_I F) ∧ ((F = -1 ∧ ∀ m, m < L → gk_O w m = p) ∨ ∃ n : Nat, F = n ∧ n < L ∧ gk_O w n ≠ p ∧ ∀ j, j < n → gk_O w j = p) := by
  have o0 := ok.1
  obtain ⟨F, e1, e2⟩ := gj_firstL ok hL hc hp L 4000 0 (by omega) (by omega) fun j hj => absurd hj (Nat.not_lt_zero _)
  refine ⟨F, ?_, e2⟩
  unfold f_X0_firstNotHis
  simp only [gq_lit, gq_neg]
  exact e1
def gj_J (a1 : Nat) (p2 p3 : Int32) (j0_6 : Int32) (μ7 : gx_M) : Option (Unit × gx_M) := gx_lt (gx_uI μ7 75 6 j0_6) (fun (μ8 : gx_M) => if (μ8.1 75 6) = (-1) then gx_lt (gx_uI μ8 75 5 (-1)) (fun (μ17 : gx_M) => some ((), μ17)) else gx_bd (f_X0_arrangeGiven a1 p2 p3 μ8) (fun (r10 : Unit) (μ11 : gx_M) => gx_ck (gx_ix (((μ11.1 a1 0) * 64) + p3) 2624 = true) (gx_lt (μ11.2 78 (((μ11.1 a1 0) * 64) + p3).toNatClampNeg) (fun (x13 : Int64) => if ((((μ11.1 75 6) : Int32).toInt64) <<< ((6 : Int32).toInt64 &&& 63)) ≤ x13 then some ((), μ11) else gx_lt (gx_uI μ11 75 5 (((x13 : Int64).toInt32) &&& 63)) (fun (μ15 : gx_M) => gx_lt (gx_uI μ15 75 6 (((x13 >>> ((6 : Int32).toInt64 &&& 63)) : Int64).toInt32)) (fun (μ16 : gx_M) => some ((), μ16)))))))
theorem gj_give0 (a1 : Nat) (p2 p3 : Int32) (μ : gx_M) : f_X0_give a1 p2 p3 μ = gx_br (f_X0_firstNotHis a1 p2 μ) (fun (r1 : Int32) => gx_lt (gx_uI μ 75 5 r1) (fun (μ2 : gx_M) => if (μ2.1 75 5) = (-1) then gj_J a1 p2 p3 (-1) μ2 else gx_br (f_X0_costOfSet a1 p3 μ2) (fun (r5 : Int32) => gj_J a1 p2 p3 r5 μ2))) := rfl
theorem gj_no {a1 : Nat} {p2 p3 : Int32} {μ : gx_M} : ∃ μ', gj_J a1 p2 p3 (gq_I (-1)) μ = some ((), μ') ∧ μ'.1 75 5 = gq_I (-1) ∧ μ'.1 75 6 = gq_I (-1) ∧ (∀ y j, y ≠ 75 → μ'.1 y j = μ.1 y j) ∧ μ'.2 = μ.2 := by
  refine ⟨gx_uI (gx_uI μ 75 6 (gq_I (-1))) 75 5 (gq_I (-1)), ?_, rfl, rfl, fun y j hy => ?_, rfl⟩
  · unfold gj_J
    rw [gq_lte, if_pos (by rfl)]
    rfl
  · rw [gq_uI1, if_neg fun c => hy c.1, gq_uI1, if_neg fun c => hy c.1]
theorem gj_give {μ : gx_M} {a x T L : Nat} {w : Nat → Int} {p : Int} {φ : Nat → Nat → Bool} {Y : Nat → Int} {C : Int} {u : Nat → Int} (ok : gq_okS w) (ha : a < 50) (hT2 : w 2 = T) (hL : w 0 = L) (cx : gd_ctx w φ (gk_c w (gk_O w) p)) (hp : 0 ≤ p ∧ p ≤ 3) (hx : x < 2 ^ T) (hC : 0 ≤ C ∧ C ≤ 1000000) (mC : ga_min φ (ga_l w) (gk_c w (gk_O w) p) x 0 L 1000000 C) (hY : ∀ m, m < L → gk_O w m ≠ p → (0 ≤ Y m ∧ Y m ≤ 1000000) ∧ ga_min φ (ga_l w) (gk_c w (gj_O (gk_O w) p m) p) x 0 L 1000000 (Y m)) (hu : gg_U w p φ u) (mU : ∀ m d, m ≤ L → d < 2 ^ T → ga_sub d x → ga_min φ (ga_l w) (ga_W φ (gk_c w (gk_O w) p)) d 0 m 1152921504606846976 (u (m * 64 + d))) (hX : gg_X μ a w p φ u) : ∃ (A B : Int) (μ' : gx_M), f_X0_give a (gq_I p) (gq_I x) μ = some ((), μ') ∧ gj_G (gk_O w) p Y L A B ∧ μ'.1 75 5 = gq_I A ∧ μ'.1 75 6 = gq_I (if A = -1 then -1 else B) ∧ (∀ y j, y ≠ 75 → μ'.1 y j = μ.1 y j) ∧ (∀ y, y ≠ 78 → μ'.2 y = μ.2 y) := by
  have o0 := ok.1
  have o2 := ok.2.2.1
  have p2 := ga_2T T (by omega)
  obtain ⟨F, e1, hF⟩ := gj_first ok hL hX.1 (p := p) (by omega)
  have Fb : -1 ≤ F ∧ F ≤ 39 := by
    rcases hF with ⟨h, _⟩ | ⟨n, h, h2, _⟩ <;> omega
  have hX2 : gg_X (gx_uI μ 75 5 (gq_I F)) a w p φ u := ⟨gq_cS_sm hX.1 fun i hi => funext fun j => by rw [gq_uI1, if_neg (by omega)], hX.2.1, hX.2.2⟩
  have hV0 := hu.1 (L * 64 + x) (by omega)
  have ec := gb_cost (C := C) ok hL hX2.1 cx hX2.2.2 (x := x) (by omega) hV0 hC (mU L x (Nat.le_refl _) hx fun c _ h => h) mC
  have fr2 : ∀ y j, y ≠ 75 → (gx_uI μ 75 5 (gq_I F)).1 y j = μ.1 y j := fun y j hy => by rw [gq_uI1, if_neg fun c => hy c.1]
  have base := gj_give0 a (gq_I p) (gq_I x) μ
  have eF : (gx_uI μ 75 5 (gq_I F)).1 75 5 = gq_I F := rfl
  rw [e1, gq_br, gq_lte, eF] at base
  have none : f_X0_give a (gq_I p) (gq_I x) μ = gj_J a (gq_I p) (gq_I x) (gq_I (-1)) (gx_uI μ 75 5 (gq_I F)) → gj_G (gk_O w) p Y L (-1) 1000000 → ∃ (A B : Int) (μ' : gx_M), f_X0_give a (gq_I p) (gq_I x) μ = some ((), μ') ∧ gj_G (gk_O w) p Y L A B ∧ μ'.1 75 5 = gq_I A ∧ μ'.1 75 6 = gq_I (if A = -1 then -1 else B) ∧ (∀ y j, y ≠ 75 → μ'.1 y j = μ.1 y j) ∧ (∀ y, y ≠ 78 → μ'.2 y = μ.2 y) := fun h1 h2 => by
    obtain ⟨μ', n1, n2, n3, n4, n5⟩ := gj_no (a1 := a) (p2 := gq_I p) (p3 := gq_I x) (μ := gx_uI μ 75 5 (gq_I F))
    exact ⟨-1, 1000000, μ', h1.trans n1, h2, n2, n3, fun y j hy => (n4 y j hy).trans (fr2 y j hy), fun y _ => by rw [n5]; rfl⟩
  have cls := fun V hV V1 V2 => gj_cls (V := V) (F := F) ok hL cx (x := x) (by omega) hC mC hY hF hV V1 V2
  by_cases g1 : F = -1
  · rw [if_pos (by rw [g1]; rfl)] at base
    refine none base ?_
    rcases hF with ⟨_, h⟩ | ⟨n, h, _⟩
    · exact Or.inl ⟨rfl, rfl, fun j h1 h2 => absurd (h j h1) h2⟩
    · omega
  · rw [if_neg (by rw [gq_lit, gq_neg, gq_eq (by omega)]; exact g1), ec, gq_br] at base
    by_cases g2 : C = 1000000
    · have en : gb_n C = -1 := if_neg (by omega)
      rw [en] at base
      refine none base ?_
      refine Or.inl ⟨rfl, rfl, fun j h1 h2 => ?_⟩
      obtain ⟨Yb, Ym⟩ := hY j h1 h2
      by_cases g : Y j < 1000000
      · obtain ⟨S, s1, s2⟩ := Ym.1 g
        have k1 := mC.2 S s1
        have k2 := ga_v_b (g := gk_c w (gk_O w) p) (B := 81) (by omega) s1 fun b m _ hb => (cx b m hb).2
        omega
      · omega
    · have en : gb_n C = C := if_pos (by omega)
      rw [en] at base
      have hX3 : gg_X (gx_uI (gx_uI μ 75 5 (gq_I F)) 75 6 (gq_I C)) a w p φ u := ⟨gq_cS_sm hX2.1 fun i hi => funext fun j => by rw [gq_uI1, if_neg (by omega)], hX2.2.1, hX2.2.2⟩
      obtain ⟨μ4, t, t1, t2, t3, t4, t5, t6⟩ := gg_table ok cx (by omega) hT2 hL (by omega) hu mU hX3 hx
      obtain ⟨V, hV⟩ : ∃ V, V = t (L * 64 + x) := ⟨_, rfl⟩
      have tb := t3.1 (L * 64 + x) (by omega)
      have et := t2 (L * 64 + x) (by omega)
      rw [← hV] at tb et
      have G := cls V tb (fun h => by
        obtain ⟨S, b, n, s⟩ := t3.2 L x (by omega) (by omega) (by rw [← hV]; exact h)
        rw [← hV] at s
        exact ⟨S, b, n, s⟩) (fun S b n h1 h2 h3 h4 h5 h6 => by
        rw [hV]
        exact t4 S b n h1 h2 h3 h4 h5 h6)
      have hn : ¬ (F = -1 ∨ C = 1000000) := fun c => c.elim g1 g2
      rw [if_neg hn, if_neg hn] at G
      have e6 : (gx_uI (gx_uI μ 75 5 (gq_I F)) 75 6 (gq_I C)).1 75 6 = gq_I C := rfl
      have e46 : μ4.1 75 6 = gq_I C := by rw [t6]; rfl
      have e45 : μ4.1 75 5 = gq_I F := by rw [t6]; rfl
      have e40 : μ4.1 a 0 = gq_I L := by rw [t6, hX3.1.1.1, hL]
      have fr4 : ∀ y j, y ≠ 75 → μ4.1 y j = μ.1 y j := fun y j hy => by rw [t6, gq_uI1, if_neg fun c => hy c.1, gq_uI1, if_neg fun c => hy c.1]
      have fr42 : ∀ y, y ≠ 78 → μ4.2 y = μ.2 y := fun y hy => t5 y hy
      have ex : (gq_I L * gq_I 64) + gq_I x = gq_I (L * 64 + x : Nat) := by rw [gq_mul, gq_add]; rfl
      have base2 : f_X0_give a (gq_I p) (gq_I x) μ = if gq_L (C * 64) ≤ gq_L V then some ((), μ4) else some ((), gx_uI (gx_uI μ4 75 5 (gq_I (V % 64))) 75 6 (gq_I (V / 64))) := by
        rw [base]
        unfold gj_J
        rw [gq_lte, e6, if_neg (by rw [gq_lit, gq_neg, gq_eq (by omega)]; omega), t1, gq_bd, e40]
        simp only [gq_lit]
        rw [ex, gq_ck (by omega), gq_nat (by omega), Int.toNat_natCast, et, gq_lte, e46, gq_toL (a := C) (by omega)]
        rw [show ((gq_I 6).toInt64 &&& 63) = (gq_L 6 &&& gq_L 63) by decide +kernel, gm_shl6 (by omega)]
        simp only [gq_lte]
        rw [gm_shr6 (by omega), gq_toI, gq_toI, gm_and63 tb.1]
      by_cases gV : C * 64 ≤ V
      · rw [if_pos gV, if_pos gV] at G
        rw [if_pos (by rw [gq_Lle (by omega)]; exact gV)] at base2
        exact ⟨F, C, μ4, base2, G, e45, by rw [if_neg g1]; exact e46, fr4, fr42⟩
      · rw [if_neg gV, if_neg gV] at G
        rw [if_neg (by rw [gq_Lle (by omega)]; exact gV)] at base2
        refine ⟨V % 64, V / 64, _, base2, G, rfl, by rw [if_neg (by omega)]; rfl, fun y j hy => ?_, fr42⟩
        rw [gq_uI1, if_neg fun c => hy c.1, gq_uI1, if_neg fun c => hy c.1]
        exact fr4 y j hy
theorem gj_Y {ν : gx_M} {s L T x : Nat} {w O : Nat → Int} {p : Int} {φ : Nat → Nat → Bool} (ok : gq_okS w) (hs : s < 8) (hT2 : w 2 = T) (hL : w 0 = L) (hp : 0 ≤ p ∧ p ≤ 3) (hO : ∀ m, m < 40 → -1 ≤ O m ∧ O m ≤ 4) (hφ : gc_al w (fun _ => -1) (-1) φ) (hx : x < 2 ^ T) (hK : gc_K ν s w O (fun _ => -1) (-1)) : ∃ Y : Nat → Int, ∀ m, m < L → O m ≠ p → (0 ≤ Y m ∧ Y m ≤ 1000000) ∧ ga_min φ (ga_l w) (gk_c w (gj_O O p m) p) x 0 L 1000000 (Y m) := by
  have one : ∀ m, ∃ y : Int, (0 ≤ y ∧ y ≤ 1000000) ∧ ga_min φ (ga_l w) (gk_c w (gj_O O p m) p) x 0 L 1000000 y := fun i => by
    have K1 : gc_K (gx_uI ν 220 i (gq_I p)) s w (gj_O O p i) (fun _ => -1) (-1) := by
      obtain ⟨⟨⟨h1, h2, h3, h4⟩, h5⟩, h6, h7, h8⟩ := hK
      refine ⟨⟨⟨h1, h2, h3, h4⟩, gq_mS_w h5 rfl⟩, fun m hm => ⟨(h6 m hm).1, ?_⟩, h7, h8⟩
      rw [gq_uI1]
      unfold gj_O
      by_cases e : m = i
      · rw [if_pos ⟨rfl, e⟩, if_pos e]
      · rw [if_neg fun c => e c.2, if_neg e]
        exact (h6 m hm).2
    have okK : gc_okK (gj_O O p i) (fun _ => -1) (-1) := ⟨fun m hm => by
      have := hO m hm
      unfold gj_O
      split <;> omega, fun _ _ => ⟨Int.le_refl _, by show (-1 : Int) ≤ 39; omega⟩, by omega, by omega⟩
    obtain ⟨ν2, C', c1, c2, c3, c4, c5⟩ := gd_costOf (p := p) ok hs okK hφ hT2 hL (by omega) K1 hx
    exact ⟨C', c2, c3⟩
  exact ⟨fun m => (one m).choose, fun m _ _ => (one m).choose_spec⟩
theorem gq_e_gift {μ : gx_M} (hI : gq_inv μ) (p1 p2 p3 : Int32) (b : Bool) : gq_st (f_X11_gift p1 p2 p3 b) (f_X12_gift p1 p2 p3 b) μ := by
  obtain ⟨z, hz, rfl⟩ := gq_ex p1
  obtain ⟨p, hp, rfl⟩ := gq_ex p2
  obtain ⟨m, hm, rfl⟩ := gq_ex p3
  refine gq_two hI fun ν0 hν => ?_
  rcases gq_op hI hz with ⟨h1, h2⟩ | ⟨s, w, hs, rfl, ok, hc, h1, h2⟩
  · refine ⟨gq_I (-1), μ, _, ?_, ?_, gq_sm_rf, gq_sm_uI (x := gq_I 0) (k := 0) gq_Pm206 gq_sm_rf⟩
    · unfold f_X11_gift
      rw [gq_hasPS0 h1]
      rfl
    · unfold f_X12_gift
      rw [gq_lte, gq_lit, h2 ν0 hν]
      rfl
  · obtain ⟨μ2, a1, a2, a3⟩ := h2 ν0 hν
    have o0 := ok.1
    have o1 := ok.2.1
    have o2 := ok.2.2.1
    obtain ⟨T, hT2⟩ : ∃ T : Nat, w 2 = T := ⟨(w 2).toNat, by omega⟩
    obtain ⟨L, hL⟩ : ∃ L : Nat, w 0 = L := ⟨(w 0).toNat, by omega⟩
    have p2 := ga_2T T (by omega)
    have hP := gq_hasPS1 hs ok hT2 hp hm hc h1
    have iP := gq_isP hp ok a2
    have iS := gq_isSt hm ok hT2 a2
    by_cases g : (0 ≤ p ∧ p < w 1) ∧ 0 ≤ m ∧ m < (2 ^ T : Nat)
    · obtain ⟨x, rfl⟩ : ∃ x : Nat, m = x := ⟨m.toNat, by omega⟩
      have hx : x < 2 ^ T := by omega
      obtain ⟨φ, hφ⟩ := gc_al_ex w (fun _ => -1) (-1)
      have K := gc_K_hd a2
      have cx := gd_ctx_of (O := gk_O w) (p := p) ok hφ
      obtain ⟨μ3, b1, b2, b3, b4⟩ := gc_weigh (a := 8 + 16 * s) (p := p) ok hc (by omega) (gb_all ok hφ)
      have hc3 := gq_cS_1 hc b4
      obtain ⟨μ4, u, c1, c2, c3, c4, c5, c6, c7⟩ := gc_arrS (a := 8 + 16 * s) (x := x) ok (gc_ctx_of ok cx) hT2 hL (by omega) hc3 b2
      have hc4 := gq_cS_1 hc3 c6
      obtain ⟨ν1, C, d1, d2, d3, d4, d5⟩ := gd_costOf (p := p) ok (by omega) (gc_okK_hd ok) hφ hT2 hL (by omega) K hx
      obtain ⟨Y, hY⟩ := gj_Y (p := p) ok (by omega) hT2 hL (by omega) (gc_okK_hd ok).1 hφ hx K
      obtain ⟨A, B, μ5, e1, e2, e3, e4, e5, e6⟩ := gj_give (μ := μ4) (a := 8 + 16 * s) ok (by omega) hT2 hL cx (by omega) hx d2 d3 hY ⟨c3, c7⟩ c4 ⟨hc4, fun b j g1 g2 => by rw [c5 76 (by omega)]; exact b2 b j g1 g2, c2⟩
      obtain ⟨A', B', ν', f1, f2, f3, f4⟩ := gj_gL ok (by omega) hT2 hL (by omega) (gc_okK_hd ok).1 hφ hx hY (k := fun (x5_32 : Int32) (x6_33 : Int32) (μ34 : gx_M) => if x5_32 = gq_I (-1) then some (x5_32, μ34) else if b = true then some (x6_33, μ34) else some (x5_32, μ34)) L 4000 0 (-1) 1000000 μ2 (by omega) (by omega) K (Or.inl ⟨rfl, rfl, fun j hj => absurd hj (Nat.not_lt_zero _)⟩)
      obtain ⟨q1, q2⟩ := gj_G_u e2 f2
      subst q1
      subst q2
      have Ab : -1 ≤ A ∧ A < 40 := by
        rcases e2 with ⟨k, _⟩ | ⟨n, k, k2, _⟩ <;> omega
      refine ⟨if b = true then gq_I (if A = -1 then -1 else B) else gq_I A, μ5, ν', ?_, ?_, ?_, ?_⟩
      · unfold f_X11_gift
        rw [hP, decide_eq_true g, gq_br, if_pos rfl, gq_ck (by omega), gq_lte, gq_nat (by omega), Int.toNat_natCast, b1, gq_bd, c1, gq_bd, e1, gq_bd, e3, e4]
        split <;> rfl
      · unfold f_X12_gift
        rw [gq_lte, gq_lit, a1, gq_bd, if_pos rfl, if_pos (by rw [iP]; exact g.1), if_pos (by rw [iS]; exact g.2)]
        simp only [gq_lit, gq_neg]
        refine f1.trans ?_
        by_cases gA : A = -1
        · rw [if_pos (by rw [gA]), gA]
          cases b <;> rfl
        · rw [if_neg (by rw [gq_eq (by omega)]; exact gA), if_neg gA]
          cases b <;> rfl
      · intro y hy
        unfold gq_Pc at hy
        refine ⟨funext fun j => ?_, ?_⟩
        · rw [e5 y j (by omega), c6, b4]
        · rw [e6 y (by omega), c5 y (by omega), b3 y (by omega)]
      · refine gq_sm_tr a3 fun y hy => ?_
        unfold gq_Pm at hy
        exact ⟨funext fun j => f3 y j (by omega) (by omega) (by omega), by rw [f4]⟩
    · refine ⟨gq_I (-1), μ, μ2, ?_, ?_, gq_sm_rf, a3⟩
      · unfold f_X11_gift
        rw [hP, decide_eq_false g]
        rfl
      · unfold f_X12_gift
        rw [gq_lte, gq_lit, a1, gq_bd, if_pos rfl]
        by_cases g2 : 0 ≤ p ∧ p < w 1
        · rw [if_pos (by rw [iP]; exact g2), if_neg (by rw [iS]; exact fun c => g ⟨g2, c⟩)]
          rfl
        · rw [if_neg (by rw [iP]; exact g2)]
          rfl
