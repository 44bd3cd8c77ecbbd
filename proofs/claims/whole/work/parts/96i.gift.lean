/-! gift: one minute given, costs -/
/-- owners, with one minute given -/
def gj_O (O : Nat → Int) (p : Int) (m : Nat) : Nat → Int := fun k => if k = m then p else O k
theorem gj_s {f : Nat → Int} {a m : Nat} : ∀ {n : Nat}, gk_s (fun k => if k = m then 0 else f k) a n = gk_s f a n - (if a ≤ m ∧ m < a + n then f m else 0)
  | 0 => by
    rw [if_neg (by omega)]
    rfl
  | n + 1 => by
    show gk_s (fun k => if k = m then 0 else f k) a n + (if a + n = m then 0 else f (a + n)) = gk_s f a n + f (a + n) - _
    rw [gj_s]
    by_cases e : a + n = m
    · rw [if_pos e, if_neg (by omega), if_pos (by omega), e]
      omega
    · rw [if_neg e]
      by_cases g : a ≤ m ∧ m < a + n
      · rw [if_pos g, if_pos (by omega)]; omega
      · rw [if_neg g, if_neg (by omega)]; omega
theorem gj_c {w O : Nat → Int} {p : Int} {b n m : Nat} (hm : O m ≠ p) : gk_c w (gj_O O p m) p b n = gk_c w O p b n - (if n ≤ m ∧ m < n + ga_l w b then w (31 + m) else 0) := by
  have e1 : gk_c w (gj_O O p m) p b n = gk_s (fun k => if k = m then 0 else gk_f w O p k) n (ga_l w b) := gk_s_ext fun k _ _ => by
    unfold gk_f gj_O
    by_cases e : k = m
    · rw [if_pos e, if_pos rfl, if_pos e]
    · rw [if_neg e, if_neg e]
  have e2 : gk_f w O p m = w (31 + m) := if_neg hm
  rw [e1, gj_s, e2]
  rfl
/-- a minute is used -/
def gj_cv (w : Nat → Int) (S : Nat → Nat) (x m : Nat) : Prop := ∃ b, b < 6 ∧ ga_h x b = true ∧ S b ≤ m ∧ m < S b + ga_l w b
theorem gj_vn {w O : Nat → Int} {p : Int} {x m : Nat} {S : Nat → Nat} (hm : O m ≠ p) (h : ¬ gj_cv w S x m) : ga_v (gk_c w (gj_O O p m) p) x S = ga_v (gk_c w O p) x S :=
  ga_sum_ext fun b hb => ⟨rfl, fun hx => by
    show gk_c w (gj_O O p m) p b (S b) = gk_c w O p b (S b)
    rw [gj_c hm, if_neg fun c => h ⟨b, hb, hx, c⟩]
    omega⟩
theorem gj_vy {w O : Nat → Int} {p : Int} {φ : Nat → Nat → Bool} {x m L b : Nat} {S : Nat → Nat} (hm : O m ≠ p) (hx64 : x < 64) (hS : ga_arr φ (ga_l w) x 0 L S) (hb : b < 6) (hx : ga_h x b = true) (h1 : S b ≤ m) (h2 : m < S b + ga_l w b) : ga_v (gk_c w (gj_O O p m) p) x S = ga_v (gk_c w O p) x S - w (31 + m) := by
  obtain ⟨i1, i2⟩ := ga_rm_ins x hx64 b hb hx
  have no : ¬ gj_cv w S (x - 2 ^ b) m := fun ⟨c, c1, c2, c3, c4⟩ => by
    obtain ⟨x1, x2⟩ := ga_ins_x i1 c1 c2
    have := hS.2 c b c1 hb x1 hx x2
    omega
  rw [ga_v_ins i1 S, ga_v_ins i1 S, gj_vn hm no, gj_c hm, if_pos ⟨h1, h2⟩]
  omega
/-- the best gift: A the minute, B the cost -/
def gj_G (O : Nat → Int) (p : Int) (Y : Nat → Int) (i : Nat) (A B : Int) : Prop := (A = -1 ∧ B = 1000000 ∧ ∀ j, j < i → O j ≠ p → Y j = 1000000) ∨ ∃ n : Nat, A = n ∧ n < i ∧ O n ≠ p ∧ B = Y n ∧ Y n < 1000000 ∧ ∀ j, j < i → O j ≠ p → Y n ≤ Y j ∧ (Y j = Y n → n ≤ j)
theorem gj_G_u {O : Nat → Int} {p : Int} {Y : Nat → Int} {i : Nat} {A B A' B' : Int} (h : gj_G O p Y i A B) (h' : gj_G O p Y i A' B') : A = A' ∧ B = B' := by
  rcases h with ⟨a1, a2, a3⟩ | ⟨n, a1, a2, a3, a4, a5, a6⟩
  · rcases h' with ⟨b1, b2, b3⟩ | ⟨m, b1, b2, b3, b4, b5, b6⟩
    · omega
    · have := a3 m b2 b3
      omega
  · rcases h' with ⟨b1, b2, b3⟩ | ⟨m, b1, b2, b3, b4, b5, b6⟩
    · have := b3 n a2 a3
      omega
    · have k1 := a6 m b2 b3
      have k2 := b6 n a2 a3
      have k3 : Y n = Y m := by omega
      have k4 := k1.2 k3.symm
      have k5 := k2.2 k3
      omega
theorem ga_min_u {A : Nat → Nat → Bool} {l : Nat → Nat} {g : Nat → Nat → Int} {x lo hi : Nat} {F v v' : Int} (h : ga_min A l g x lo hi F v) (h' : ga_min A l g x lo hi F v') (h1 : v ≤ F) (h2 : v' ≤ F) : v = v' := by
  by_cases g1 : v < F
  · obtain ⟨S, s1, s2⟩ := h.1 g1
    have k1 := h'.2 S s1
    obtain ⟨S', t1, t2⟩ := h'.1 (by omega)
    have k2 := h.2 S' t1
    omega
  · by_cases g2 : v' < F
    · obtain ⟨S', t1, t2⟩ := h'.1 g2
      have k2 := h.2 S' t1
      omega
    · omega
/-- the check goes through the minutes -/
theorem gj_gL {s L T x : Nat} {w O : Nat → Int} {p : Int} {φ : Nat → Nat → Bool} {Y : Nat → Int} (ok : gq_okS w) (hs : s < 8) (hT2 : w 2 = T) (hL : w 0 = L) (hp : 0 ≤ p ∧ p ≤ 3) (hO : ∀ m, m < 40 → -1 ≤ O m ∧ O m ≤ 4) (hφ : gc_al w (fun _ => -1) (-1) φ) (hx : x < 2 ^ T) (hY : ∀ m, m < L → O m ≠ p → (0 ≤ Y m ∧ Y m ≤ 1000000) ∧ ga_min φ (ga_l w) (gk_c w (gj_O O p m) p) x 0 L 1000000 (Y m)) {k : Int32 → Int32 → gx_M → Option (Int32 × gx_M)} : ∀ (d f i : Nat) (A B : Int) (ν : gx_M), d < f → i + d = L → gc_K ν s w O (fun _ => -1) (-1) → gj_G O p Y i A B → ∃ A' B' ν', L_X12_gift_42 (gq_I p) (gq_I x) k f (gq_I A) (gq_I B) (gq_I i) ν = k (gq_I A') (gq_I B') ν' ∧ gj_G O p Y L A' B' ∧ (∀ y j, y ≠ 220 → y ≠ 226 → y ≠ 227 → ν'.1 y j = ν.1 y j) ∧ ν'.2 = ν.2
  | _, 0, _, _, _, _, hf, _, _, _ => absurd hf (Nat.not_lt_zero _)
  | 0, f + 1, i, A, B, ν, hf, hi, hK, hG => by
    have o0 := ok.1
    refine ⟨A, B, ν, ?_, ?_, fun _ _ _ _ _ => rfl, rfl⟩
    · rw [L_X12_gift_42.eq_2, hK.1.1.2.1, hL]
      exact if_pos (by rw [gq_le (by omega)]; omega)
    · rw [show L = i by omega]
      exact hG
  | d + 1, f + 1, i, A, B, ν, hf, hi, hK, hG => by
    have o0 := ok.1
    have o2 := ok.2.2.1
    have eO := (hK.2.1 i (by omega)).2
    have oO := hO i (by omega)
    have Bb : 0 ≤ B ∧ B ≤ 1000000 := by
      rcases hG with ⟨_, b, _⟩ | ⟨n, _, b2, b3, b4, b5, _⟩
      · omega
      · have := (hY n (by omega) b3).1
        omega
    by_cases g1 : O i = p
    · obtain ⟨A', B', ν', e1, e2, e3, e4⟩ := gj_gL ok hs hT2 hL hp hO hφ hx hY (k := k) d f (i + 1) A B ν (by omega) (by omega) hK (by
        rcases hG with ⟨a1, a2, a3⟩ | ⟨n, a1, a2, a3, a4, a5, a6⟩
        · refine Or.inl ⟨a1, a2, fun j h1 h2 => ?_⟩
          by_cases e : j = i
          · rw [e] at h2; exact absurd g1 h2
          · exact a3 j (by omega) h2
        · refine Or.inr ⟨n, a1, by omega, a3, a4, a5, fun j h1 h2 => ?_⟩
          by_cases e : j = i
          · rw [e] at h2; exact absurd g1 h2
          · exact a6 j (by omega) h2)
      refine ⟨A', B', ν', ?_, e2, e3, e4⟩
      rw [← e1, L_X12_gift_42.eq_2, hK.1.1.2.1, hL]
      simp (disch := omega) only [Int.reduceToNat, gq_lit, gq_neg, gq_add, gq_sub, gq_mul, gq_nat, Int.toNat_natCast, gq_tadd, gq_tmul, gq_lte, gq_br, gq_bd, gq_ck, Bool.false_eq_true, gq_leT, gq_leF, gq_ltT, gq_ltF, gq_eqT, gq_eqF, if_true, if_false, eO]
      rfl
    · obtain ⟨Yb, Ym⟩ := hY i (by omega) g1
      have K1 : gc_K (gx_uI ν 220 i (gq_I p)) s w (gj_O O p i) (fun _ => -1) (-1) := by
        obtain ⟨⟨⟨h1, h2, h3, h4⟩, h5⟩, h6, h7, h8⟩ := hK
        refine ⟨⟨⟨h1, h2, h3, h4⟩, gq_mS_w h5 rfl⟩, fun m hm => ⟨(h6 m hm).1, ?_⟩, h7, h8⟩
        rw [gq_uI1]
        unfold gj_O
        by_cases e : m = i
        · rw [if_pos ⟨rfl, e⟩, if_pos e]
        · rw [if_neg fun c => e c.2, if_neg e]
          exact (h6 m hm).2
      have okK : gc_okK (gj_O O p i) (fun _ => -1) (-1) := ⟨fun m hm => by
        have := hO m hm
        unfold gj_O
        split <;> omega, fun _ _ => ⟨Int.le_refl _, by show (-1 : Int) ≤ 39; omega⟩, by omega, by omega⟩
      obtain ⟨ν2, C', c1, c2, c3, c4, c5⟩ := gd_costOf (p := p) ok hs okK hφ hT2 hL (by omega) K1 hx
      have eC : C' = Y i := ga_min_u c3 Ym c2.2 Yb.2
      rw [eC] at c1
      have K3 : gc_K (gx_uI ν2 220 i (gq_I (O i))) s w O (fun _ => -1) (-1) := by
        have K2 := gc_K_w K1 c4
        obtain ⟨⟨⟨h1, h2, h3, h4⟩, h5⟩, h6, h7, h8⟩ := K2
        refine ⟨⟨⟨h1, h2, h3, h4⟩, gq_mS_w h5 rfl⟩, fun m hm => ⟨(h6 m hm).1, ?_⟩, h7, h8⟩
        rw [gq_uI1]
        by_cases e : m = i
        · rw [if_pos ⟨rfl, e⟩, e]
        · rw [if_neg fun c => e c.2, (h6 m hm).2]
          unfold gj_O
          rw [if_neg e]
      obtain ⟨A1, hA1⟩ : ∃ A1 : Int, A1 = if B ≤ Y i then A else (i : Int) := ⟨_, rfl⟩
      obtain ⟨B1, hB1⟩ : ∃ B1 : Int, B1 = if Y i ≤ B then Y i else B := ⟨_, rfl⟩
      have hG1 : gj_G O p Y (i + 1) A1 B1 := by
        by_cases g2 : B ≤ Y i
        · rw [if_pos g2] at hA1
          have hB2 : B1 = B := by rw [hB1]; split <;> omega
          rw [hA1, hB2]
          rcases hG with ⟨a1, a2, a3⟩ | ⟨n, a1, a2, a3, a4, a5, a6⟩
          · refine Or.inl ⟨a1, a2, fun j h1 h2 => ?_⟩
            by_cases e : j = i
            · rw [e]; omega
            · exact a3 j (by omega) h2
          · refine Or.inr ⟨n, a1, by omega, a3, a4, a5, fun j h1 h2 => ?_⟩
            by_cases e : j = i
            · rw [e]
              exact ⟨by omega, fun _ => by omega⟩
            · exact a6 j (by omega) h2
        · rw [if_neg g2] at hA1
          have hB2 : B1 = Y i := by rw [hB1]; split <;> omega
          rw [hA1, hB2]
          refine Or.inr ⟨i, rfl, by omega, g1, rfl, by omega, fun j h1 h2 => ?_⟩
          by_cases e : j = i
          · rw [e]
            exact ⟨Int.le_refl _, fun _ => Nat.le_refl _⟩
          · rcases hG with ⟨a1, a2, a3⟩ | ⟨n, a1, a2, a3, a4, a5, a6⟩
            · have := a3 j (by omega) h2
              exact ⟨by omega, fun _ => by omega⟩
            · have := (a6 j (by omega) h2).1
              exact ⟨by omega, fun _ => by omega⟩
      obtain ⟨A', B', ν', e1, e2, e3, e4⟩ := gj_gL ok hs hT2 hL hp hO hφ hx hY (k := k) d f (i + 1) A1 B1 (gx_uI ν2 220 i (gq_I (O i))) (by omega) (by omega) K3 hG1
      refine ⟨A', B', ν', ?_, e2, fun y j h1 h2 h3 => ?_, e4.trans c5⟩
      · rw [← e1, L_X12_gift_42.eq_2, hK.1.1.2.1, hL, hA1, hB1]
        simp (disch := omega) only [Int.reduceToNat, gq_lit, gq_neg, gq_add, gq_sub, gq_mul, gq_nat, Int.toNat_natCast, gq_tadd, gq_tmul, gq_lte, gq_br, gq_bd, gq_ck, Bool.false_eq_true, gq_leT, gq_leF, gq_ltT, gq_ltF, gq_eqT, gq_eqF, if_true, if_false, eO, c1, gp_ls]
        by_cases g2 : B ≤ Y i
        · rw [if_pos (by rw [gq_le (by omega)]; exact g2), if_pos g2]
          rfl
        · rw [if_neg (by rw [gq_le (by omega)]; exact g2), if_neg g2]
          rfl
      · rw [e3 y j h1 h2 h3, gq_uI1, if_neg fun c => h1 c.1, c4 y j h2 h3, gq_uI1, if_neg fun c => h1 c.1]
/-- what the class gets is the best -/
theorem gj_cls {w O : Nat → Int} {p : Int} {φ : Nat → Nat → Bool} {x L : Nat} {Y : Nat → Int} {C V F : Int} (ok : gq_okS w) (hL : w 0 = L) (cx : gd_ctx w φ (gk_c w O p)) (hx64 : x < 64) (hC : 0 ≤ C ∧ C ≤ 1000000) (mC : ga_min φ (ga_l w) (gk_c w O p) x 0 L 1000000 C) (hY : ∀ m, m < L → O m ≠ p → (0 ≤ Y m ∧ Y m ≤ 1000000) ∧ ga_min φ (ga_l w) (gk_c w (gj_O O p m) p) x 0 L 1000000 (Y m)) (hF : (F = -1 ∧ ∀ m, m < L → O m = p) ∨ ∃ n : Nat, F = n ∧ n < L ∧ O n ≠ p ∧ ∀ j, j < n → O j = p) (hV : 0 ≤ V ∧ V ≤ 1152921504606846976) (V1 : V < 1152921504606846976 → ∃ (S : Nat → Nat) (b n : Nat), ga_arr φ (ga_l w) x 0 L S ∧ b < 6 ∧ ga_h x b = true ∧ S b ≤ n ∧ n < S b + ga_l w b ∧ O n ≠ p ∧ 64 * (ga_v (gk_c w O p) x S - w (31 + n)) + n = V) (V2 : ∀ (S : Nat → Nat) (b n : Nat), ga_arr φ (ga_l w) x 0 L S → b < 6 → ga_h x b = true → S b ≤ n → n < S b + ga_l w b → O n ≠ p → V ≤ 64 * (ga_v (gk_c w O p) x S - w (31 + n)) + n) : gj_G O p Y L (if F = -1 ∨ C = 1000000 then -1 else if C * 64 ≤ V then F else V % 64) (if F = -1 ∨ C = 1000000 then 1000000 else if C * 64 ≤ V then C else V / 64) := by
  have o0 := ok.1
  have bC : ∀ S, ga_arr φ (ga_l w) x 0 L S → 0 ≤ ga_v (gk_c w O p) x S ∧ ga_v (gk_c w O p) x S ≤ 6 * 81 := fun S h => ga_v_b (B := 81) (by omega) h fun b m _ hb => (cx b m hb).2
  rcases hF with ⟨f1, f2⟩ | ⟨k, f1, f2, f3, f4⟩
  · rw [if_pos (Or.inl f1), if_pos (Or.inl f1)]
    exact Or.inl ⟨rfl, rfl, fun j h1 h2 => absurd (f2 j h1) h2⟩
  · by_cases gC : C = 1000000
    · rw [if_pos (Or.inr gC), if_pos (Or.inr gC)]
      refine Or.inl ⟨rfl, rfl, fun j h1 h2 => ?_⟩
      obtain ⟨Yb, Ym⟩ := hY j h1 h2
      by_cases g : Y j < 1000000
      · obtain ⟨S, s1, s2⟩ := Ym.1 g
        have := mC.2 S s1
        have := bC S s1
        omega
      · omega
    · have hn : ¬ (F = -1 ∨ C = 1000000) := fun c => c.elim (by omega) gC
      rw [if_neg hn, if_neg hn]
      obtain ⟨S0, s01, s02⟩ := mC.1 (by omega)
      -- of every minute that isn't his
      have each : ∀ m, m < L → O m ≠ p → Y m ≤ C ∧ (C ≤ Y m ∨ V ≤ 64 * Y m + m) := fun m h1 h2 => by
        obtain ⟨Yb, Ym⟩ := hY m h1 h2
        have wm := ok.2.2.2.2.2.1 m (by omega)
        have up : Y m ≤ C := by
          have k1 := Ym.2 S0 s01
          by_cases g : gj_cv w S0 x m
          · obtain ⟨b, b1, b2, b3, b4⟩ := g
            rw [gj_vy h2 hx64 s01 b1 b2 b3 b4] at k1
            omega
          · rw [gj_vn h2 g] at k1
            omega
        refine ⟨up, ?_⟩
        obtain ⟨S, s1, s2⟩ := Ym.1 (by omega)
        by_cases g : gj_cv w S x m
        · obtain ⟨b, b1, b2, b3, b4⟩ := g
          rw [gj_vy h2 hx64 s1 b1 b2 b3 b4] at s2
          have := V2 S b m s1 b1 b2 b3 b4 h2
          exact Or.inr (by omega)
        · rw [gj_vn h2 g] at s2
          have := mC.2 S s1
          exact Or.inl (by omega)
      by_cases gV : C * 64 ≤ V
      · rw [if_pos gV, if_pos gV]
        have all : ∀ m, m < L → O m ≠ p → Y m = C := fun m h1 h2 => by
          have := each m h1 h2
          omega
        refine Or.inr ⟨k, f1, f2, f3, (all k f2 f3).symm, by rw [all k f2 f3]; omega, fun j h1 h2 => ⟨by rw [all k f2 f3, all j h1 h2]; exact Int.le_refl _, fun _ => ?_⟩⟩
        by_cases g : j < k
        · exact absurd (f4 j g) h2
        · omega
      · rw [if_neg gV, if_neg gV]
        obtain ⟨S, b, n, s1, s2, s3, s4, s5, s6, s7⟩ := V1 (by omega)
        have sb := (s1.1 b s2 s3).2.2
        have hnL : n < L := by omega
        have en := each n hnL s6
        have Yn := (hY n hnL s6).2.2 S s1
        rw [gj_vy s6 hx64 s1 s2 s3 s4 s5] at Yn
        have Y0 := (hY n hnL s6).1
        have e1 : Y n = ga_v (gk_c w O p) x S - w (31 + n) := by omega
        refine Or.inr ⟨n, by omega, hnL, s6, by omega, by omega, fun j h1 h2 => ?_⟩
        have ej := each j h1 h2
        exact ⟨by omega, fun h => by omega⟩
