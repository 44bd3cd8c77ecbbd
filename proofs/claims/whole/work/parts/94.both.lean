/-! least sums of weights against least costs -/
theorem ga_q_v : ga_q 0 = 1073741824 ∧ ga_q 1 = 16777216 ∧ ga_q 2 = 262144 ∧ ga_q 3 = 4096 ∧ ga_q 4 = 64 ∧ ga_q 5 = 1 := by decide +kernel
/-- the digits of a row -/
def ga_u (x : Nat) (S : Nat → Nat) (b : Nat) : Nat := if ga_h x b = true then S b else 0
theorem ga_u_t {x : Nat} {S : Nat → Nat} {b : Nat} (h : ga_h x b = true) : ga_u x S b = S b := if_pos h
theorem ga_u_f {x : Nat} {S : Nat → Nat} {b : Nat} (h : ¬ ga_h x b = true) : ga_u x S b = 0 := if_neg h
def ga_rw (x : Nat) (S : Nat → Nat) : Int := (ga_u x S 0 : Int) * 1073741824 + ga_u x S 1 * 16777216 + ga_u x S 2 * 262144 + ga_u x S 3 * 4096 + ga_u x S 4 * 64 + ga_u x S 5
theorem ga_v_W {φ : Nat → Nat → Bool} {c : Nat → Nat → Int} {l : Nat → Nat} {x lo hi : Nat} {S : Nat → Nat} (h : ga_arr φ l x lo hi S) : ga_v (ga_W φ c) x S = ga_v c x S * 68719476736 + ga_rw x S := by
  have e1 : ga_v (ga_W φ c) x S = ga_sum (ga_h x) (fun b => c b (S b) * 68719476736 + (S b : Int) * ga_q b) 6 := ga_sum_ext fun b hb => ⟨rfl, fun hx => if_pos (h.1 b hb hx).1⟩
  rw [e1, ga_sum_lin]
  show _ + ga_sum (ga_h x) (fun b => (S b : Int) * ga_q b) 6 = _
  have e2 : ∀ b, (if ga_h x b = true then (S b : Int) * ga_q b else 0) = (ga_u x S b : Int) * ga_q b := fun b => by
    by_cases g : ga_h x b = true
    · rw [if_pos g, ga_u_t g]
    · rw [if_neg g, ga_u_f g]
      exact (Int.zero_mul _).symm
  have e3 : ga_sum (ga_h x) (fun b => (S b : Int) * ga_q b) 6 = 0 + (if ga_h x 0 = true then (S 0 : Int) * ga_q 0 else 0) + (if ga_h x 1 = true then (S 1 : Int) * ga_q 1 else 0) + (if ga_h x 2 = true then (S 2 : Int) * ga_q 2 else 0) + (if ga_h x 3 = true then (S 3 : Int) * ga_q 3 else 0) + (if ga_h x 4 = true then (S 4 : Int) * ga_q 4 else 0) + (if ga_h x 5 = true then (S 5 : Int) * ga_q 5 else 0) := rfl
  obtain ⟨q0, q1, q2, q3, q4, q5⟩ := ga_q_v
  have e5 : ga_sum (ga_h x) (fun b => c b (S b)) 6 = ga_v c x S := rfl
  rw [e3, e2, e2, e2, e2, e2, e2, q0, q1, q2, q3, q4, q5, e5]
  unfold ga_rw
  omega
theorem ga_u_b {φ : Nat → Nat → Bool} {l : Nat → Nat} {x lo hi : Nat} {S : Nat → Nat} (h : ga_arr φ l x lo hi S) (hA : ∀ b m, φ b m = true → m < 40) {b : Nat} (hb : b < 6) : ga_u x S b < 40 := by
  by_cases g : ga_h x b = true
  · rw [ga_u_t g]; exact hA b _ (h.1 b hb g).1
  · rw [ga_u_f g]; omega
theorem ga_rw_b {φ : Nat → Nat → Bool} {l : Nat → Nat} {x lo hi : Nat} {S : Nat → Nat} (h : ga_arr φ l x lo hi S) (hA : ∀ b m, φ b m = true → m < 40) : 0 ≤ ga_rw x S ∧ ga_rw x S < 68719476736 := by
  have b0 := ga_u_b h hA (b := 0) (by omega)
  have b1 := ga_u_b h hA (b := 1) (by omega)
  have b2 := ga_u_b h hA (b := 2) (by omega)
  have b3 := ga_u_b h hA (b := 3) (by omega)
  have b4 := ga_u_b h hA (b := 4) (by omega)
  have b5 := ga_u_b h hA (b := 5) (by omega)
  unfold ga_rw
  omega
theorem gd_ctx_m {w : Nat → Int} {φ : Nat → Nat → Bool} {c : Nat → Nat → Int} (ok : gq_okS w) (h : gd_ctx w φ c) : ∀ b m, φ b m = true → m < 40 := fun b m hb => by
  have o0 := ok.1
  obtain ⟨⟨h1, h2⟩, _⟩ := h b m hb
  have := (ok.2.2.2.2.1 b h1).1
  omega
theorem gc_ctx_of {w : Nat → Int} {φ : Nat → Nat → Bool} {c : Nat → Nat → Int} (ok : gq_okS w) (h : gd_ctx w φ c) : gc_ctx w φ (ga_W φ c) := by
  have o2 := ok.2.2.1
  refine ⟨fun b m hb => ?_, fun b m hb => if_neg (by rw [hb]; decide)⟩
  obtain ⟨h1, h2, h3⟩ := h b m hb
  have hm := gd_ctx_m ok h b m hb
  obtain ⟨q1, q2, _⟩ := ga_q_b b (by omega)
  have e : ga_W φ c b m = c b m * 68719476736 + m * ga_q b := if_pos hb
  have p1 : 0 ≤ (m : Int) * ga_q b := Int.mul_nonneg (by omega) (by omega)
  have p2 : (m : Int) * ga_q b ≤ 39 * 1073741824 := Int.mul_le_mul (by omega) q2 (by omega) (by omega)
  refine ⟨h1, ?_⟩
  rw [e]
  omega
theorem ga_both {w : Nat → Int} {φ : Nat → Nat → Bool} {c : Nat → Nat → Int} {x L : Nat} {V C : Int} (ok : gq_okS w) (h : gd_ctx w φ c) (hV : 0 ≤ V ∧ V ≤ 1152921504606846976) (hC : 0 ≤ C ∧ C ≤ 1000000) (mV : ga_min φ (ga_l w) (ga_W φ c) x 0 L 1152921504606846976 V) (mC : ga_min φ (ga_l w) c x 0 L 1000000 C) : (V < 1152921504606846976 ∧ C < 1000000 ∧ V / 68719476736 = C) ∨ (V = 1152921504606846976 ∧ C = 1000000) := by
  have hA := gd_ctx_m ok h
  have bC : ∀ S, ga_arr φ (ga_l w) x 0 L S → 0 ≤ ga_v c x S ∧ ga_v c x S ≤ 6 * 81 := fun S hS => ga_v_b (g := c) (B := 81) (by omega) hS fun b m _ hb => (h b m hb).2
  by_cases g : V < 1152921504606846976
  · obtain ⟨S, s1, s2⟩ := mV.1 g
    have a1 := mC.2 S s1
    have a2 := bC S s1
    obtain ⟨U, u1, u2⟩ := mC.1 (by omega)
    have a3 := mV.2 U u1
    rw [ga_v_W s1] at s2
    rw [ga_v_W u1] at a3
    have a4 := ga_rw_b s1 hA
    have a5 := ga_rw_b u1 hA
    refine Or.inl ⟨g, by omega, by omega⟩
  · refine Or.inr ⟨by omega, ?_⟩
    by_cases g2 : C < 1000000
    · obtain ⟨U, u1, u2⟩ := mC.1 g2
      have a3 := mV.2 U u1
      rw [ga_v_W u1] at a3
      have a5 := ga_rw_b u1 hA
      omega
    · omega
/-- a cost as the class tells it -/
def gb_n (C : Int) : Int := if C < 1000000 then C else -1
theorem gb_cost {μ : gx_M} {a x L : Nat} {w : Nat → Int} {φ : Nat → Nat → Bool} {c : Nat → Nat → Int} {t : Nat → Int} {C : Int} (ok : gq_okS w) (hL : w 0 = L) (hc : gq_cS μ a w) (h : gd_ctx w φ c) (ht : gc_tab μ 77 t) (hx : x < 64) (hV : 0 ≤ t (L * 64 + x) ∧ t (L * 64 + x) ≤ 1152921504606846976) (hC : 0 ≤ C ∧ C ≤ 1000000) (mV : ga_min φ (ga_l w) (ga_W φ c) x 0 L 1152921504606846976 (t (L * 64 + x))) (mC : ga_min φ (ga_l w) c x 0 L 1000000 C) : f_X0_costOfSet a (gq_I x) μ = some (gq_I (gb_n C)) := by
  have o0 := ok.1
  have et := ht (L * 64 + x) (by omega)
  unfold f_X0_costOfSet
  rw [hc.1.1, hL]
  simp (disch := omega) only [Int.reduceToNat, gq_lit, gq_neg, gq_add, gq_sub, gq_mul, gq_nat, Int.toNat_natCast, gq_tadd, gq_tmul, gq_lte, gq_br, gq_bd, gq_ck, et]
  rw [gc_costIn (by omega)]
  unfold gb_n
  rcases ga_both ok h hV hC mV mC with ⟨g1, g2, g3⟩ | ⟨g1, g2⟩
  · rw [if_pos g1, if_pos g2, g3]
  · rw [if_neg (by omega), if_neg (by omega)]
/-! the class's two steps -/
theorem gb_cls {μ : gx_M} {a x T L : Nat} {w B : Nat → Int} {p g : Int} {y : Int64} {φ : Nat → Nat → Bool} (ok : gq_okS w) (hT2 : w 2 = T) (hL : w 0 = L) (hc : gq_cS μ a w) (hp : -1 ≤ p ∧ p ≤ 4) (hφ : gc_al w B g φ) (hy : ∀ b : Nat, (b : Int) < w 2 → ∀ m, m < 40 → (φ b m = true ↔ gk_in w y b m)) (hx : x < 64) : ∃ μ1 μ2 t, f_X0_weighRuns a (gq_I p) y μ = some ((), μ1) ∧ gq_cS μ1 a w ∧ f_X0_arrange a (gq_I x) μ1 = some ((), μ2) ∧ gc_Wt μ2 w (ga_W φ (gk_c w (gk_O w) p)) ∧ gc_tab μ2 77 t ∧ (∀ j, j < 2624 → 0 ≤ t j ∧ t j ≤ 1152921504606846976) ∧ (∀ m d, m ≤ L → d < 2 ^ T → ga_sub d x → ga_min φ (ga_l w) (ga_W φ (gk_c w (gk_O w) p)) d 0 m 1152921504606846976 (t (m * 64 + d))) ∧ (∀ y, y ≠ 76 → y ≠ 77 → μ2.2 y = μ.2 y) ∧ μ2.1 = μ.1 := by
  obtain ⟨μ1, a1, a2, a3, a4⟩ := gc_weigh (a := a) (p := p) (x := y) ok hc hp hy
  have hc1 := gq_cS_1 hc a4
  obtain ⟨μ2, t, b1, b2, b3, b4, b5, b6⟩ := gc_arrange (a := a) (x := x) ok (gc_ctx_of ok (gd_ctx_of ok hφ)) hT2 hL hx hc1 a2
  exact ⟨μ1, μ2, t, a1, hc1, b1, fun b j h1 h2 => by rw [b5 76 (by omega)]; exact a2 b j h1 h2, b2, b3, b4, fun y h1 h2 => (b5 y h2).trans (a3 y h1), b6.trans a4⟩
theorem gm_all : ∀ j, j < 64 → gm_b (1099511627775 : Int64) j = decide (j < 40) := by decide +kernel
/-- with all minutes -/
theorem gb_all {w : Nat → Int} {φ : Nat → Nat → Bool} (ok : gq_okS w) (hφ : gc_al w (fun _ => -1) (-1) φ) : ∀ b : Nat, (b : Int) < w 2 → ∀ m, m < 40 → (φ b m = true ↔ gk_in w 1099511627775 b m) := fun b hb m hm => by
  have o0 := ok.1
  rw [hφ b m]
  constructor
  · rintro ⟨_, h2, _, _⟩
    refine ⟨h2, fun j h3 h4 => ?_⟩
    have := gk_lt ok hb h2
    rw [gm_all j (by omega)]
    exact decide_eq_true (by omega)
  · intro h
    exact ⟨hb, h.1, Or.inl rfl, by omega⟩
/-- with all but one -/
theorem gb_but {w : Nat → Int} {φ : Nat → Nat → Bool} {g : Nat} (ok : gq_okS w) (hg : g < 40) (hφ : gc_al w (fun _ => -1) g φ) : ∀ b : Nat, (b : Int) < w 2 → ∀ m, m < 40 → (φ b m = true ↔ gk_in w ((1099511627775 : Int64) &&& ((gq_L 1 <<< (gq_L g &&& gq_L 63)) ^^^ gq_L (-1))) b m) := fun b hb m hm => by
  have o0 := ok.1
  have l1 := (ok.2.2.2.2.1 b hb).1
  have key : ∀ j, j < 64 → (gm_b ((1099511627775 : Int64) &&& ((gq_L 1 <<< (gq_L g &&& gq_L 63)) ^^^ gq_L (-1))) j = true ↔ j < 40 ∧ j ≠ g) := fun j hj => by
    rw [gm_and, gm_not hj, gm_bit g (by omega) j hj, gm_all j hj, Bool.and_eq_true, decide_eq_true_iff, Bool.not_eq_true', decide_eq_false_iff_not]
  rw [hφ b m]
  constructor
  · rintro ⟨_, h2, _, h3⟩
    refine ⟨h2, fun j h4 h5 => ?_⟩
    have := gk_lt ok hb h2
    rw [key j (by omega)]
    omega
  · intro h
    have := gk_lt ok hb h.1
    refine ⟨hb, h.1, Or.inl rfl, fun c => ?_⟩
    have := (key g (by omega)).mp (h.2 g (by omega) (by omega))
    exact this.2 rfl
