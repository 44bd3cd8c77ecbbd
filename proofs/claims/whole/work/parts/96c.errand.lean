/-! errands: the first row of least cost -/
theorem ge_lex {x : Nat} {S S' : Nat → Nat} {b : Nat} (hb : b < 6) (h1 : ∀ c, c < b → ga_u x S' c = ga_u x S c) (h2 : ga_u x S' b < ga_u x S b) (h3 : ∀ c, c < 6 → ga_u x S' c < 40) : ga_rw x S' < ga_rw x S := by
  have a1 := h3 1 (by omega)
  have a2 := h3 2 (by omega)
  have a3 := h3 3 (by omega)
  have a4 := h3 4 (by omega)
  have a5 := h3 5 (by omega)
  unfold ga_rw
  rcases (by omega : b = 0 ∨ b = 1 ∨ b = 2 ∨ b = 3 ∨ b = 4 ∨ b = 5) with h | h | h | h | h | h <;> subst h
  · omega
  · have e0 := h1 0 (by omega)
    omega
  · have e0 := h1 0 (by omega)
    have e1 := h1 1 (by omega)
    omega
  · have e0 := h1 0 (by omega)
    have e1 := h1 1 (by omega)
    have e2 := h1 2 (by omega)
    omega
  · have e0 := h1 0 (by omega)
    have e1 := h1 1 (by omega)
    have e2 := h1 2 (by omega)
    have e3 := h1 3 (by omega)
    omega
  · have e0 := h1 0 (by omega)
    have e1 := h1 1 (by omega)
    have e2 := h1 2 (by omega)
    have e3 := h1 3 (by omega)
    have e4 := h1 4 (by omega)
    omega
theorem ge_dig {x b : Nat} {S : Nat → Nat} {C : Int} (hC : 0 ≤ C) (h3 : ∀ c, c < 6 → ga_u x S c < 40) (hb : b < 6) : (C * 68719476736 + ga_rw x S) / ga_q b % 64 = ga_u x S b := by
  obtain ⟨q0, q1, q2, q3, q4, q5⟩ := ga_q_v
  have a0 := h3 0 (by omega)
  have a1 := h3 1 (by omega)
  have a2 := h3 2 (by omega)
  have a3 := h3 3 (by omega)
  have a4 := h3 4 (by omega)
  have a5 := h3 5 (by omega)
  unfold ga_rw
  rcases (by omega : b = 0 ∨ b = 1 ∨ b = 2 ∨ b = 3 ∨ b = 4 ∨ b = 5) with h | h | h | h | h | h <;> subst h
  · rw [q0]; omega
  · rw [q1]; omega
  · rw [q2]; omega
  · rw [q3]; omega
  · rw [q4]; omega
  · rw [q5]; omega
/-- the beginnings that are fixed when b business have been gone through -/
def ge_B (x : Nat) (S : Nat → Nat) (b : Nat) (c : Nat) : Int := if c < b ∧ ga_h x c = true then (S c : Int) else -1
theorem gc_K_B {ν : gx_M} {s : Nat} {w O B B' : Nat → Int} {g : Int} (h : gc_K ν s w O B g) (e : ∀ b, b < 6 → B' b = B b) : gc_K ν s w O B' g :=
  ⟨h.1, h.2.1, fun b hb => by rw [e b hb]; exact h.2.2.1 b hb, h.2.2.2⟩
theorem gc_K_f {ν : gx_M} {s b : Nat} {w O B : Nat → Int} {g z : Int} (h : gc_K ν s w O B g) : gc_K (gx_uI ν 225 b (gq_I z)) s w O (fun c => if c = b then z else B c) g := by
  obtain ⟨⟨⟨h1, h2, h3, h4⟩, h5⟩, h6, h7, h8⟩ := h
  refine ⟨⟨⟨h1, h2, h3, h4⟩, gq_mS_w h5 rfl⟩, h6, fun c hc => ?_, h8⟩
  rw [gq_uI1]
  by_cases e : c = b
  · rw [if_pos ⟨rfl, e⟩]
    show _ = gq_I (if c = b then z else B c)
    rw [if_pos e]
  · rw [if_neg fun h => e h.2]
    show _ = gq_I (if c = b then z else B c)
    rw [if_neg e]
    exact h7 c hc
/-- the best row, by weights -/
def ge_S (w : Nat → Int) (φ : Nat → Nat → Bool) (c : Nat → Nat → Int) (x L : Nat) (C : Int) (S : Nat → Nat) : Prop := ga_arr φ (ga_l w) x 0 L S ∧ ga_v c x S = C ∧ (∀ S', ga_arr φ (ga_l w) x 0 L S' → ga_v (ga_W φ c) x S ≤ ga_v (ga_W φ c) x S') ∧ ∀ S', ga_arr φ (ga_l w) x 0 L S' → C ≤ ga_v c x S'
theorem ge_test {w O : Nat → Int} {p : Int} {φ ψ : Nat → Nat → Bool} {x L b m : Nat} {C C' : Int} {S : Nat → Nat} (ok : gq_okS w) (hφ : gc_al w (fun _ => -1) (-1) φ) (hψ : gc_al w (fun c => if c = b then (m : Int) else ge_B x S b c) (-1) ψ) (hS : ge_S w φ (gk_c w O p) x L C S) (hb : b < 6) (hxb : ga_h x b = true) (hC : 0 ≤ C ∧ C < 1000000) (mC : ga_min ψ (ga_l w) (gk_c w O p) x 0 L 1000000 C') : (m < S b → C' ≠ C) ∧ (m = S b → C' ≤ 1000000 → C' = C) := by
  obtain ⟨s1, s2, s3, s4⟩ := hS
  have cx := gd_ctx_of (O := O) (p := p) ok hφ
  have hA := gd_ctx_m ok cx
  have sub : ∀ c n, ψ c n = true → φ c n = true := fun c n h => by
    obtain ⟨h1, h2, h3, h4⟩ := (hψ c n).mp h
    exact (hφ c n).mpr ⟨h1, h2, Or.inl rfl, h4⟩
  have suba : ∀ S', ga_arr ψ (ga_l w) x 0 L S' → ga_arr φ (ga_l w) x 0 L S' := fun S' h => ⟨fun c hc hx => ⟨sub _ _ (h.1 c hc hx).1, (h.1 c hc hx).2⟩, h.2⟩
  refine ⟨fun hm e => ?_, fun hm hC' => ?_⟩
  · obtain ⟨S', t1, t2⟩ := mC.1 (by omega)
    have t3 := suba S' t1
    have fx : ∀ c, c < 6 → ga_h x c = true → (c < b → S' c = S c) ∧ (c = b → S' c = m) := fun c hc hx => by
      obtain ⟨_, _, h3, _⟩ := (hψ c (S' c)).mp (t1.1 c hc hx).1
      have h3 : (if c = b then (m : Int) else ge_B x S b c) = -1 ∨ (if c = b then (m : Int) else ge_B x S b c) = (S' c : Int) := h3
      refine ⟨fun h => ?_, fun h => ?_⟩
      · have e : (if c = b then (m : Int) else ge_B x S b c) = (S c : Int) := by
          rw [if_neg (by omega)]
          exact if_pos ⟨h, hx⟩
        rw [e] at h3
        omega
      · rw [if_pos h] at h3
        omega
    have lt := ge_lex (x := x) (S := S) (S' := S') hb (fun c hc => by
      by_cases g : ga_h x c = true
      · rw [ga_u_t g, ga_u_t g]
        exact (fx c (by omega) g).1 hc
      · rw [ga_u_f g, ga_u_f g]) (by
      rw [ga_u_t hxb, ga_u_t hxb, (fx b hb hxb).2 rfl]
      exact hm) (fun c hc => ga_u_b t3 hA hc)
    have k1 := s3 S' t3
    rw [ga_v_W s1, ga_v_W t3, s2, t2] at k1
    omega
  · have t1 : ga_arr ψ (ga_l w) x 0 L S := by
      refine ⟨fun c hc hx => ⟨?_, (s1.1 c hc hx).2⟩, s1.2⟩
      obtain ⟨h1, h2, _, h4⟩ := (hφ c (S c)).mp (s1.1 c hc hx).1
      refine (hψ c (S c)).mpr ⟨h1, h2, ?_, h4⟩
      show (if c = b then (m : Int) else ge_B x S b c) = -1 ∨ (if c = b then (m : Int) else ge_B x S b c) = (S c : Int)
      by_cases g : c = b
      · rw [if_pos g, hm, g]
        exact Or.inr rfl
      · rw [if_neg g]
        unfold ge_B
        by_cases g2 : c < b ∧ ga_h x c = true
        · rw [if_pos g2]
          exact Or.inr rfl
        · rw [if_neg g2]
          exact Or.inl rfl
    have k1 := mC.2 S t1
    rw [s2] at k1
    obtain ⟨S', t2, t3⟩ := mC.1 (by omega)
    have k2 := s4 S' (suba S' t2)
    omega
theorem ge_inL {s L T x b : Nat} {w O : Nat → Int} {p C : Int} {φ : Nat → Nat → Bool} {S : Nat → Nat} (ok : gq_okS w) (hs : s < 8) (hT2 : w 2 = T) (hL : w 0 = L) (hp : -1 ≤ p ∧ p ≤ 4) (hO : ∀ m, m < 40 → -1 ≤ O m ∧ O m ≤ 4) (hφ : gc_al w (fun _ => -1) (-1) φ) (hx : x < 2 ^ T) (hS : ge_S w φ (gk_c w O p) x L C S) (hC : 0 ≤ C ∧ C < 1000000) (hb : b < T) (hxb : ga_h x b = true) {k : gx_M → Option (Int32 × gx_M)} : ∀ (d f m : Nat) (ν : gx_M), d < f → m + d = L → m ≤ S b → gc_K ν s w O (ge_B x S b) (-1) → ∃ ν', L_X12_beginOf_20 (gq_I x) (gq_I b) (gq_I p) (gq_I C) k f (gq_I m) ν = k ν' ∧ gc_K ν' s w O (ge_B x S (b + 1)) (-1) ∧ (∀ y j, y ≠ 225 → y ≠ 226 → y ≠ 227 → ν'.1 y j = ν.1 y j) ∧ ν'.2 = ν.2
  | _, 0, _, _, hf, _, _, _ => absurd hf (Nat.not_lt_zero _)
  | 0, f + 1, m, ν, hf, hi, hm, hK => by
    have o2 := ok.2.2.1
    have a := hS.1.1 b (by omega) hxb
    have l1 := gd_hl ok hT2 hx b (by omega) hxb
    omega
  | d + 1, f + 1, m, ν, hf, hi, hm, hK => by
    have o0 := ok.1
    have o2 := ok.2.2.1
    have p2 := ga_2T T (by omega)
    have a := hS.1.1 b (by omega) hxb
    have l1 := gd_hl ok hT2 hx b (by omega) hxb
    have hA := gd_ctx_m ok (gd_ctx_of (O := O) (p := p) ok hφ)
    have eh := ga_hasX (x := x) (b := b) (by omega) (by omega)
    rw [hxb] at eh
    have eB : ν.1 225 b = gq_I (-1) := by
      rw [hK.2.2.1 b (by omega)]
      unfold ge_B
      rw [if_neg (by omega)]
    have K1 := gc_K_f (b := b) (z := m) hK
    have em := gq_mayR ok hs K1.1 (b := b) (m := m) (by omega) (by omega)
    obtain ⟨J, hJ⟩ : ∃ J : Int32 → gx_M → Option (Int32 × gx_M), J = fun j0_23 μ24 => L_X12_beginOf_20 (gq_I x) (gq_I b) (gq_I p) (gq_I C) k f (gq_I (m + 1 : Nat)) (gx_uI μ24 225 b j0_23) := ⟨_, rfl⟩
    have step : L_X12_beginOf_20 (gq_I x) (gq_I b) (gq_I p) (gq_I C) k (f + 1) (gq_I m) ν = gx_br (f_X12_mayBegin (gq_I b) (gq_I m) (gx_uI ν 225 b (gq_I m))) (fun r15 => if r15 = true then gx_bd (f_X12_costOf (gq_I p) (gq_I x) (gx_uI ν 225 b (gq_I m))) (fun r19 μ20 => if r19 = gq_I C then J (gq_I m) μ20 else J (gq_I (-1)) μ20) else J (gq_I (-1)) (gx_uI ν 225 b (gq_I m))) := by
      rw [L_X12_beginOf_20.eq_2, hK.1.1.2.1, hL, hJ]
      refine (if_neg (by rw [gq_le (by omega)]; omega)).trans ?_
      rw [if_pos eh, gq_ck (by omega), gq_nat (by omega), Int.toNat_natCast, eB, if_pos (by rfl), gq_lte]
      simp only [gq_lte, gq_lit, gq_neg, gq_add]
      rfl
    rw [em, gq_br] at step
    have skip : ∀ μ20, gc_K μ20 s w O (fun c => if c = b then (m : Int) else ge_B x S b c) (-1) → (∀ y j, y ≠ 225 → y ≠ 226 → y ≠ 227 → μ20.1 y j = ν.1 y j) → μ20.2 = ν.2 → m < S b → L_X12_beginOf_20 (gq_I x) (gq_I b) (gq_I p) (gq_I C) k (f + 1) (gq_I m) ν = J (gq_I (-1)) μ20 → ∃ ν', L_X12_beginOf_20 (gq_I x) (gq_I b) (gq_I p) (gq_I C) k (f + 1) (gq_I m) ν = k ν' ∧ gc_K ν' s w O (ge_B x S (b + 1)) (-1) ∧ (∀ y j, y ≠ 225 → y ≠ 226 → y ≠ 227 → ν'.1 y j = ν.1 y j) ∧ ν'.2 = ν.2 := fun μ20 k1 k2 k3 k4 k5 => by
      have K2 : gc_K (gx_uI μ20 225 b (gq_I (-1))) s w O (ge_B x S b) (-1) := gc_K_B (gc_K_f (b := b) (z := -1) k1) fun c hc => by
        show ge_B x S b c = if c = b then (-1 : Int) else if c = b then (m : Int) else ge_B x S b c
        by_cases e : c = b
        · rw [if_pos e]
          exact if_neg (by omega)
        · rw [if_neg e, if_neg e]
      obtain ⟨ν', e1, e2, e3, e4⟩ := ge_inL ok hs hT2 hL hp hO hφ hx hS hC hb hxb (k := k) d f (m + 1) (gx_uI μ20 225 b (gq_I (-1))) (by omega) (by omega) (by omega) K2
      refine ⟨ν', ?_, e2, fun y j h1 h2 h3 => ?_, e4.trans k3⟩
      · rw [k5, hJ]
        exact e1
      · rw [e3 y j h1 h2 h3, gq_uI1, if_neg fun c => h1 c.1, k2 y j h1 h2 h3]
    have fr0 : ∀ y j, y ≠ 225 → y ≠ 226 → y ≠ 227 → (gx_uI ν 225 b (gq_I m)).1 y j = ν.1 y j := fun y j h1 _ _ => by rw [gq_uI1, if_neg fun c => h1 c.1]
    by_cases g1 : gk_run w b m
    · rw [decide_eq_true g1, if_pos rfl] at step
      obtain ⟨ψ, hψ⟩ := gc_al_ex w (fun c => if c = b then (m : Int) else ge_B x S b c) (-1)
      have okK : gc_okK O (fun c => if c = b then (m : Int) else ge_B x S b c) (-1) := by
        refine ⟨hO, fun c hc => ?_, by omega, by omega⟩
        show -1 ≤ (if c = b then (m : Int) else ge_B x S b c) ∧ (if c = b then (m : Int) else ge_B x S b c) ≤ 39
        by_cases e : c = b
        · rw [if_pos e]; omega
        · rw [if_neg e]
          unfold ge_B
          by_cases e2 : c < b ∧ ga_h x c = true
          · rw [if_pos e2]
            have := hA c _ (hS.1.1 c hc e2.2).1
            omega
          · rw [if_neg e2]; omega
      obtain ⟨ν2, C', c1, c2, c3, c4, c5⟩ := gd_costOf ok hs okK hψ hT2 hL hp K1 hx
      obtain ⟨t1, t2⟩ := ge_test ok hφ hψ hS (by omega) hxb hC c3
      rw [c1, gq_bd] at step
      have K2 := gc_K_w K1 c4
      have fr2 : ∀ y j, y ≠ 225 → y ≠ 226 → y ≠ 227 → ν2.1 y j = ν.1 y j := fun y j h1 h2 h3 => (c4 y j h2 h3).trans (fr0 y j h1 h2 h3)
      by_cases g2 : m < S b
      · rw [if_neg (by rw [gq_eq (by omega)]; exact t1 g2)] at step
        exact skip ν2 K2 fr2 c5 g2 step
      · have g3 : m = S b := by omega
        rw [t2 g3 c2.2, if_pos rfl, hJ] at step
        have K3 : gc_K (gx_uI ν2 225 b (gq_I m)) s w O (ge_B x S (b + 1)) (-1) := gc_K_B (gc_K_f (b := b) (z := m) K2) fun c hc => by
          show ge_B x S (b + 1) c = if c = b then (m : Int) else if c = b then (m : Int) else ge_B x S b c
          by_cases e : c = b
          · rw [if_pos e, g3, e]
            exact if_pos ⟨by omega, hxb⟩
          · rw [if_neg e, if_neg e]
            unfold ge_B
            by_cases e2 : c < b ∧ ga_h x c = true
            · rw [if_pos e2, if_pos ⟨by omega, e2.2⟩]
            · rw [if_neg e2, if_neg fun h => e2 ⟨by omega, h.2⟩]
        refine ⟨gx_uI ν2 225 b (gq_I m), ?_, K3, fun y j h1 h2 h3 => ?_, c5⟩
        · rw [step]
          obtain ⟨f', rfl⟩ : ∃ f', f = f' + 1 := ⟨f - 1, by omega⟩
          show L_X12_beginOf_20 (gq_I x) (gq_I b) (gq_I p) (gq_I C) k (f' + 1) (gq_I (m + 1 : Nat)) (gx_uI ν2 225 b (gq_I m)) = _
          rw [L_X12_beginOf_20.eq_2, K3.1.1.2.1, hL]
          by_cases g4 : L ≤ m + 1
          · exact if_pos (by rw [gq_le (by omega)]; omega)
          · refine (if_neg (by rw [gq_le (by omega)]; omega)).trans ?_
            have e225 : (gx_uI ν2 225 b (gq_I m)).1 225 b = gq_I m := by
              rw [gq_uI1]
              exact if_pos ⟨rfl, rfl⟩
            rw [if_pos eh, gq_ck (by omega), gq_nat (by omega), Int.toNat_natCast, e225, if_neg (by rw [gq_lit, gq_neg, gq_eq (by omega)]; omega)]
        · rw [gq_uI1, if_neg fun c => h1 c.1, fr2 y j h1 h2 h3]
    · rw [decide_eq_false g1, if_neg (by decide)] at step
      have g2 : m < S b := by
        by_cases e : m = S b
        · exfalso
          apply g1
          rw [e]
          exact ((hφ b (S b)).mp a.1).2.1
        · omega
      exact skip _ K1 fr0 rfl g2 step
theorem ge_outL {s L T x q : Nat} {w O : Nat → Int} {p C : Int} {φ : Nat → Nat → Bool} {S : Nat → Nat} (ok : gq_okS w) (hs : s < 8) (hT2 : w 2 = T) (hL : w 0 = L) (hp : -1 ≤ p ∧ p ≤ 4) (hO : ∀ m, m < 40 → -1 ≤ O m ∧ O m ≤ 4) (hφ : gc_al w (fun _ => -1) (-1) φ) (hx : x < 2 ^ T) (hS : ge_S w φ (gk_c w O p) x L C S) (hC : 0 ≤ C ∧ C < 1000000) (hq : q < T) {k : gx_M → Option (Int32 × gx_M)} : ∀ (d f b : Nat) (ν : gx_M), d < f → b + d = q + 1 → gc_K ν s w O (ge_B x S b) (-1) → ∃ ν', L_X12_beginOf_11 (gq_I q) (gq_I x) (gq_I p) (gq_I C) k f (gq_I b) ν = k ν' ∧ gc_K ν' s w O (ge_B x S (q + 1)) (-1) ∧ (∀ y j, y ≠ 225 → y ≠ 226 → y ≠ 227 → ν'.1 y j = ν.1 y j) ∧ ν'.2 = ν.2
  | _, 0, _, _, hf, _, _ => absurd hf (Nat.not_lt_zero _)
  | 0, f + 1, b, ν, hf, hi, hK => by
    have o2 := ok.2.2.1
    refine ⟨ν, ?_, ?_, fun _ _ _ _ _ => rfl, rfl⟩
    · rw [L_X12_beginOf_11.eq_2]
      exact if_pos (by rw [gq_lt (by omega)]; omega)
    · rw [show q + 1 = b by omega]
      exact hK
  | d + 1, f + 1, b, ν, hf, hi, hK => by
    have o0 := ok.1
    have o2 := ok.2.2.1
    have p2 := ga_2T T (by omega)
    have run : ∃ ν1, L_X12_beginOf_20 (gq_I x) (gq_I b) (gq_I p) (gq_I C) (fun (μ27 : gx_M) => L_X12_beginOf_11 (gq_I q) (gq_I x) (gq_I p) (gq_I C) k f (gq_I b + 1) μ27) 4000 (gq_I 0) ν = L_X12_beginOf_11 (gq_I q) (gq_I x) (gq_I p) (gq_I C) k f (gq_I b + 1) ν1 ∧ gc_K ν1 s w O (ge_B x S (b + 1)) (-1) ∧ (∀ y j, y ≠ 225 → y ≠ 226 → y ≠ 227 → ν1.1 y j = ν.1 y j) ∧ ν1.2 = ν.2 := by
      by_cases g : ga_h x b = true
      · exact ge_inL ok hs hT2 hL hp hO hφ hx hS hC (by omega) g (k := fun (μ27 : gx_M) => L_X12_beginOf_11 (gq_I q) (gq_I x) (gq_I p) (gq_I C) k f (gq_I b + 1) μ27) L 4000 0 ν (by omega) (by omega) (Nat.zero_le _) hK
      · refine ⟨ν, ?_, gc_K_B hK fun c hc => ?_, fun _ _ _ _ _ => rfl, rfl⟩
        · have eh := ga_hasX (x := x) (b := b) (by omega) (by omega)
          rw [L_X12_beginOf_20.eq_2, hK.1.1.2.1, hL]
          refine (if_neg (by rw [gq_le (by omega)]; omega)).trans ?_
          exact if_neg (by rw [eh]; exact g)
        · unfold ge_B
          by_cases e2 : c < b ∧ ga_h x c = true
          · rw [if_pos e2, if_pos ⟨by omega, e2.2⟩]
          · rw [if_neg e2, if_neg fun h => ?_]
            by_cases e3 : c = b
            · rw [e3] at h; exact g h.2
            · exact e2 ⟨by omega, h.2⟩
    obtain ⟨ν1, a1, a2, a3, a4⟩ := run
    obtain ⟨ν', e1, e2, e3, e4⟩ := ge_outL ok hs hT2 hL hp hO hφ hx hS hC hq (k := k) d f (b + 1) ν1 (by omega) (by omega) a2
    refine ⟨ν', ?_, e2, fun y j h1 h2 h3 => (e3 y j h1 h2 h3).trans (a3 y j h1 h2 h3), e4.trans a4⟩
    rw [← e1, L_X12_beginOf_11.eq_2]
    refine (if_neg (by rw [gq_lt (by omega)]; omega)).trans ?_
    rw [gq_lit]
    refine a1.trans ?_
    rw [gq_suc]
theorem ge_begin {ν : gx_M} {s L T x q : Nat} {w O : Nat → Int} {p C : Int} {φ : Nat → Nat → Bool} {S : Nat → Nat} (ok : gq_okS w) (hs : s < 8) (hT2 : w 2 = T) (hL : w 0 = L) (hp : -1 ≤ p ∧ p ≤ 4) (hO : ∀ m, m < 40 → -1 ≤ O m ∧ O m ≤ 4) (hφ : gc_al w (fun _ => -1) (-1) φ) (hx : x < 2 ^ T) (hS : ge_S w φ (gk_c w O p) x L C S) (hC : 0 ≤ C ∧ C < 1000000) (hq : q < T) (hK : gc_K ν s w O (fun _ => -1) (-1)) : ∃ ν', f_X12_beginOf (gq_I p) (gq_I x) (gq_I q) ν = some (gq_I (if ga_h x q = true then (S q : Int) else -1), ν') ∧ (∀ y j, y ≠ 225 → y ≠ 226 → y ≠ 227 → ν'.1 y j = ν.1 y j) ∧ ν'.2 = ν.2 := by
  have o2 := ok.2.2.1
  have okK : gc_okK O (fun _ => -1) (-1) := ⟨hO, fun _ _ => ⟨Int.le_refl _, by show (-1 : Int) ≤ 39; omega⟩, by omega, by omega⟩
  obtain ⟨ν1, C', c1, c2, c3, c4, c5⟩ := gd_costOf ok hs okK hφ hT2 hL hp hK hx
  have e : C' = C := by
    have k1 := c3.2 S hS.1
    rw [hS.2.1] at k1
    obtain ⟨S', t1, t2⟩ := c3.1 (by omega)
    have := hS.2.2.2 S' t1
    omega
  subst e
  obtain ⟨ν', e1, e2, e3, e4⟩ := ge_outL ok hs hT2 hL hp hO hφ hx hS hC hq (k := fun (μ29 : gx_M) => gx_ck (gx_ix (gq_I q) 6 = true) (some ((μ29.1 225 (gq_I q).toNatClampNeg), μ29))) (q + 1) 4000 0 ν1 (by omega) (by omega) (gc_K_B (gc_K_w hK c4) fun c _ => if_neg (by omega))
  refine ⟨ν', ?_, fun y j h1 h2 h3 => (e3 y j h1 h2 h3).trans (c4 y j h2 h3), e4.trans c5⟩
  unfold f_X12_beginOf
  rw [c1, gq_bd, gq_lit]
  refine e1.trans ?_
  rw [gq_ck (by omega), gq_nat (by omega), Int.toNat_natCast, e2.2.2.1 q (by omega)]
  unfold ge_B
  by_cases g : ga_h x q = true
  · rw [if_pos ⟨by omega, g⟩, if_pos g]
  · rw [if_neg fun h => g h.2, if_neg g]
