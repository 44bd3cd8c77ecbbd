/-! the check's costs of runs -/
/-- what the check reads when it counts costs: owners O, fixed beginnings B, a minute gone -/
def gc_K (ν : gx_M) (s : Nat) (w O B : Nat → Int) (g : Int) : Prop := gq_lay ν s w ∧ (∀ m, m < 40 → ν.1 219 m = gq_I (w (31 + m)) ∧ ν.1 220 m = gq_I (O m)) ∧ (∀ b, b < 6 → ν.1 225 b = gq_I (B b)) ∧ ν.1 206 38 = gq_I g
def gc_okK (O B : Nat → Int) (g : Int) : Prop := (∀ m, m < 40 → -1 ≤ O m ∧ O m ≤ 4) ∧ (∀ b, b < 6 → -1 ≤ B b ∧ B b ≤ 39) ∧ -1 ≤ g ∧ g ≤ 39
theorem gc_K_w {ν ν' : gx_M} {s : Nat} {w O B : Nat → Int} {g : Int} (h : gc_K ν s w O B g) (e : ∀ a j, a ≠ 226 → a ≠ 227 → ν'.1 a j = ν.1 a j) : gc_K ν' s w O B g := by
  obtain ⟨⟨⟨h1, h2, h3, h4⟩, h5⟩, h6, h7, h8⟩ := h
  refine ⟨⟨⟨?_, ?_, ?_, ?_⟩, gq_mS_w h5 ?_⟩, fun m hm => ⟨?_, ?_⟩, fun b hb => ?_, ?_⟩
  · rw [e _ _ (by omega) (by omega)]; exact h1
  · rw [e _ _ (by omega) (by omega)]; exact h2
  · rw [e _ _ (by omega) (by omega)]; exact h3
  · rw [e _ _ (by omega) (by omega)]; exact h4
  · funext j; exact e _ _ (by omega) (by omega)
  · rw [e _ _ (by omega) (by omega)]; exact (h6 m hm).1
  · rw [e _ _ (by omega) (by omega)]; exact (h6 m hm).2
  · rw [e _ _ (by omega) (by omega)]; exact h7 b hb
  · rw [e _ _ (by omega) (by omega)]; exact h8
theorem gc_K_hd {ν : gx_M} {s : Nat} {w : Nat → Int} (h : gq_hd ν s w) : gc_K ν s w (gk_O w) (fun _ => -1) (-1) :=
  ⟨gq_hd_lay h, fun m hm => ⟨h.2.2.1 m hm, h.2.2.2.1 m hm⟩, fun b hb => (h.2.2.2.2.2.1 b hb).2, h.1.2.2.2.2⟩
theorem gc_okK_hd {w : Nat → Int} (ok : gq_okS w) : gc_okK (gk_O w) (fun _ => -1) (-1) :=
  ⟨fun m hm => by have := ok.2.2.2.2.2.2 m hm; have := ok.2.1; show -1 ≤ w (71 + m) ∧ w (71 + m) ≤ 4; omega, fun _ _ => ⟨Int.le_refl _, by show (-1 : Int) ≤ 39; omega⟩, by omega, by omega⟩
theorem gc_len {ν : gx_M} {s b : Nat} {w : Nat → Int} (ok : gq_okS w) (hs : s < 8) (hl : gq_lay ν s w) (hb : (b : Int) < w 2) : f_X12_lengthOf (gq_I b) ν = some (gq_I (ga_l w b)) := by
  have o2 := ok.2.2.1
  have l1 := (ok.2.2.2.2.1 b hb).1
  have h := gy_len (b := b) hl.1.1 hs hl.2 (by omega)
  rw [Int.toNat_natCast] at h
  rw [h]
  refine congrArg (fun z => some (gq_I z)) ?_
  unfold ga_l
  omega
theorem gk_s_ge {f : Nat → Int} {m g : Nat} : ∀ {n : Nat}, (∀ k, m ≤ k → k < m + n → 0 ≤ f k ∧ f k ≤ 1000000) → 0 ≤ gk_s f m n ∧ gk_s f m n ≤ 1000000 * n ∧ (m ≤ g → g < m + n → 1000000 ≤ f g → 1000000 ≤ gk_s f m n)
  | 0, _ => ⟨Int.le_refl 0, Int.le_refl 0, fun _ h => absurd h (by omega)⟩
  | n + 1, h => by
    obtain ⟨a, b, c⟩ := gk_s_ge (f := f) (m := m) (g := g) (n := n) fun k h1 h2 => h k h1 (by omega)
    have d := h (m + n) (by omega) (by omega)
    show 0 ≤ gk_s f m n + f (m + n) ∧ gk_s f m n + f (m + n) ≤ _ ∧ (_ → _ → _ → _ ≤ gk_s f m n + f (m + n))
    refine ⟨by omega, by omega, fun h1 h2 h3 => ?_⟩
    by_cases e : g = m + n
    · rw [e] at h3; omega
    · have := c h1 (by omega) h3
      omega
/-- what a minute costs, far off where it is gone -/
def gk_g (w O : Nat → Int) (p g : Int) (k : Nat) : Int := if (k : Int) = g then 1000000 else gk_f w O p k
theorem gc_rcL {ν : gx_M} {s b m : Nat} {w O B : Nat → Int} {p g : Int} (ok : gq_okS w) (hs : s < 8) (hK : gc_K ν s w O B g) (hO : gc_okK O B g) (hb : (b : Int) < w 2) (hp : -1 ≤ p ∧ p ≤ 4) (hr : m + ga_l w b ≤ 40) {k : Int32 → Option Int32} : ∀ (d f i : Nat), d < f → i + d = ga_l w b → L_X12_runCost_39 (gq_I b) ν (gq_I m) (gq_I p) k f (gq_I (gk_s (gk_g w O p g) m i)) (gq_I (m + i : Nat)) = k (gq_I (gk_s (gk_g w O p g) m (ga_l w b)))
  | _, 0, _, hf, _ => absurd hf (Nat.not_lt_zero _)
  | 0, f + 1, i, hf, hi => by
    have e : i = ga_l w b := by omega
    subst e
    rw [L_X12_runCost_39.eq_2, gc_len ok hs hK.1 hb]
    simp (disch := omega) only [Int.reduceToNat, gq_lit, gq_neg, gq_add, gq_sub, gq_mul, gq_nat, Int.toNat_natCast, gq_tadd, gq_tmul, gq_lte, gq_br, gq_bd, gq_ck, Bool.false_eq_true, gq_leT, gq_leF, gq_ltT, gq_ltF, gq_eqT, gq_eqF, if_true, if_false]
  | d + 1, f + 1, i, hf, hi => by
    have c2 := hK.2.1 (m + i) (by omega)
    have o6 := hO.1 (m + i) (by omega)
    have og := hO.2.2
    rw [← gc_rcL ok hs hK hO hb hp hr (k := k) d f (i + 1) (by omega) (by omega), L_X12_runCost_39.eq_2, gc_len ok hs hK.1 hb, hK.2.2.2]
    have es : gk_s (gk_g w O p g) m (i + 1) = gk_s (gk_g w O p g) m i + gk_g w O p g (m + i) := rfl
    rw [es]
    by_cases g1 : ((m + i : Nat) : Int) = g
    · have e1 : gk_g w O p g (m + i) = 1000000 := if_pos g1
      rw [e1]
      simp (disch := omega) only [Int.reduceToNat, gq_lit, gq_neg, gq_add, gq_sub, gq_mul, gq_nat, Int.toNat_natCast, gq_tadd, gq_tmul, gq_lte, gq_br, gq_bd, gq_ck, Bool.false_eq_true, gq_leT, gq_leF, gq_ltT, gq_ltF, gq_eqT, gq_eqF, if_true, if_false]
      rfl
    · have e1 : gk_g w O p g (m + i) = gk_f w O p (m + i) := if_neg g1
      rw [e1]
      have ec : f_X12_cost (gq_I p) (gq_I (m + i : Nat)) ν = some (gq_I (gk_f w O p (m + i))) := by
        unfold f_X12_cost gk_f
        by_cases g2 : O (m + i) = p
        · rw [if_pos g2]
          simp (disch := omega) only [Int.reduceToNat, gq_lit, gq_neg, gq_add, gq_sub, gq_mul, gq_nat, Int.toNat_natCast, gq_tadd, gq_tmul, gq_lte, gq_br, gq_bd, gq_ck, Bool.false_eq_true, gq_leT, gq_leF, gq_ltT, gq_ltF, gq_eqT, gq_eqF, if_true, if_false, c2.2]
        · rw [if_neg g2]
          simp (disch := omega) only [Int.reduceToNat, gq_lit, gq_neg, gq_add, gq_sub, gq_mul, gq_nat, Int.toNat_natCast, gq_tadd, gq_tmul, gq_lte, gq_br, gq_bd, gq_ck, Bool.false_eq_true, gq_leT, gq_leF, gq_ltT, gq_ltF, gq_eqT, gq_eqF, if_true, if_false, c2.2, c2.1]
      simp (disch := omega) only [Int.reduceToNat, gq_lit, gq_neg, gq_add, gq_sub, gq_mul, gq_nat, Int.toNat_natCast, gq_tadd, gq_tmul, gq_lte, gq_br, gq_bd, gq_ck, Bool.false_eq_true, gq_leT, gq_leF, gq_ltT, gq_ltF, gq_eqT, gq_eqF, if_true, if_false, ec]
      rfl
def ga_R (φ : Nat → Nat → Bool) (c : Nat → Nat → Int) (b m : Nat) : Int := if φ b m = true then c b m else 1000000
/-- which runs the check allows -/
def gc_al (w B : Nat → Int) (g : Int) (φ : Nat → Nat → Bool) : Prop := ∀ b m : Nat, φ b m = true ↔ (b : Int) < w 2 ∧ gk_run w b m ∧ (B b = -1 ∨ B b = m) ∧ ¬ ((m : Int) ≤ g ∧ g < m + w (7 + b))
theorem gc_al_ex (w B : Nat → Int) (g : Int) : ∃ φ, gc_al w B g φ := ⟨fun b m => @decide _ (Classical.propDecidable ((b : Int) < w 2 ∧ gk_run w b m ∧ (B b = -1 ∨ B b = m) ∧ ¬ ((m : Int) ≤ g ∧ g < m + w (7 + b)))), fun b m => @decide_eq_true_iff _ (Classical.propDecidable _)⟩
theorem gc_rc {ν : gx_M} {s b m : Nat} {w O B : Nat → Int} {p g : Int} {φ : Nat → Nat → Bool} (ok : gq_okS w) (hs : s < 8) (hK : gc_K ν s w O B g) (hO : gc_okK O B g) (hφ : gc_al w B g φ) (hb : (b : Int) < w 2) (hp : -1 ≤ p ∧ p ≤ 4) (hm : m < 40) : f_X12_runCost (gq_I p) (gq_I b) (gq_I m) ν = some (gq_I (ga_R φ (gk_c w O p) b m)) := by
  have o0 := ok.1
  have o2 := ok.2.2.1
  obtain ⟨l1, ⟨f1, f2, f3⟩, _⟩ := ok.2.2.2.2.1 b hb
  have em := gq_mayR ok hs hK.1 hb hm
  have eB := hK.2.2.1 b (by omega)
  have oB := hO.2.1 b (by omega)
  have og := hO.2.2
  by_cases g1 : gk_run w b m
  · rw [decide_eq_true g1] at em
    have lt := gk_lt ok hb g1
    have hr : m + ga_l w b ≤ 40 := by unfold ga_l; omega
    have loop := gc_rcL ok hs hK hO hb hp hr (k := fun (x4_18 : Int32) => some (f_X12_lesser x4_18 (gq_I 1000000))) (ga_l w b) 4000 0 (by unfold ga_l; omega) (by omega)
    have sb := gk_s_ge (f := gk_g w O p g) (m := m) (g := g.toNat) (n := ga_l w b) fun k h1 h2 => by
      have := gk_f_b (O := O) (p := p) (k := k) ok (by omega)
      unfold gk_g
      split <;> omega
    have lb : ga_l w b ≤ 9 := by unfold ga_l; omega
    rw [gp_ls (by omega)] at loop
    by_cases g2 : B b = -1 ∨ B b = m
    · have l2 : f_X12_runCost (gq_I p) (gq_I b) (gq_I m) ν = some (gq_I (if 1000000 ≤ gk_s (gk_g w O p g) m (ga_l w b) then 1000000 else gk_s (gk_g w O p g) m (ga_l w b))) := by
        unfold f_X12_runCost
        rw [em, gq_br, if_pos rfl, gq_ck (by omega), gq_lte, gq_nat (by omega), Int.toNat_natCast, eB]
        by_cases g3 : B b = -1
        · rw [if_pos (by rw [g3]; rfl)]
          exact loop
        · rw [if_neg (by rw [gq_lit, gq_neg, gq_eq (by omega)]; exact g3), if_pos (by rw [g2.resolve_left g3])]
          exact loop
      rw [l2]
      by_cases g3 : (m : Int) ≤ g ∧ g < m + w (7 + b)
      · have hn : ¬ φ b m = true := fun c => ((hφ b m).mp c).2.2.2 g3
        have e1 : gk_g w O p g g.toNat = 1000000 := if_pos (by omega)
        have ge := sb.2.2 (by omega) (by unfold ga_l; omega) (by rw [e1]; omega)
        rw [if_pos ge]
        unfold ga_R
        rw [if_neg hn]
      · have hy : φ b m = true := (hφ b m).mpr ⟨hb, g1, g2, g3⟩
        have e1 : gk_s (gk_g w O p g) m (ga_l w b) = gk_c w O p b m := gk_s_ext fun k h1 h2 => if_neg (by unfold ga_l at h2; omega)
        have cb := gk_c_b (O := O) (p := p) ok hb (m := m) (by omega)
        rw [e1, if_neg (by omega)]
        unfold ga_R
        rw [if_pos hy]
    · have hn : ¬ φ b m = true := fun c => g2 ((hφ b m).mp c).2.2.1
      unfold f_X12_runCost ga_R
      rw [em, gq_br, if_pos rfl, gq_ck (by omega), gq_lte, gq_nat (by omega), Int.toNat_natCast, eB, if_neg (by rw [gq_lit, gq_neg, gq_eq (by omega)]; exact fun c => g2 (Or.inl c)), if_neg (by rw [gq_eq (by omega)]; exact fun c => g2 (Or.inr c)), if_neg hn]
      rfl
  · rw [decide_eq_false g1] at em
    have hn : ¬ φ b m = true := fun c => g1 ((hφ b m).mp c).2.1
    unfold f_X12_runCost ga_R
    rw [em, gq_br, if_neg (by decide), if_neg hn]
    rfl
