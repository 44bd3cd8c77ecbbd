/-! the check's list of runs -/
def gh_win (l m : Nat) : Int64 := ((gq_L 1 <<< (gq_L l &&& gq_L 63)) - gq_L 1) <<< (gq_L m &&& gq_L 63)
theorem gh_win_b {l m j : Nat} (hl : l < 41) (hm : m < 64) (hj : j < 64) : gm_b (gh_win l m) j = decide (m ≤ j ∧ j < m + l) := gm_win hl hm hj
theorem gh_win_0 {l m : Nat} (hl : 1 ≤ l ∧ l < 41) (hm : m < 64) : gh_win l m ≠ gq_L 0 := fun h => by
  have a := gh_win_b (l := l) (m := m) (j := m) hl.2 hm hm
  rw [h, gm_0 m hm, decide_eq_true (by omega)] at a
  exact absurd a (by decide)
theorem gm_one : ∀ j, j < 64 → gm_b (gq_L 1) j = decide (j = 0) := by decide +kernel
theorem gm_shr0 {x : Int64} {i : Nat} (hi : i < 64) : gm_b (x >>> (gq_L i &&& gq_L 63)) 0 = gm_b x i := by
  unfold gm_b
  rw [Int64.toBitVec_shiftRight, BitVec.sshiftRight_eq', gm_amt i hi, BitVec.getLsbD_sshiftRight]
  simp only [Nat.add_zero, hi, if_true]
  rfl
theorem gm_and1 (x : Int64) : (x &&& gq_L 1 = gq_L 1) ↔ gm_b x 0 = true := by
  constructor
  · intro h
    have a := congrArg (fun y => gm_b y 0) h
    simp only [gm_and, gm_one 0 (by omega)] at a
    have a2 : (gm_b x 0 && true) = true := a
    rw [Bool.and_true] at a2
    exact a2
  · intro h
    refine gm_ext fun j hj => ?_
    rw [gm_and, gm_one j hj]
    by_cases e : j = 0
    · rw [e, h]
      rfl
    · rw [decide_eq_false e, Bool.and_false]
theorem gh_has {x : Int64} {m : Nat} (hm : m < 64) : f_X12_hasBit x (gq_I m) = gm_b x m := by
  have e := gm_and1 (x >>> (gq_L m &&& gq_L 63))
  rw [gm_shr0 hm] at e
  unfold f_X12_hasBit
  rw [gq_toL (by omega), show (63 : Int64) = gq_L 63 from rfl, show (1 : Int64) = gq_L 1 from rfl]
  cases h : gm_b x m
  · rw [h] at e
    exact if_neg fun c => absurd (e.mp c) (by decide)
  · exact if_pos (e.mpr h)
/-- which runs are listed -/
def gh_al (w : Nat → Int) (y1 y2 : Int64) (φ : Nat → Nat → Bool) : Prop := ∀ b m : Nat, φ b m = true ↔ (b : Int) < w 2 ∧ gk_run w b m ∧ ∀ j : Nat, m ≤ j → j < m + ga_l w b → gm_b y1 j = false ∧ gm_b y2 j = true
theorem gh_al_ex (w : Nat → Int) (y1 y2 : Int64) : ∃ φ, gh_al w y1 y2 φ := ⟨fun b m => @decide _ (Classical.propDecidable ((b : Int) < w 2 ∧ gk_run w b m ∧ ∀ j : Nat, m ≤ j → j < m + ga_l w b → gm_b y1 j = false ∧ gm_b y2 j = true)), fun b m => @decide_eq_true_iff _ (Classical.propDecidable _)⟩
abbrev gh_P (φ : Nat → Nat → Bool) (j : Nat) : Bool := φ (j / 40) (j % 40)
def gh_R (ν : gx_M) (w : Nat → Int) (φ : Nat → Nat → Bool) (n : Nat) : Prop := ν.1 206 44 = gq_I (gm_cnt (gh_P φ) n : Nat) ∧ ∀ j, j < n → gh_P φ j = true → ν.2 229 (gm_cnt (gh_P φ) j) = gh_win (ga_l w (j / 40)) (j % 40)
theorem gh_lay_w {ν ν' : gx_M} {s : Nat} {w : Nat → Int} (h : gq_lay ν s w) (e : ∀ a j, ¬ (a = 206 ∧ j = 44) → ν'.1 a j = ν.1 a j) : gq_lay ν' s w := by
  obtain ⟨⟨h1, h2, h3, h4⟩, h5⟩ := h
  refine ⟨⟨?_, ?_, ?_, ?_⟩, gq_mS_w h5 ?_⟩
  · rw [e _ _ (by omega)]; exact h1
  · rw [e _ _ (by omega)]; exact h2
  · rw [e _ _ (by omega)]; exact h3
  · rw [e _ _ (by omega)]; exact h4
  · funext j; exact e _ _ (by omega)
theorem gh_cnt_lt {P : Nat → Bool} {j : Nat} : ∀ {n : Nat}, j < n → P j = true → gm_cnt P j < gm_cnt P n
  | 0, h, _ => absurd h (Nat.not_lt_zero _)
  | n + 1, h, hp => by
    by_cases e : j = n
    · subst e
      rw [gl_cntT hp]
      omega
    · have := gh_cnt_lt (n := n) (by omega) hp
      have := gl_mono (φ := P) (i := n) (n := n + 1) (by omega)
      omega
theorem gh_inL {s L T b : Nat} {w : Nat → Int} {y1 y2 : Int64} {φ : Nat → Nat → Bool} (ok : gq_okS w) (hs : s < 8) (hT2 : w 2 = T) (hL : w 0 = L) (hφ : gh_al w y1 y2 φ) (hb : b < T) {k : gx_M → Option (Unit × gx_M)} : ∀ (d f m : Nat) (ν : gx_M), d < f → m + d = L → gq_lay ν s w → gh_R ν w φ (40 * b + m) → ∃ ν', L_X12_findRuns_20 (gq_I b) y1 y2 k f (gq_I m) ν = k ν' ∧ gh_R ν' w φ (40 * b + L) ∧ (∀ a j, ¬ (a = 206 ∧ j = 44) → ν'.1 a j = ν.1 a j) ∧ (∀ a, a ≠ 229 → ν'.2 a = ν.2 a)
  | _, 0, _, _, hf, _, _, _ => absurd hf (Nat.not_lt_zero _)
  | 0, f + 1, m, ν, hf, hi, hl, hR => by
    have o0 := ok.1
    refine ⟨ν, ?_, ?_, fun _ _ _ => rfl, fun _ _ => rfl⟩
    · rw [L_X12_findRuns_20.eq_2, hl.1.2.1, hL]
      exact if_pos (by rw [gq_le (by omega)]; omega)
    · rw [show L = m by omega]
      exact hR
  | d + 1, f + 1, m, ν, hf, hi, hl, hR => by
    have o0 := ok.1
    have o2 := ok.2.2.1
    have hbw : (b : Int) < w 2 := by omega
    obtain ⟨l1, ⟨f1, f2, f3⟩, _⟩ := ok.2.2.2.2.1 b hbw
    have em := gq_mayR ok hs hl hbw (m := m) (by omega)
    have er := gq_runB ok hs hl hbw (m := m) (by omega)
    have ewl : w (7 + b) = (ga_l w b : Int) := by unfold ga_l; omega
    rw [ewl] at er l1
    have er : f_X12_runBits (gq_I b) (gq_I m) ν = some (gh_win (ga_l w b) m) := er
    have hPj : gh_P φ (40 * b + m) = φ b m := by
      unfold gh_P
      rw [show (40 * b + m) / 40 = b by omega, show (40 * b + m) % 40 = m by omega]
    have cle := gm_cnt_le (gh_P φ) (40 * b + m)
    have skip : φ b m = false → L_X12_findRuns_20 (gq_I b) y1 y2 k (f + 1) (gq_I m) ν = L_X12_findRuns_20 (gq_I b) y1 y2 k f (gq_I (m + 1 : Nat)) ν → ∃ ν', L_X12_findRuns_20 (gq_I b) y1 y2 k (f + 1) (gq_I m) ν = k ν' ∧ gh_R ν' w φ (40 * b + L) ∧ (∀ a j, ¬ (a = 206 ∧ j = 44) → ν'.1 a j = ν.1 a j) ∧ (∀ a, a ≠ 229 → ν'.2 a = ν.2 a) := fun h1 h2 => by
      have hR' : gh_R ν w φ (40 * b + (m + 1)) := by
        refine ⟨?_, fun j hj hp => ?_⟩
        · rw [show 40 * b + (m + 1) = 40 * b + m + 1 by omega, gl_cntF (by rw [hPj]; exact h1)]
          exact hR.1
        · by_cases e : j = 40 * b + m
          · rw [e, hPj, h1] at hp
            exact absurd hp (by decide)
          · exact hR.2 j (by omega) hp
      obtain ⟨ν', e1, e2, e3, e4⟩ := gh_inL ok hs hT2 hL hφ hb (k := k) d f (m + 1) ν (by omega) (by omega) hl hR'
      exact ⟨ν', h2.trans e1, e2, e3, e4⟩
    by_cases g1 : gk_run w b m
    · rw [decide_eq_true g1] at em
      have lt := gk_lt ok hbw g1
      have e1 := gm_out (x := y1) (n := ga_l w b) (i := m) (by omega) (by omega) (by omega)
      have e2 := gm_in (x := y2) (n := ga_l w b) (i := m) (by omega) (by omega) (by omega)
      have w0 := gh_win_0 (l := ga_l w b) (m := m) (by omega) (by omega)
      have w0' : ¬ gh_win (ga_l w b) m = 0 := w0
      by_cases g2 : ∀ j, m ≤ j → j < m + ga_l w b → gm_b y1 j = false
      · have p2 : gh_win (ga_l w b) m &&& y1 = 0 := e1.mpr g2
        by_cases g3 : ∀ j, m ≤ j → j < m + ga_l w b → gm_b y2 j = true
        · have p3 : gh_win (ga_l w b) m &&& (y2 ^^^ (-1)) = 0 := e2.mpr g3
          have hy : φ b m = true := (hφ b m).mpr ⟨hbw, g1, fun j h1 h2 => ⟨g2 j h1 h2, g3 j h1 h2⟩⟩
          obtain ⟨c, hc⟩ : ∃ c : Nat, c = gm_cnt (gh_P φ) (40 * b + m) := ⟨_, rfl⟩
          have e44 := hR.1
          rw [← hc] at e44 cle
          obtain ⟨ν1, hν1⟩ : ∃ ν1, ν1 = gx_uI (gx_uL ν 229 c (gh_win (ga_l w b) m)) 206 44 (gq_I (c + 1 : Nat)) := ⟨_, rfl⟩
          have x1 : ∀ a j, ¬ (a = 206 ∧ j = 44) → ν1.1 a j = ν.1 a j := fun a j h => by
            rw [hν1, gq_uI1, if_neg h]
            rfl
          have x2 : ∀ a j, ¬ (a = 229 ∧ j = c) → ν1.2 a j = ν.2 a j := fun a j h => by
            rw [hν1, gq_uI2, gq_uL2, if_neg h]
          have hR' : gh_R ν1 w φ (40 * b + (m + 1)) := by
            have ec : gm_cnt (gh_P φ) (40 * b + (m + 1)) = c + 1 := by
              rw [show 40 * b + (m + 1) = 40 * b + m + 1 by omega, gl_cntT (by rw [hPj]; exact hy), hc]
            refine ⟨?_, fun j hj hp => ?_⟩
            · rw [ec, hν1]
              rfl
            · by_cases e : j = 40 * b + m
              · rw [e, ← hc, show (40 * b + m) / 40 = b by omega, show (40 * b + m) % 40 = m by omega, hν1, gq_uI2, gq_uL2, if_pos ⟨rfl, rfl⟩]
              · have := gh_cnt_lt (P := gh_P φ) (j := j) (n := 40 * b + m) (by omega) hp
                rw [x2 _ _ (by omega)]
                exact hR.2 j (by omega) hp
          obtain ⟨ν', y3, y4, y5, y6⟩ := gh_inL ok hs hT2 hL hφ hb (k := k) d f (m + 1) ν1 (by omega) (by omega) (gh_lay_w hl x1) hR'
          refine ⟨ν', ?_, y4, fun a j h => (y5 a j h).trans (x1 a j h), fun a ha => (y6 a ha).trans (funext fun j => x2 a j fun c => ha c.1)⟩
          rw [← y3, L_X12_findRuns_20.eq_2, hl.1.2.1, hL, hν1]
          simp (disch := omega) only [Int.reduceToNat, gq_lit, gq_neg, gq_add, gq_sub, gq_mul, gq_nat, Int.toNat_natCast, gq_tadd, gq_tmul, gq_lte, gq_br, gq_bd, gq_ck, Bool.false_eq_true, gq_leT, gq_leF, gq_ltT, gq_ltF, gq_eqT, gq_eqF, if_true, if_false, em, er]
          rw [if_neg w0', if_pos p2, if_pos p3, e44]
          simp (disch := omega) only [Int.reduceToNat, gq_lit, gq_neg, gq_add, gq_sub, gq_mul, gq_nat, Int.toNat_natCast, gq_tadd, gq_tmul, gq_lte, gq_br, gq_bd, gq_ck, Bool.false_eq_true, gq_leT, gq_leF, gq_ltT, gq_ltF, gq_eqT, gq_eqF, if_true, if_false]
          have e44b : (gx_uL ν 229 c (gh_win (ga_l w b) m)).1 206 44 = gq_I c := e44
          rw [e44b, gq_add]
          rfl
        · refine skip ?_ ?_
          · cases h : φ b m
            · rfl
            · exact absurd (fun j h1 h2 => (((hφ b m).mp h).2.2 j h1 h2).2) g3
          · have p3 : ¬ gh_win (ga_l w b) m &&& (y2 ^^^ (-1)) = 0 := fun c => g3 (e2.mp c)
            rw [L_X12_findRuns_20.eq_2, hl.1.2.1, hL]
            simp (disch := omega) only [Int.reduceToNat, gq_lit, gq_neg, gq_add, gq_sub, gq_mul, gq_nat, Int.toNat_natCast, gq_tadd, gq_tmul, gq_lte, gq_br, gq_bd, gq_ck, Bool.false_eq_true, gq_leT, gq_leF, gq_ltT, gq_ltF, gq_eqT, gq_eqF, if_true, if_false, em, er]
            rw [if_neg w0', if_pos p2, if_neg p3]
            rfl
      · refine skip ?_ ?_
        · cases h : φ b m
          · rfl
          · exact absurd (fun j h1 h2 => (((hφ b m).mp h).2.2 j h1 h2).1) g2
        · have p2 : ¬ gh_win (ga_l w b) m &&& y1 = 0 := fun c => g2 (e1.mp c)
          rw [L_X12_findRuns_20.eq_2, hl.1.2.1, hL]
          simp (disch := omega) only [Int.reduceToNat, gq_lit, gq_neg, gq_add, gq_sub, gq_mul, gq_nat, Int.toNat_natCast, gq_tadd, gq_tmul, gq_lte, gq_br, gq_bd, gq_ck, Bool.false_eq_true, gq_leT, gq_leF, gq_ltT, gq_ltF, gq_eqT, gq_eqF, if_true, if_false, em, er]
          rw [if_neg w0', if_neg p2]
          rfl
    · rw [decide_eq_false g1] at em
      refine skip ?_ ?_
      · cases h : φ b m
        · rfl
        · exact absurd ((hφ b m).mp h).2.1 g1
      · rw [L_X12_findRuns_20.eq_2, hl.1.2.1, hL]
        simp (disch := omega) only [Int.reduceToNat, gq_lit, gq_neg, gq_add, gq_sub, gq_mul, gq_nat, Int.toNat_natCast, gq_tadd, gq_tmul, gq_lte, gq_br, gq_bd, gq_ck, Bool.false_eq_true, gq_leT, gq_leF, gq_ltT, gq_ltF, gq_eqT, gq_eqF, if_true, if_false, em]
        rfl
theorem gh_hi {w : Nat → Int} {y1 y2 : Int64} {φ : Nat → Nat → Bool} {b m L : Nat} (ok : gq_okS w) (hL : w 0 = L) (hφ : gh_al w y1 y2 φ) (h : φ b m = true) : ((b : Int) < w 2) ∧ (1 ≤ ga_l w b ∧ ga_l w b ≤ 9) ∧ m + ga_l w b ≤ L ∧ L ≤ 40 := by
  have o0 := ok.1
  obtain ⟨h1, h2, _⟩ := (hφ b m).mp h
  have lt := gk_lt ok h1 h2
  have l1 := (ok.2.2.2.2.1 b h1).1
  unfold ga_l
  omega
theorem gh_outL {s L T : Nat} {w : Nat → Int} {y1 y2 : Int64} {φ : Nat → Nat → Bool} (ok : gq_okS w) (hs : s < 8) (hT2 : w 2 = T) (hL : w 0 = L) (hφ : gh_al w y1 y2 φ) {k : gx_M → Option (Unit × gx_M)} : ∀ (d f b : Nat) (ν : gx_M), d < f → b + d = T → gq_lay ν s w → gh_R ν w φ (40 * b) → ∃ ν', L_X12_findRuns_8 y1 y2 k f (gq_I b) ν = k ν' ∧ gh_R ν' w φ (40 * T) ∧ (∀ a j, ¬ (a = 206 ∧ j = 44) → ν'.1 a j = ν.1 a j) ∧ (∀ a, a ≠ 229 → ν'.2 a = ν.2 a)
  | _, 0, _, _, hf, _, _, _ => absurd hf (Nat.not_lt_zero _)
  | 0, f + 1, b, ν, hf, hi, hl, hR => by
    have o2 := ok.2.2.1
    refine ⟨ν, ?_, ?_, fun _ _ _ => rfl, fun _ _ => rfl⟩
    · rw [L_X12_findRuns_8.eq_2, hl.1.2.2.2, hT2]
      exact if_pos (by rw [gq_le (by omega)]; omega)
    · rw [show T = b by omega]
      exact hR
  | d + 1, f + 1, b, ν, hf, hi, hl, hR => by
    have o0 := ok.1
    have o2 := ok.2.2.1
    obtain ⟨ν1, a1, a2, a3, a4⟩ := gh_inL ok hs hT2 hL hφ (b := b) (by omega) (k := fun (μ25 : gx_M) => L_X12_findRuns_8 y1 y2 k f (gq_I b + 1) μ25) L 4000 0 ν (by omega) (by omega) hl hR
    have tail : ∀ j, 40 * b + L ≤ j → j < 40 * b + L + (40 - L) → gh_P φ j = false := fun j h1 h2 => by
      cases h : gh_P φ j
      · rfl
      · have := (gh_hi ok hL hφ h).2
        omega
    have ct := gm_cnt_tail (b := gh_P φ) (i := 40 * b + L) (n := 40 - L) tail
    rw [show 40 * b + L + (40 - L) = 40 * (b + 1) by omega] at ct
    have hR1 : gh_R ν1 w φ (40 * (b + 1)) := by
      refine ⟨by rw [ct]; exact a2.1, fun j hj hp => ?_⟩
      by_cases e : j < 40 * b + L
      · exact a2.2 j e hp
      · rw [tail j (by omega) (by omega)] at hp
        exact absurd hp (by decide)
    obtain ⟨ν', e1, e2, e3, e4⟩ := gh_outL ok hs hT2 hL hφ (k := k) d f (b + 1) ν1 (by omega) (by omega) (gh_lay_w hl a3) hR1
    refine ⟨ν', ?_, e2, fun a j h => (e3 a j h).trans (a3 a j h), fun a h => (e4 a h).trans (a4 a h)⟩
    rw [← e1, L_X12_findRuns_8.eq_2, hl.1.2.2.2, hT2]
    refine (if_neg (by rw [gq_le (by omega)]; omega)).trans ?_
    refine a1.trans ?_
    rw [gq_suc]
theorem gh_find {ν : gx_M} {s L T : Nat} {w : Nat → Int} {y1 y2 : Int64} {φ : Nat → Nat → Bool} (ok : gq_okS w) (hs : s < 8) (hT2 : w 2 = T) (hL : w 0 = L) (hφ : gh_al w y1 y2 φ) (hl : gq_lay ν s w) : ∃ ν', f_X12_findRuns y1 y2 ν = some ((), ν') ∧ gh_R ν' w φ (40 * T) ∧ (∀ a j, ¬ (a = 206 ∧ j = 44) → ν'.1 a j = ν.1 a j) ∧ (∀ a, a ≠ 229 → ν'.2 a = ν.2 a) := by
  have o2 := ok.2.2.1
  obtain ⟨ν', e1, e2, e3, e4⟩ := gh_outL ok hs hT2 hL hφ (k := fun (μ27 : gx_M) => some ((), μ27)) T 4000 0 (gx_uI ν 206 44 (gq_I 0)) (by omega) (by omega) (gh_lay_w hl fun a j h => by rw [gq_uI1, if_neg h]) ⟨rfl, fun j hj => absurd hj (by omega)⟩
  refine ⟨ν', ?_, e2, fun a j h => (e3 a j h).trans (by rw [gq_uI1, if_neg h]), fun a h => e4 a h⟩
  unfold f_X12_findRuns
  simp only [gq_lit, gq_lte]
  exact e1
/-- of every place in the list a code -/
theorem gh_inv {P : Nat → Bool} : ∀ {n i : Nat}, i < gm_cnt P n → ∃ j, j < n ∧ P j = true ∧ gm_cnt P j = i
  | 0, i, h => absurd h (Nat.not_lt_zero _)
  | n + 1, i, h => by
    cases hp : P n
    · rw [gl_cntF hp] at h
      obtain ⟨j, h1, h2⟩ := gh_inv (n := n) h
      exact ⟨j, by omega, h2⟩
    · rw [gl_cntT hp] at h
      by_cases e : i = gm_cnt P n
      · exact ⟨n, by omega, hp, e.symm⟩
      · obtain ⟨j, h1, h2⟩ := gh_inv (P := P) (n := n) (i := i) (by omega)
        exact ⟨j, by omega, h2⟩
theorem gh_allL {ν : gx_M} {n : Nat} {x : Int64} (hn : n ≤ 240) (h : ν.1 206 44 = gq_I n) : ∀ (d f i : Nat), d < f → i + d = n → ∃ r : Bool, L_X12_allHit_2 ν x (some true) f (gq_I i) = some r ∧ (r = true ↔ ∀ k, i ≤ k → k < n → ν.2 229 k &&& x ≠ 0)
  | _, 0, _, hf, _ => absurd hf (Nat.not_lt_zero _)
  | 0, f + 1, i, hf, hi => by
    refine ⟨true, ?_, fun _ k h1 h2 => absurd h2 (by omega), fun _ => rfl⟩
    rw [L_X12_allHit_2.eq_2, h]
    exact if_pos (by rw [gq_le (by omega)]; omega)
  | d + 1, f + 1, i, hf, hi => by
    obtain ⟨r, r1, r2⟩ := gh_allL (x := x) hn h d f (i + 1) (by omega) (by omega)
    by_cases g : ν.2 229 i &&& x = 0
    · refine ⟨false, ?_, fun c => absurd c (by decide), fun c => absurd g (c i (Nat.le_refl _) (by omega))⟩
      rw [L_X12_allHit_2.eq_2, h]
      simp (disch := omega) only [Int.reduceToNat, gq_lit, gq_neg, gq_add, gq_sub, gq_mul, gq_nat, Int.toNat_natCast, gq_tadd, gq_tmul, gq_lte, gq_br, gq_bd, gq_ck, Bool.false_eq_true, gq_leT, gq_leF, gq_ltT, gq_ltF, gq_eqT, gq_eqF, if_true, if_false]
      exact if_pos g
    · refine ⟨r, ?_, r2.trans ⟨fun c k h1 h2 => ?_, fun c k h1 h2 => c k (by omega) h2⟩⟩
      · rw [← r1, L_X12_allHit_2.eq_2, h]
        simp (disch := omega) only [Int.reduceToNat, gq_lit, gq_neg, gq_add, gq_sub, gq_mul, gq_nat, Int.toNat_natCast, gq_tadd, gq_tmul, gq_lte, gq_br, gq_bd, gq_ck, Bool.false_eq_true, gq_leT, gq_leF, gq_ltT, gq_ltF, gq_eqT, gq_eqF, if_true, if_false]
        exact if_neg g
      · by_cases e : k = i
        · rw [e]; exact g
        · exact c k (by omega) h2
theorem gh_all {ν : gx_M} {T L : Nat} {w : Nat → Int} {y1 y2 : Int64} {φ : Nat → Nat → Bool} (x : Int64) (ok : gq_okS w) (hT2 : w 2 = T) (hL : w 0 = L) (hφ : gh_al w y1 y2 φ) (hR : gh_R ν w φ (40 * T)) : ∃ r : Bool, f_X12_allHit x ν = some r ∧ (r = true ↔ ∀ b m, φ b m = true → ∃ j, m ≤ j ∧ j < m + ga_l w b ∧ gm_b x j = true) := by
  have o2 := ok.2.2.1
  have cle := gm_cnt_le (gh_P φ) (40 * T)
  obtain ⟨r, r1, r2⟩ := gh_allL (x := x) (n := gm_cnt (gh_P φ) (40 * T)) (by omega) hR.1 (gm_cnt (gh_P φ) (40 * T)) 4000 0 (by omega) (by omega)
  refine ⟨r, ?_, r2.trans ?_⟩
  · unfold f_X12_allHit
    simp only [gq_lit]
    exact r1
  · have one : ∀ b m, φ b m = true → (gh_win (ga_l w b) m &&& x ≠ 0 ↔ ∃ j, m ≤ j ∧ j < m + ga_l w b ∧ gm_b x j = true) := fun b m h => by
      obtain ⟨_, h1, h2, h3⟩ := gh_hi ok hL hφ h
      have e := gm_out (x := x) (n := ga_l w b) (i := m) (by omega) (by omega) (by omega)
      constructor
      · intro hn
        by_cases g : ∃ j, m ≤ j ∧ j < m + ga_l w b ∧ gm_b x j = true
        · exact g
        · refine absurd (e.mpr fun j a1 a2 => ?_) hn
          cases hb : gm_b x j
          · rfl
          · exact absurd ⟨j, a1, a2, hb⟩ g
      · rintro ⟨j, a1, a2, a3⟩ hn
        have := e.mp hn j a1 a2
        rw [a3] at this
        exact absurd this (by decide)
    constructor
    · intro h b m hbm
      obtain ⟨h0, h1, h2, h3⟩ := gh_hi ok hL hφ hbm
      have hP : gh_P φ (40 * b + m) = true := by
        unfold gh_P
        rw [show (40 * b + m) / 40 = b by omega, show (40 * b + m) % 40 = m by omega]
        exact hbm
      have k1 := hR.2 (40 * b + m) (by omega) hP
      rw [show (40 * b + m) / 40 = b by omega, show (40 * b + m) % 40 = m by omega] at k1
      have k2 := h _ (Nat.zero_le _) (gh_cnt_lt (P := gh_P φ) (j := 40 * b + m) (n := 40 * T) (by omega) hP)
      rw [k1] at k2
      exact (one b m hbm).mp k2
    · intro h k _ hk
      obtain ⟨j, j1, j2, j3⟩ := gh_inv hk
      have k1 := hR.2 j j1 j2
      rw [j3] at k1
      rw [k1]
      exact (one _ _ j2).mpr (h _ _ j2)
