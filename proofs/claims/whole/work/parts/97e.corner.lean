/-! corner, robbed -/
theorem gh_p1 {R : Nat → Nat → Prop} {M : Nat → Prop} {L a : Nat} (hM : ∀ m, M m → m < L) : gh_PA R M L 1 a ↔ gh_C R M 0 0 a := by
  have ch := gh_H_ch (R := R) (a := a) (b := a) (c := a) (Nat.le_refl _) (Nat.le_refl _)
  constructor
  · rintro ⟨_, b, hb, c, hc, t1, t2, t3, t4⟩
    have e1 : b = a := by omega
    have e2 : c = a := by omega
    subst e1
    subst e2
    have k := ch.mp t4
    exact ⟨Nat.zero_le _, t1, fun st e r _ => k.1 st e r, k.2.2.2⟩
  · rintro ⟨_, t1, t2, t3⟩
    refine ⟨hM a t1, a, Or.inl ⟨Nat.le_refl _, rfl⟩, a, Or.inl ⟨by omega, rfl⟩, t1, t1, t1, ch.mpr ⟨fun st e r => t2 st e r (Nat.zero_le _), fun st e r _ => t2 st e r (Nat.zero_le _), fun st e r _ => t2 st e r (Nat.zero_le _), t3⟩⟩
/-- the first one is right -/
def gh_1 (R : Nat → Nat → Prop) (M : Nat → Prop) (a : Nat) : Prop := M a ∧ ∀ st e, R st e → a ≤ e
theorem gh_p2 {R : Nat → Nat → Prop} {M : Nat → Prop} {L a b : Nat} (hM : ∀ m, M m → m < L) : gh_PB R M L 2 a b ↔ gh_1 R M a ∧ gh_C R M 0 (a + 1) b := by
  constructor
  · rintro ⟨hb, c, hc, t1, t2, t3, t4⟩
    have e2 : c = b := by omega
    subst e2
    have k := (gh_H_ch (R := R) (a := a) (b := c) (c := c) (by omega) (Nat.le_refl _)).mp t4
    exact ⟨⟨t1, k.1⟩, by omega, t2, k.2.1, k.2.2.2⟩
  · rintro ⟨⟨t1, t2⟩, t3, t4, t5, t6⟩
    have := hM b t4
    refine ⟨Or.inr ⟨Nat.le_refl _, by omega, this⟩, b, Or.inl ⟨Nat.le_refl _, rfl⟩, t1, t4, t4, (gh_H_ch (R := R) (a := a) (b := b) (c := b) (by omega) (Nat.le_refl _)).mpr ⟨t2, t5, fun st e r g => t5 st e r (by omega), t6⟩⟩
theorem gh_p2a {R : Nat → Nat → Prop} {M : Nat → Prop} {L a : Nat} (hM : ∀ m, M m → m < L) : gh_PA R M L 2 a ↔ gh_C R M 1 0 a := by
  constructor
  · rintro ⟨_, b, h⟩
    obtain ⟨⟨t1, t2⟩, t3⟩ := (gh_p2 hM).mp h
    exact ⟨Nat.zero_le _, t1, fun st e r _ => t2 st e r, b, t3⟩
  · rintro ⟨_, t1, t2, b, t3⟩
    exact ⟨hM a t1, b, (gh_p2 hM).mpr ⟨⟨t1, fun st e r => t2 st e r (Nat.zero_le _)⟩, t3⟩⟩
theorem gh_p3 {R : Nat → Nat → Prop} {M : Nat → Prop} {L a b c : Nat} (hM : ∀ m, M m → m < L) (hab : a < b) : gh_PC R M L 3 a b c ↔ gh_1 R M a ∧ (M b ∧ ∀ st e, R st e → a + 1 ≤ st → b ≤ e) ∧ gh_C R M 0 (b + 1) c := by
  constructor
  · rintro ⟨hc, t1, t2, t3, t4⟩
    have k := (gh_H_ch (R := R) (a := a) (b := b) (c := c) (by omega) (by omega)).mp t4
    exact ⟨⟨t1, k.1⟩, ⟨t2, k.2.1⟩, by omega, t3, k.2.2.1, k.2.2.2⟩
  · rintro ⟨⟨t1, t2⟩, ⟨t3, t4⟩, t5, t6, t7, t8⟩
    have := hM c t6
    exact ⟨Or.inr ⟨Nat.le_refl _, by omega, this⟩, t1, t3, t6, (gh_H_ch (R := R) (a := a) (b := b) (c := c) (by omega) (by omega)).mpr ⟨t2, t4, t7, t8⟩⟩
theorem gh_p3b {R : Nat → Nat → Prop} {M : Nat → Prop} {L a b : Nat} (hM : ∀ m, M m → m < L) : gh_PB R M L 3 a b ↔ gh_1 R M a ∧ gh_C R M 1 (a + 1) b := by
  constructor
  · rintro ⟨hb, c, h⟩
    obtain ⟨t1, ⟨t2, t3⟩, t4⟩ := (gh_p3 hM (by omega)).mp h
    exact ⟨t1, by omega, t2, t3, c, t4⟩
  · rintro ⟨t1, t2, t3, t4, c, t5⟩
    have := hM b t3
    exact ⟨Or.inr ⟨by omega, by omega, this⟩, c, (gh_p3 hM (by omega)).mpr ⟨t1, ⟨t3, t4⟩, t5⟩⟩
theorem gh_p3a {R : Nat → Nat → Prop} {M : Nat → Prop} {L a : Nat} (hM : ∀ m, M m → m < L) : gh_PA R M L 3 a ↔ gh_C R M 2 0 a := by
  constructor
  · rintro ⟨_, b, h⟩
    obtain ⟨⟨t1, t2⟩, t3⟩ := (gh_p3b hM).mp h
    exact ⟨Nat.zero_le _, t1, fun st e r _ => t2 st e r, b, t3⟩
  · rintro ⟨_, t1, t2, b, t3⟩
    exact ⟨hM a t1, b, (gh_p3b hM).mpr ⟨⟨t1, fun st e r => t2 st e r (Nat.zero_le _)⟩, t3⟩⟩
theorem gh_pa {R : Nat → Nat → Prop} {M : Nat → Prop} {L n a : Nat} (hM : ∀ m, M m → m < L) (hn : 1 ≤ n ∧ n ≤ 3) : gh_PA R M L n a ↔ gh_C R M (n - 1) 0 a := by
  rcases (by omega : n = 1 ∨ n = 2 ∨ n = 3) with h | h | h <;> subst h
  · exact gh_p1 hM
  · exact gh_p2a hM
  · exact gh_p3a hM
def gh_r (a b c i : Nat) : Nat := if i = 0 then a else if i = 1 then b else c
theorem gh_up_r (ν : gx_M) (a b c : Nat) : ∀ i, i < 3 → (gh_up ν a b c).1 230 i = gq_I (gh_r a b c i) := fun i hi => by
  rcases (by omega : i = 0 ∨ i = 1 ∨ i = 2) with h | h | h <;> subst h <;> rfl
theorem gh_row_F {R : Nat → Nat → Prop} {M : Nat → Prop} {L n a b c : Nat} (hM : ∀ m, M m → m < L) (hn : 1 ≤ n ∧ n ≤ 3) (a1 : gh_PA R M L n a) (a2 : ∀ a', a' < a → ¬ gh_PA R M L n a') (b1 : gh_PB R M L n a b) (b2 : ∀ b', b' < b → ¬ gh_PB R M L n a b') (c1 : gh_PC R M L n a b c) (c2 : ∀ c', c' < c → ¬ gh_PC R M L n a b c') : gh_F R M n 0 (gh_r a b c) := by
  have A1 := (gh_pa hM hn).mp a1
  have A2 : ∀ a', a' < a → ¬ gh_C R M (n - 1) 0 a' := fun a' h c => a2 a' h ((gh_pa hM hn).mpr c)
  rcases (by omega : n = 1 ∨ n = 2 ∨ n = 3) with h | h | h <;> subst h
  · exact ⟨A1, A2, trivial⟩
  · obtain ⟨f1, f2⟩ := (gh_p2 hM).mp b1
    exact ⟨A1, A2, f2, fun b' h c => b2 b' h ((gh_p2 hM).mpr ⟨f1, c⟩), trivial⟩
  · obtain ⟨f1, f2⟩ := (gh_p3b hM).mp b1
    have hab : a < b := f2.1
    obtain ⟨_, g2, g3⟩ := (gh_p3 hM hab).mp c1
    exact ⟨A1, A2, f2, fun b' h c => b2 b' h ((gh_p3b hM).mpr ⟨f1, c⟩), g3, fun c' h d => c2 c' h ((gh_p3 hM hab).mpr ⟨f1, g2, d⟩), trivial⟩
theorem gh_fewL {ν : gx_M} {T L : Nat} {w : Nat → Int} {y1 y2 y : Int64} {φ : Nat → Nat → Bool} (ok : gq_okS w) (hT2 : w 2 = T) (hL : w 0 = L) (h25 : ν.1 206 25 = gq_I L) (hφ : gh_al w y1 y2 φ) (hR : gh_R ν w φ (40 * T)) (hM : ∀ m, gh_M y m → m < L) : ∀ (d f n : Nat), d < f → n + d = 4 → 1 ≤ n → (∀ j, j < n → ¬ gh_E (gh_Rn w φ) (gh_M y) j 0) → ∃ (N : Int) (r : Nat → Nat) (ν' : gx_M), L_X12_fewestHits_12 y (fun m => some (gq_I (-1), m)) f (gq_I n) ν = some (gq_I N, ν') ∧ gh_res (gh_Rn w φ) (gh_M y) N r ∧ (∀ i : Nat, (i : Int) < N → ν'.1 230 i = gq_I (r i)) ∧ (∀ a j, a ≠ 230 → ν'.1 a j = ν.1 a j) ∧ ν'.2 = ν.2
  | _, 0, _, hf, _, _, _ => absurd hf (Nat.not_lt_zero _)
  | 0, f + 1, n, hf, hn, h1, hmin => by
    refine ⟨-1, fun _ => 0, ν, ?_, Or.inl ⟨rfl, fun k hk => hmin k (by omega)⟩, fun i hi => by omega, fun _ _ _ => rfl, rfl⟩
    rw [L_X12_fewestHits_12.eq_2]
    exact if_pos (by rw [gq_lit, gq_lt (by omega)]; omega)
  | d + 1, f + 1, n, hf, hn, h1, hmin => by
    have o0 := ok.1
    have base : L_X12_fewestHits_12 y (fun m => some (gq_I (-1), m)) (f + 1) (gq_I n) ν = L_X12_fewestHits_20 (gq_I n) y (fun (μ44 : gx_M) => L_X12_fewestHits_12 y (fun m => some (gq_I (-1), m)) f (gq_I (n + 1 : Nat)) μ44) 4000 (gq_I (0 : Nat)) ν := by
      rw [L_X12_fewestHits_12.eq_2]
      refine (if_neg (by rw [gq_lit, gq_lt (by omega)]; omega)).trans ?_
      simp only [gq_suc]
      rfl
    have n3 : 1 ≤ n ∧ n ≤ 3 := by omega
    rcases gh_a20 (y := y) ok hT2 hL h25 hφ hR n3 (k := fun (μ44 : gx_M) => L_X12_fewestHits_12 y (fun m => some (gq_I (-1), m)) f (gq_I (n + 1 : Nat)) μ44) L 4000 0 (by omega) (by omega) (fun a' h => absurd h (Nat.not_lt_zero _)) with ⟨a, b, c, x1, x2, x3, x4, x5, x6, x7⟩ | ⟨x1, x2⟩
    · have hE : gh_E (gh_Rn w φ) (gh_M y) n 0 := by
        have := (gh_pa hM n3).mp x1
        rw [show n = (n - 1) + 1 by omega]
        exact ⟨a, this⟩
      refine ⟨n, gh_r a b c, gh_up ν a b c, base.trans x7, Or.inr ⟨n, rfl, by omega, hE, hmin, gh_row_F hM n3 x1 x2 x3 x4 x5 x6⟩, fun i hi => gh_up_r ν a b c i (by omega), fun y j hy => ?_, rfl⟩
      unfold gh_up
      rw [gq_uI1, if_neg fun c => hy c.1, gq_uI1, if_neg fun c => hy c.1, gq_uI1, if_neg fun c => hy c.1]
    · obtain ⟨N, r, ν', z1, z2⟩ := gh_fewL ok hT2 hL h25 hφ hR hM d f (n + 1) (by omega) (by omega) (by omega) fun j hj => by
        by_cases e : j = n
        · subst e
          intro c
          rw [show j = (j - 1) + 1 by omega] at c
          obtain ⟨a, ha⟩ := c
          exact x1 a ((gh_pa hM n3).mpr ha)
        · exact hmin j (by omega)
      exact ⟨N, r, ν', base.trans (x2.trans z1), z2⟩
theorem gh_few {ν : gx_M} {T L : Nat} {w : Nat → Int} {y1 y2 y : Int64} {φ : Nat → Nat → Bool} (ok : gq_okS w) (hT2 : w 2 = T) (hL : w 0 = L) (h25 : ν.1 206 25 = gq_I L) (hφ : gh_al w y1 y2 φ) (hR : gh_R ν w φ (40 * T)) (hM : ∀ m, gh_M y m → m < L) : ∃ (N : Int) (r : Nat → Nat) (ν' : gx_M), f_X12_fewestHits y ν = some (gq_I N, ν') ∧ gh_res (gh_Rn w φ) (gh_M y) N r ∧ (∀ i : Nat, (i : Int) < N → ν'.1 230 i = gq_I (r i)) ∧ (∀ a j, a ≠ 230 → ν'.1 a j = ν.1 a j) ∧ ν'.2 = ν.2 := by
  obtain ⟨t, t1, t2⟩ := gh_all (gq_L 0) ok hT2 hL hφ hR
  have e0 : t = true ↔ gh_E (gh_Rn w φ) (gh_M y) 0 0 := t2.trans ⟨fun h st e ⟨b, h1, h2⟩ => by
    obtain ⟨j, j1, j2, j3⟩ := h b st h1
    have hi := gh_hi ok hL hφ h1
    rw [gm_0 j (by omega)] at j3
    exact absurd j3 (by decide), fun h b m h1 => by
    have hi := gh_hi ok hL hφ h1
    exact absurd (h m (m + ga_l w b - 1) ⟨b, h1, by omega⟩) (Nat.not_lt_zero _)⟩
  have t1' : f_X12_allHit 0 ν = some t := t1
  cases t with
  | true =>
    refine ⟨0, fun _ => 0, ν, ?_, Or.inr ⟨0, rfl, by omega, e0.mp rfl, fun j hj => absurd hj (Nat.not_lt_zero _), trivial⟩, fun i hi => by omega, fun _ _ _ => rfl, rfl⟩
    unfold f_X12_fewestHits
    rw [t1', gq_br, if_pos rfl]
    rfl
  | false =>
    obtain ⟨N, r, ν', z1, z2⟩ := gh_fewL ok hT2 hL h25 hφ hR hM 3 4000 1 (by omega) (by omega) (by omega) fun j hj c => by
      rw [show j = 0 by omega] at c
      exact absurd (e0.mpr c) (by decide)
    refine ⟨N, r, ν', ?_, z2⟩
    unfold f_X12_fewestHits
    rw [t1', gq_br, if_neg (by decide)]
    exact z1
theorem gh_hit {ν ν' : gx_M} {y : Int64} {N q : Int} {r : Nat → Nat} (hN : -1 ≤ N ∧ N ≤ 3) (hq : -2147483648 ≤ q ∧ q < 2147483648) (h1 : f_X12_fewestHits y ν = some (gq_I N, ν')) (h2 : ∀ i : Nat, (i : Int) < N → ν'.1 230 i = gq_I (r i)) : f_X12_hitOf y (gq_I q) ν = some (gq_I (gh_ans N q r), ν') := by
  unfold f_X12_hitOf gh_ans
  rw [h1, gq_bd]
  simp only [gq_lit, gq_neg, gq_sub]
  by_cases g2 : q = -1
  · rw [if_pos (by rw [g2]), if_pos (c := N = -1 ∨ q = -1) (Or.inr g2)]
  · rw [if_neg (by rw [gq_eq (by omega)]; exact g2)]
    by_cases g3 : 0 ≤ q ∧ q ≤ N - 1
    · rw [if_pos (by rw [gq_in (by omega)]; exact g3), gq_ck (by omega), gq_nat (by omega), h2 q.toNat (by omega), if_neg (by omega), if_pos (by omega)]
    · rw [if_neg (by rw [gq_in (by omega)]; exact g3)]
      by_cases g1 : N = -1
      · rw [if_pos (c := N = -1 ∨ q = -1) (Or.inl g1), g1]
      · rw [if_neg (by omega), if_neg (by omega)]
theorem gm_big {x : Int64} {j : Nat} (h : 64 ≤ j) : gm_b x j = false := by
  unfold gm_b
  exact BitVec.getLsbD_of_ge _ _ h
theorem gh_Pc {μ μ' : gx_M} (h1 : ∀ a j, ¬ (79 ≤ a ∧ a ≤ 81) → μ'.1 a j = μ.1 a j) (h2 : μ'.2 = μ.2) : gq_sm gq_Pc μ μ' := fun a ha => by
  unfold gq_Pc at ha
  exact ⟨funext fun j => h1 a j (by omega), by rw [h2]⟩
theorem gh_Pm {ν ν' : gx_M} (h1 : ∀ a j, ¬ (a = 206 ∧ j = 44) → a ≠ 230 → ν'.1 a j = ν.1 a j) (h2 : ∀ a, a ≠ 229 → ν'.2 a = ν.2 a) : gq_sm gq_Pm ν ν' := fun a ha => by
  unfold gq_Pm at ha
  exact ⟨funext fun j => h1 a j (by omega) (by omega), h2 a (by omega)⟩
/-- both from runs and a mask on -/
theorem gh_both {μ ν : gx_M} {s T L : Nat} {w : Nat → Int} {y1 y2 y : Int64} {q : Int} (ok : gq_okS w) (hs : s < 2) (hT2 : w 2 = T) (hL : w 0 = L) (hc : gq_cS μ (8 + 16 * s) w) (hh : gq_hd ν s w) (hy : ∀ j, j < 64 → (gm_b y j = true ↔ gm_b y1 j = false ∧ gm_b y2 j = true)) (hM : ∀ m, gh_M y m → m < L) (hq : -2147483648 ≤ q ∧ q < 2147483648) : ∃ (N : Int) (r : Nat → Nat) (μ' ν1 ν' : gx_M), f_X1_solve (8 + 16 * s) y μ = some ((), μ') ∧ f_X1_answer (gq_I q) μ' = some (gq_I (gh_ans N q r)) ∧ f_X12_findRuns y1 y2 ν = some ((), ν1) ∧ gq_hd ν1 s w ∧ f_X12_hitOf y (gq_I q) ν1 = some (gq_I (gh_ans N q r), ν') ∧ gq_sm gq_Pc μ μ' ∧ gq_sm gq_Pm ν ν' := by
  have o0 := ok.1
  obtain ⟨φ, hφ⟩ := gh_al_ex w y1 y2
  have hφ2 : gh_cl w y φ := fun b m => (hφ b m).trans ⟨fun ⟨h1, h2, h3⟩ => ⟨h1, h2, fun j g1 g2 => by
    have lt := gk_lt ok h1 h2
    have l1 := (ok.2.2.2.2.1 b h1).1
    exact (hy j (by omega)).mpr (h3 j g1 (by unfold ga_l; omega))⟩, fun ⟨h1, h2, h3⟩ => ⟨h1, h2, fun j g1 g2 => by
    have lt := gk_lt ok h1 h2
    have l1 := (ok.2.2.2.2.1 b h1).1
    unfold ga_l at g2
    exact (hy j (by omega)).mp (h3 j g1 (by omega))⟩⟩
  obtain ⟨N, r, μ', a1, a2, a3, a4, a5, a6⟩ := gh_solve ok (by omega) hT2 hL hφ2 hc
  obtain ⟨ν1, b1, b2, b3, b4⟩ := gh_find ok (by omega) hT2 hL hφ (gq_hd_lay hh)
  have hh1 : gq_hd ν1 s w := gq_hd_w hh fun a j h => b3 a j (by omega)
  obtain ⟨N', r', ν', c1, c2, c3, c4, c5⟩ := gh_few (y := y) ok hT2 hL (by rw [hh1.1.2.1, hL]) hφ b2 hM
  obtain ⟨e1, e2⟩ := gh_res_u a2 c2
  subst e1
  have Nb := gh_res_b a2
  have ans : gh_ans N q r' = gh_ans N q r := by
    unfold gh_ans
    by_cases g1 : N = -1 ∨ q = -1
    · rw [if_pos g1, if_pos g1]
    · rw [if_neg g1, if_neg g1]
      by_cases g2 : 0 ≤ q ∧ q < N
      · rw [if_pos g2, if_pos g2, e2 q.toNat (by omega)]
      · rw [if_neg g2, if_neg g2]
  have hit := gh_hit (q := q) Nb hq c1 c3
  rw [ans] at hit
  exact ⟨N, r, μ', ν1, ν', a1, gh_answer Nb hq a3 a4, b1, hh1, hit, gh_Pc a5 a6, gh_Pm (fun a j h1 h2 => (c4 a j h2).trans (b3 a j h1)) fun a h => by rw [c5, b4 a h]⟩
theorem gq_e_robbed {μ : gx_M} (hI : gq_inv μ) (p1 p2 p3 : Int32) : gq_st (f_X11_robbed p1 p2 p3) (f_X12_robbed p1 p2 p3) μ := by
  obtain ⟨z, hz, rfl⟩ := gq_ex p1
  obtain ⟨p, hp, rfl⟩ := gq_ex p2
  obtain ⟨q, hq, rfl⟩ := gq_ex p3
  refine gq_two hI fun ν0 hν => ?_
  rcases gq_op hI hz with ⟨h1, h2⟩ | ⟨s, w, hs, rfl, ok, hc, h1, h2⟩
  · refine ⟨gq_I (-1), μ, _, ?_, ?_, gq_sm_rf, gq_sm_uI (x := gq_I 0) (k := 0) gq_Pm206 gq_sm_rf⟩
    · unfold f_X11_robbed
      rw [gq_hasP0 h1]
      rfl
    · unfold f_X12_robbed
      rw [gq_lte, gq_lit, h2 ν0 hν]
      rfl
  · obtain ⟨μ2, a1, a2, a3⟩ := h2 ν0 hν
    have o0 := ok.1
    have o1 := ok.2.1
    have o2 := ok.2.2.1
    obtain ⟨T, hT2⟩ : ∃ T : Nat, w 2 = T := ⟨(w 2).toNat, by omega⟩
    obtain ⟨L, hL⟩ : ∃ L : Nat, w 0 = L := ⟨(w 0).toNat, by omega⟩
    have hP := gq_hasP1 hs ok hp hc h1
    have iP := gq_isP hp ok a2
    by_cases g : 0 ≤ p ∧ p < w 1
    · obtain ⟨y, y1, y2, y3⟩ := gq_his ok hc a2 (p := p) (by omega)
      obtain ⟨N, r, μ', ν1, ν', b1, b2, b3, b4, b5, b6, b7⟩ := gh_both (y := y) (y1 := 0) (y2 := y) (q := q) ok hs hT2 hL hc a2 (fun j hj => ⟨fun h => ⟨gm_0 j hj, h⟩, fun h => h.2⟩) (fun m hm => by
        by_cases hm64 : m < 64
        · have := (y3 m hm64).mp hm
          omega
        · rw [show gh_M y m = (gm_b y m = true) from rfl, gm_big (by omega)] at hm
          exact absurd hm (by decide)) hq
      obtain ⟨y', x1, x2, x3⟩ := gq_his ok hc b4 (p := p) (by omega)
      have ey : y' = y := by
        rw [y1] at x1
        exact (Option.some.inj x1).symm
      rw [ey] at x2
      refine ⟨gq_I (gh_ans N q r), μ', ν', ?_, ?_, b6, gq_sm_tr a3 b7⟩
      · unfold f_X11_robbed
        rw [hP, decide_eq_true g, gq_br, if_pos rfl, gq_ck (by omega), gq_lte, gq_nat (by omega), Int.toNat_natCast, y1, gq_br, b1, gq_bd, b2, gq_br]
      · unfold f_X12_robbed
        rw [gq_lte, gq_lit, a1, gq_bd, if_pos rfl, if_pos (by rw [iP]; exact g), y2, gq_br, b3, gq_bd, x2, gq_br, b5, gq_bd]
    · refine ⟨gq_I (-1), μ, μ2, ?_, ?_, gq_sm_rf, a3⟩
      · unfold f_X11_robbed
        rw [hP, decide_eq_false g]
        rfl
      · unfold f_X12_robbed
        rw [gq_lte, gq_lit, a1, gq_bd, if_pos rfl, if_neg (by rw [iP]; exact g)]
        rfl
theorem gq_e_corner {μ : gx_M} (hI : gq_inv μ) (p1 p2 p3 : Int32) : gq_st (f_X11_corner p1 p2 p3) (f_X12_corner p1 p2 p3) μ := by
  obtain ⟨z, hz, rfl⟩ := gq_ex p1
  obtain ⟨p, hp, rfl⟩ := gq_ex p2
  obtain ⟨q, hq, rfl⟩ := gq_ex p3
  refine gq_two hI fun ν0 hν => ?_
  rcases gq_op hI hz with ⟨h1, h2⟩ | ⟨s, w, hs, rfl, ok, hc, h1, h2⟩
  · refine ⟨gq_I (-1), μ, _, ?_, ?_, gq_sm_rf, gq_sm_uI (x := gq_I 0) (k := 0) gq_Pm206 gq_sm_rf⟩
    · unfold f_X11_corner
      rw [gq_hasP0 h1]
      rfl
    · unfold f_X12_corner
      rw [gq_lte, gq_lit, h2 ν0 hν]
      rfl
  · obtain ⟨μ2, a1, a2, a3⟩ := h2 ν0 hν
    have o0 := ok.1
    have o1 := ok.2.1
    have o2 := ok.2.2.1
    obtain ⟨T, hT2⟩ : ∃ T : Nat, w 2 = T := ⟨(w 2).toNat, by omega⟩
    obtain ⟨L, hL⟩ : ∃ L : Nat, w 0 = L := ⟨(w 0).toNat, by omega⟩
    have hP := gq_hasP1 hs ok hp hc h1
    have iP := gq_isP hp ok a2
    by_cases g : 0 ≤ p ∧ p < w 1
    · obtain ⟨y, y1, y2, y3⟩ := gq_his ok hc a2 (p := p) (by omega)
      obtain ⟨A, hA⟩ : ∃ A : Int64, A = (gq_L 1 <<< (gq_L L &&& gq_L 63)) - gq_L 1 := ⟨_, rfl⟩
      have Ab : ∀ j, j < 64 → gm_b A j = decide (j < L) := fun j hj => by rw [hA]; exact gm_low L (by omega) j hj
      have mc : f_X5_minutesMask (8 + 16 * s) μ = A := by
        unfold f_X5_minutesMask
        rw [hc.1.1, hL, gq_toL (by omega), hA]
        rfl
      have mm : ∀ ν : gx_M, gq_hd ν s w → f_X12_allMinutes ν = A := fun ν h => by
        unfold f_X12_allMinutes
        rw [h.1.2.1, hL, gq_toL (by omega), hA]
        rfl
      have Yb : ∀ j, j < 64 → (gm_b (A &&& (y ^^^ (-1))) j = true ↔ gm_b y j = false ∧ gm_b A j = true) := fun j hj => by
        have n1 : gm_b (y ^^^ (-1)) j = !gm_b y j := gm_not hj
        rw [gm_and, n1, Bool.and_eq_true]
        cases gm_b y j
        · exact ⟨fun h => ⟨rfl, h.1⟩, fun h => ⟨h.2, rfl⟩⟩
        · exact ⟨fun h => absurd h.2 (by decide), fun h => absurd h.1 (by decide)⟩
      obtain ⟨N, r, μ', ν1, ν', b1, b2, b3, b4, b5, b6, b7⟩ := gh_both (y := A &&& (y ^^^ (-1))) (y1 := y) (y2 := A) (q := q) ok hs hT2 hL hc a2 Yb (fun m hm => by
        by_cases hm64 : m < 64
        · have k := ((Yb m hm64).mp hm).2
          rw [Ab m hm64] at k
          exact of_decide_eq_true k
        · rw [show gh_M (A &&& (y ^^^ (-1))) m = (gm_b (A &&& (y ^^^ (-1))) m = true) from rfl, gm_big (by omega)] at hm
          exact absurd hm (by decide)) hq
      obtain ⟨y', x1, x2, x3⟩ := gq_his ok hc b4 (p := p) (by omega)
      have ey : y' = y := by
        rw [y1] at x1
        exact (Option.some.inj x1).symm
      rw [ey] at x2
      refine ⟨gq_I (gh_ans N q r), μ', ν', ?_, ?_, b6, gq_sm_tr a3 b7⟩
      · unfold f_X11_corner
        rw [hP, decide_eq_true g, gq_br, if_pos rfl, gq_ck (by omega), gq_lte, gq_nat (by omega), Int.toNat_natCast, y1, gq_br, mc, b1, gq_bd, b2, gq_br]
      · unfold f_X12_corner
        rw [gq_lte, gq_lit, a1, gq_bd, if_pos rfl, if_pos (by rw [iP]; exact g), y2, gq_br, mm μ2 a2, b3, gq_bd, x2, gq_br, mm ν1 b4, b5, gq_bd]
    · refine ⟨gq_I (-1), μ, μ2, ?_, ?_, gq_sm_rf, a3⟩
      · unfold f_X11_corner
        rw [hP, decide_eq_false g]
        rfl
      · unfold f_X12_corner
        rw [gq_lte, gq_lit, a1, gq_bd, if_pos rfl, if_neg (by rw [iP]; exact g)]
        rfl
