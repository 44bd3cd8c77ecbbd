/-! a year as it goes, on both sides -/
theorem gq_urow {μ : gx_M} {a k b : Nat} {x : Int32} (h : b ≠ a) : (gx_uI μ a k x).1 b = μ.1 b := by
  funext j
  rw [gq_uI1]
  exact if_neg fun g => h g.1
theorem gq_uI_comm {μ : gx_M} {a i b j : Nat} {x y : Int32} (h : a ≠ b) : gx_uI (gx_uI μ a i x) b j y = gx_uI (gx_uI μ b j y) a i x :=
  gq_mext (fun c m => by
    rw [gq_uI1, gq_uI1, gq_uI1, gq_uI1]
    by_cases h1 : c = b ∧ m = j
    · rw [if_pos h1, if_neg (by omega), if_pos h1]
    · rw [if_neg h1, if_neg h1]) fun _ _ => rfl
def gy_fx (μ ν : gx_M) (s : Nat) (w : Nat → Int) : Prop := (μ.1 63 0 = gq_I (w 0) ∧ μ.1 63 1 = gq_I (w 1) ∧ μ.1 63 2 = gq_I (w 2)) ∧ (∀ b : Nat, (b : Int) < w 2 → μ.1 67 b = gq_I (w (7 + b)) ∧ μ.1 68 b = gq_I (w (13 + b)) ∧ μ.1 69 b = gq_I (w (19 + b)) ∧ μ.1 70 b = gq_I (w (25 + b))) ∧ (ν.1 206 24 = gq_I s ∧ ν.1 206 25 = gq_I (w 0) ∧ ν.1 206 26 = gq_I (w 1) ∧ ν.1 206 27 = gq_I (w 2)) ∧ gq_mS ν s w
def gy_pr (μ ν : gx_M) : Prop := ∀ m, m < 40 → ∃ c : Int, (0 ≤ c ∧ c ≤ 9) ∧ μ.1 65 m = gq_I c ∧ ν.1 219 m = gq_I c
def gy_ow (μ ν : gx_M) : Prop := ∀ m, m < 40 → ∃ o : Int, (-1 ≤ o ∧ o ≤ 3) ∧ μ.1 66 m = gq_I o ∧ ν.1 220 m = gq_I o
def gy_us (μ ν : gx_M) : Prop := ∀ m, m < 40 → ∃ u : Int, (0 ≤ u ∧ u ≤ 1) ∧ μ.1 71 m = gq_I u ∧ ν.1 221 m = gq_I u
def gy_dn (μ ν : gx_M) : Prop := ∀ b, b < 6 → ∃ d : Int, (-1 ≤ d ∧ d ≤ 3) ∧ μ.1 72 b = gq_I d ∧ ν.1 222 b = gq_I d
def gy_th (μ ν : gx_M) : Prop := ∃ t : Int, (-1 ≤ t ∧ t ≤ 3) ∧ μ.1 62 5 = gq_I t ∧ ν.1 206 34 = gq_I t
/-- both plays, alike -/
def gy_R (μ ν : gx_M) (s : Nat) (w : Nat → Int) : Prop := gy_fx μ ν s w ∧ (∀ p, p < 4 → ν.1 218 p = μ.1 64 p) ∧ gy_pr μ ν ∧ gy_ow μ ν ∧ gy_us μ ν ∧ gy_dn μ ν ∧ (∀ p, p < 4 → ν.1 223 p = μ.1 73 p) ∧ (∀ m, m < 40 → ν.1 224 m = μ.1 74 m) ∧ gy_th μ ν
theorem gy_fx_w {μ ν μ' ν' : gx_M} {s : Nat} {w : Nat → Int} (h : gy_fx μ ν s w) (hc : ∀ a j, a = 63 ∨ (67 ≤ a ∧ a ≤ 70) → μ'.1 a j = μ.1 a j) (hm : ∀ a j, (a = 206 ∧ 24 ≤ j ∧ j ≤ 27) ∨ a = 212 → ν'.1 a j = ν.1 a j) : gy_fx μ' ν' s w := by
  obtain ⟨⟨h1, h2, h3⟩, h4, ⟨h5, h6, h7, h8⟩, h9⟩ := h
  refine ⟨⟨?_, ?_, ?_⟩, fun b hb => ?_, ⟨?_, ?_, ?_, ?_⟩, gq_mS_w h9 ?_⟩
  · rw [hc _ _ (by omega)]; exact h1
  · rw [hc _ _ (by omega)]; exact h2
  · rw [hc _ _ (by omega)]; exact h3
  · rw [hc _ _ (by omega), hc _ _ (by omega), hc _ _ (by omega), hc _ _ (by omega)]; exact h4 b hb
  · rw [hm _ _ (by omega)]; exact h5
  · rw [hm _ _ (by omega)]; exact h6
  · rw [hm _ _ (by omega)]; exact h7
  · rw [hm _ _ (by omega)]; exact h8
  · funext j; exact hm _ _ (by omega)
theorem gy_coin {μ ν : gx_M} {s : Nat} {w : Nat → Int} (h : gy_R μ ν s w) (p : Nat) (x : Int32) : gy_R (gx_uI μ 64 p x) (gx_uI ν 218 p x) s w := by
  obtain ⟨h1, h2, h3, h4, h5, h6, h7, h8, h9⟩ := h
  refine ⟨gy_fx_w h1 (fun a j g => by rw [gq_uI1, if_neg (by omega)]) fun a j g => by rw [gq_uI1, if_neg (by omega)], fun q hq => ?_, ?_, ?_, ?_, ?_, ?_, ?_, ?_⟩
  · rw [gq_uI1, gq_uI1]
    by_cases g : q = p
    · rw [if_pos ⟨rfl, g⟩, if_pos ⟨rfl, g⟩]
    · rw [if_neg (by omega), if_neg (by omega)]; exact h2 q hq
  all_goals first | unfold gy_pr | unfold gy_ow | unfold gy_us | unfold gy_dn | unfold gy_th | skip
  all_goals rw [gq_urow (by omega), gq_urow (by omega)]
  all_goals first | exact h3 | exact h4 | exact h5 | exact h6 | exact h7 | exact h8 | exact h9
theorem gy_stol {μ ν : gx_M} {s : Nat} {w : Nat → Int} (h : gy_R μ ν s w) (p : Nat) (x : Int32) : gy_R (gx_uI μ 73 p x) (gx_uI ν 223 p x) s w := by
  obtain ⟨h1, h2, h3, h4, h5, h6, h7, h8, h9⟩ := h
  refine ⟨gy_fx_w h1 (fun a j g => by rw [gq_uI1, if_neg (by omega)]) fun a j g => by rw [gq_uI1, if_neg (by omega)], ?_, ?_, ?_, ?_, ?_, fun q hq => ?_, ?_, ?_⟩
  case refine_6 =>
    rw [gq_uI1, gq_uI1]
    by_cases g : q = p
    · rw [if_pos ⟨rfl, g⟩, if_pos ⟨rfl, g⟩]
    · rw [if_neg (by omega), if_neg (by omega)]; exact h7 q hq
  all_goals first | unfold gy_pr | unfold gy_ow | unfold gy_us | unfold gy_dn | unfold gy_th | skip
  all_goals rw [gq_urow (by omega), gq_urow (by omega)]
  all_goals first | exact h2 | exact h3 | exact h4 | exact h5 | exact h6 | exact h8 | exact h9
theorem gy_move {μ ν : gx_M} {s : Nat} {w : Nat → Int} (h : gy_R μ ν s w) {m : Nat} (hm : m < 40) {o : Int} (ho : -1 ≤ o ∧ o ≤ 3) : gy_R (gx_uI (gx_uI μ 66 m (gq_I o)) 74 m (μ.1 74 m + gq_I 1)) (gx_uI (gx_uI ν 220 m (gq_I o)) 224 m (ν.1 224 m + gq_I 1)) s w := by
  obtain ⟨h1, h2, h3, h4, h5, h6, h7, h8, h9⟩ := h
  have e := h8 m hm
  refine ⟨gy_fx_w h1 (fun a j g => by rw [gq_uI1, if_neg (by omega), gq_uI1, if_neg (by omega)]) fun a j g => by rw [gq_uI1, if_neg (by omega), gq_uI1, if_neg (by omega)], ?_, ?_, fun q hq => ?_, ?_, ?_, ?_, fun q hq => ?_, ?_⟩
  case refine_3 =>
    by_cases g : q = m
    · exact ⟨o, ho, by rw [gq_urow (by omega), gq_uI1, if_pos ⟨rfl, g⟩], by rw [gq_urow (by omega), gq_uI1, if_pos ⟨rfl, g⟩]⟩
    · obtain ⟨o', a, b, c⟩ := h4 q hq
      exact ⟨o', a, by rw [gq_urow (by omega), gq_uI1, if_neg (by omega)]; exact b, by rw [gq_urow (by omega), gq_uI1, if_neg (by omega)]; exact c⟩
  case refine_7 =>
    by_cases g : q = m
    · subst g; simp only [gq_uI1, and_self, if_true, e]
    · simp (disch := omega) only [gq_uI1, gq_ifF]; exact h8 q hq
  all_goals first | unfold gy_pr | unfold gy_us | unfold gy_dn | unfold gy_th | skip
  all_goals rw [gq_urow (by omega), gq_urow (by omega), gq_urow (by omega), gq_urow (by omega)]
  all_goals first | exact h2 | exact h3 | exact h5 | exact h6 | exact h7 | exact h9
theorem gy_price {μ ν : gx_M} {s : Nat} {w : Nat → Int} (h : gy_R μ ν s w) {m : Nat} {c : Int} (hc : 0 ≤ c ∧ c ≤ 9) : gy_R (gx_uI μ 65 m (gq_I c)) (gx_uI ν 219 m (gq_I c)) s w := by
  obtain ⟨h1, h2, h3, h4, h5, h6, h7, h8, h9⟩ := h
  refine ⟨gy_fx_w h1 (fun a j g => by rw [gq_uI1, if_neg (by omega)]) fun a j g => by rw [gq_uI1, if_neg (by omega)], ?_, fun q hq => ?_, ?_, ?_, ?_, ?_, ?_, ?_⟩
  case refine_2 =>
    rw [gq_uI1, gq_uI1]
    by_cases g : q = m
    · exact ⟨c, hc, by rw [if_pos ⟨rfl, g⟩], by rw [if_pos ⟨rfl, g⟩]⟩
    · rw [if_neg (by omega), if_neg (by omega)]; exact h3 q hq
  all_goals first | unfold gy_ow | unfold gy_us | unfold gy_dn | unfold gy_th | skip
  all_goals rw [gq_urow (by omega), gq_urow (by omega)]
  all_goals first | exact h2 | exact h4 | exact h5 | exact h6 | exact h7 | exact h8 | exact h9
theorem gy_use {μ ν : gx_M} {s : Nat} {w : Nat → Int} (h : gy_R μ ν s w) (m : Nat) : gy_R (gx_uI μ 71 m (gq_I 1)) (gx_uI ν 221 m (gq_I 1)) s w := by
  obtain ⟨h1, h2, h3, h4, h5, h6, h7, h8, h9⟩ := h
  refine ⟨gy_fx_w h1 (fun a j g => by rw [gq_uI1, if_neg (by omega)]) fun a j g => by rw [gq_uI1, if_neg (by omega)], ?_, ?_, ?_, fun q hq => ?_, ?_, ?_, ?_, ?_⟩
  case refine_4 =>
    rw [gq_uI1, gq_uI1]
    by_cases g : q = m
    · exact ⟨1, by omega, by rw [if_pos ⟨rfl, g⟩], by rw [if_pos ⟨rfl, g⟩]⟩
    · rw [if_neg (by omega), if_neg (by omega)]; exact h5 q hq
  all_goals first | unfold gy_pr | unfold gy_ow | unfold gy_dn | unfold gy_th | skip
  all_goals rw [gq_urow (by omega), gq_urow (by omega)]
  all_goals first | exact h2 | exact h3 | exact h4 | exact h6 | exact h7 | exact h8 | exact h9
theorem gy_done {μ ν : gx_M} {s : Nat} {w : Nat → Int} (h : gy_R μ ν s w) (b : Nat) {p : Int} (hp : -1 ≤ p ∧ p ≤ 3) : gy_R (gx_uI μ 72 b (gq_I p)) (gx_uI ν 222 b (gq_I p)) s w := by
  obtain ⟨h1, h2, h3, h4, h5, h6, h7, h8, h9⟩ := h
  refine ⟨gy_fx_w h1 (fun a j g => by rw [gq_uI1, if_neg (by omega)]) fun a j g => by rw [gq_uI1, if_neg (by omega)], ?_, ?_, ?_, ?_, fun q hq => ?_, ?_, ?_, ?_⟩
  case refine_5 =>
    rw [gq_uI1, gq_uI1]
    by_cases g : q = b
    · exact ⟨p, hp, by rw [if_pos ⟨rfl, g⟩], by rw [if_pos ⟨rfl, g⟩]⟩
    · rw [if_neg (by omega), if_neg (by omega)]; exact h6 q hq
  all_goals first | unfold gy_pr | unfold gy_ow | unfold gy_us | unfold gy_th | skip
  all_goals rw [gq_urow (by omega), gq_urow (by omega)]
  all_goals first | exact h2 | exact h3 | exact h4 | exact h5 | exact h7 | exact h8 | exact h9
theorem gy_think {μ ν : gx_M} {s : Nat} {w : Nat → Int} (h : gy_R μ ν s w) {p : Int} (hp : -1 ≤ p ∧ p ≤ 3) : gy_R (gx_uI μ 62 5 (gq_I p)) (gx_uI ν 206 34 (gq_I p)) s w := by
  obtain ⟨h1, h2, h3, h4, h5, h6, h7, h8, h9⟩ := h
  refine ⟨gy_fx_w h1 (fun a j g => by rw [gq_uI1, if_neg (by omega)]) fun a j g => by rw [gq_uI1, if_neg (by omega)], ?_, ?_, ?_, ?_, ?_, ?_, ?_, ⟨p, hp, by rw [gq_uI1, if_pos ⟨rfl, rfl⟩], by rw [gq_uI1, if_pos ⟨rfl, rfl⟩]⟩⟩
  all_goals first | unfold gy_pr | unfold gy_ow | unfold gy_us | unfold gy_dn | skip
  all_goals rw [gq_urow (by omega), gq_urow (by omega)]
  all_goals first | exact h2 | exact h3 | exact h4 | exact h5 | exact h6 | exact h7 | exact h8
/-- rows that a play changes -/
def gy_kc (μ μ' : gx_M) : Prop := (∀ a, ¬ (62 ≤ a ∧ a ≤ 74) → μ'.1 a = μ.1 a) ∧ μ'.2 = μ.2 ∧ μ'.1 62 6 = μ.1 62 6
def gy_km (ν ν' : gx_M) : Prop := (∀ a j, ¬ (a = 206 ∧ j = 34) → ¬ (218 ≤ a ∧ a ≤ 224) → ν'.1 a j = ν.1 a j) ∧ ν'.2 = ν.2
theorem gy_kc_tr {a b c : gx_M} (h : gy_kc a b) (h2 : gy_kc b c) : gy_kc a c := ⟨fun x h3 => (h2.1 x h3).trans (h.1 x h3), h2.2.1.trans h.2.1, h2.2.2.trans h.2.2⟩
theorem gy_km_tr {a b c : gx_M} (h : gy_km a b) (h2 : gy_km b c) : gy_km a c := ⟨fun x j h3 h4 => (h2.1 x j h3 h4).trans (h.1 x j h3 h4), h2.2.trans h.2⟩
theorem gy_kc_u {a : gx_M} {b k : Nat} {x : Int32} (h : (62 ≤ b ∧ b ≤ 74) ∧ ¬ (b = 62 ∧ k = 6)) : gy_kc a (gx_uI a b k x) := ⟨fun c hc => gq_urow (by omega), rfl, by rw [gq_uI1, if_neg (by omega)]⟩
theorem gy_km_u {a : gx_M} {b k : Nat} {x : Int32} (h : (218 ≤ b ∧ b ≤ 224) ∨ (b = 206 ∧ k = 34)) : gy_km a (gx_uI a b k x) := ⟨fun c j h1 h2 => by rw [gq_uI1, if_neg (by omega)], rfl⟩
theorem gy_there {μ ν : gx_M} {s : Nat} {w : Nat → Int} (h : gy_R μ ν s w) (ok : gq_okS w) {p m : Int} (hp : -2147483648 ≤ p ∧ p < 2147483648) (hm : -2147483648 ≤ m ∧ m < 2147483648) : (f_X3_areThere (gq_I p) (gq_I m) μ = true ↔ (0 ≤ p ∧ p < w 1) ∧ 0 ≤ m ∧ m < w 0) ∧ (f_X12_isPerson (gq_I p) ν = true ↔ 0 ≤ p ∧ p < w 1) ∧ (f_X12_isMinute (gq_I m) ν = true ↔ 0 ≤ m ∧ m < w 0) ∧ (f_X5_hasMinute 63 (gq_I m) μ = true ↔ 0 ≤ m ∧ m < w 0) := by
  obtain ⟨⟨⟨h1, h2, h3⟩, _, ⟨_, h5, h6, _⟩, _⟩, _⟩ := h
  have o0 := ok.1
  have o1 := ok.2.1
  have hmn : f_X5_hasMinute 63 (gq_I m) μ = true ↔ 0 ≤ m ∧ m < w 0 := by
    unfold f_X5_hasMinute
    rw [h1]
    by_cases g1 : m < 0
    · simp (disch := omega) only [gq_lit, Bool.false_eq_true, gq_leT, gq_leF, gq_ltT, gq_ltF, gq_eqT, gq_eqF, if_true, if_false]
      exact ⟨fun g => absurd g (by decide), fun g => absurd g1 (by omega)⟩
    · by_cases g2 : w 0 ≤ m
      · simp (disch := omega) only [gq_lit, Bool.false_eq_true, gq_leT, gq_leF, gq_ltT, gq_ltF, gq_eqT, gq_eqF, if_true, if_false]
        exact ⟨fun g => absurd g (by decide), fun g => absurd g2 (by omega)⟩
      · simp (disch := omega) only [gq_lit, Bool.false_eq_true, gq_leT, gq_leF, gq_ltT, gq_ltF, gq_eqT, gq_eqF, if_true, if_false]
        exact ⟨fun _ => by omega, fun _ => trivial⟩
  have hpn : f_X5_hasPerson 63 (gq_I p) μ = true ↔ 0 ≤ p ∧ p < w 1 := by
    unfold f_X5_hasPerson
    rw [h2]
    by_cases g1 : p < 0
    · simp (disch := omega) only [gq_lit, Bool.false_eq_true, gq_leT, gq_leF, gq_ltT, gq_ltF, gq_eqT, gq_eqF, if_true, if_false]
      exact ⟨fun g => absurd g (by decide), fun g => absurd g1 (by omega)⟩
    · by_cases g2 : w 1 ≤ p
      · simp (disch := omega) only [gq_lit, Bool.false_eq_true, gq_leT, gq_leF, gq_ltT, gq_ltF, gq_eqT, gq_eqF, if_true, if_false]
        exact ⟨fun g => absurd g (by decide), fun g => absurd g2 (by omega)⟩
      · simp (disch := omega) only [gq_lit, Bool.false_eq_true, gq_leT, gq_leF, gq_ltT, gq_ltF, gq_eqT, gq_eqF, if_true, if_false]
        exact ⟨fun _ => by omega, fun _ => trivial⟩
  refine ⟨?_, ?_, ?_, hmn⟩
  · unfold f_X3_areThere
    by_cases g1 : f_X5_hasPerson 63 (gq_I p) μ = true
    · rw [if_pos g1]
      by_cases g2 : f_X5_hasMinute 63 (gq_I m) μ = true
      · rw [if_pos g2]; exact ⟨fun _ => ⟨hpn.mp g1, hmn.mp g2⟩, fun _ => rfl⟩
      · rw [if_neg g2]; exact ⟨fun g => absurd g (by decide), fun g => absurd (hmn.mpr g.2) g2⟩
    · rw [if_neg g1]; exact ⟨fun g => absurd g (by decide), fun g => absurd (hpn.mpr g.1) g1⟩
  · unfold f_X12_isPerson
    rw [h6, show (0 : Int32) = gq_I 0 from rfl, show (1 : Int32) = gq_I 1 from rfl, gq_sub, gq_in (by omega)]
    omega
  · unfold f_X12_isMinute
    rw [h5, show (0 : Int32) = gq_I 0 from rfl, show (1 : Int32) = gq_I 1 from rfl, gq_sub, gq_in (by omega)]
    omega
