/-! what is told, as both sides hold it -/
def gq_ad (i : Nat) : Nat := if i = 0 then 1 else 50 + 39 * i
def gq_okS (w : Nat → Int) : Prop := (1 ≤ w 0 ∧ w 0 ≤ 40) ∧ (1 ≤ w 1 ∧ w 1 ≤ 4) ∧ (0 ≤ w 2 ∧ w 2 ≤ 6) ∧ (∀ p, p < 4 → 0 ≤ w (3 + p) ∧ w (3 + p) ≤ 99) ∧ (∀ b : Nat, (b : Int) < w 2 → (1 ≤ w (7 + b) ∧ w (7 + b) ≤ 9) ∧ (0 ≤ w (13 + b) ∧ w (13 + b) ≤ w (19 + b) ∧ w (19 + b) < w 0) ∧ 0 ≤ w (25 + b) ∧ w (25 + b) ≤ 99) ∧ (∀ m, m < 40 → 0 ≤ w (31 + m) ∧ w (31 + m) ≤ 9) ∧ (∀ m, m < 40 → -1 ≤ w (71 + m) ∧ w (71 + m) < w 1)
def gq_okY (y : Nat → Int) : Prop := (0 ≤ y 0 ∧ y 0 ≤ 40) ∧ ∀ k : Nat, (k : Int) < y 0 → (0 ≤ y (1 + 4 * k) ∧ y (1 + 4 * k) ≤ 6) ∧ (-1 ≤ y (2 + 4 * k) ∧ y (2 + 4 * k) ≤ 39) ∧ (-1 ≤ y (3 + 4 * k) ∧ y (3 + 4 * k) ≤ 39) ∧ -1 ≤ y (4 + 4 * k) ∧ y (4 + 4 * k) ≤ 39
def gq_okG (g : Nat → Int) : Prop := (0 ≤ g 0 ∧ g 0 ≤ 8) ∧ ∀ k : Nat, (k : Int) < g 0 → (0 ≤ g (1 + 2 * k) ∧ g (1 + 2 * k) ≤ 1) ∧ 0 ≤ g (2 + 2 * k) ∧ g (2 + 2 * k) ≤ 39
def gq_okV (v : Nat → Int) : Prop := (2 ≤ v 0 ∧ v 0 ≤ 6) ∧ ∀ j, j < 36 → 0 ≤ v (1 + j) ∧ v (1 + j) ≤ 9
/-- a street as the class has it -/
def gq_cS (μ : gx_M) (a : Nat) (w : Nat → Int) : Prop := (μ.1 a 0 = gq_I (w 0) ∧ μ.1 a 1 = gq_I (w 1) ∧ μ.1 a 2 = gq_I (w 2)) ∧ (∀ p, p < 4 → μ.1 (a + 1) p = gq_I (w (3 + p))) ∧ (∀ m, m < 40 → μ.1 (a + 2) m = gq_I (w (31 + m))) ∧ (∀ m, m < 40 → μ.1 (a + 3) m = gq_I (w (71 + m))) ∧ (∀ b : Nat, (b : Int) < w 2 → μ.1 (a + 4) b = gq_I (w (7 + b)) ∧ μ.1 (a + 5) b = gq_I (w (13 + b)) ∧ μ.1 (a + 6) b = gq_I (w (19 + b)) ∧ μ.1 (a + 7) b = gq_I (w (25 + b)))
def gq_cY (μ : gx_M) (a : Nat) (y : Nat → Int) : Prop := μ.1 a 3 = gq_I (y 0) ∧ ∀ k : Nat, (k : Int) < y 0 → μ.1 (a + 1) k = gq_I (y (1 + 4 * k) + 6) ∧ μ.1 (a + 2) (3 * k) = gq_I (y (2 + 4 * k)) ∧ μ.1 (a + 2) (3 * k + 1) = gq_I (y (3 + 4 * k)) ∧ μ.1 (a + 2) (3 * k + 2) = gq_I (y (4 + 4 * k))
def gq_cG (μ : gx_M) (a : Nat) (g : Nat → Int) : Prop := μ.1 a 3 = gq_I (g 0) ∧ ∀ k : Nat, (k : Int) < g 0 → μ.1 (a + 1) k = gq_I (14 - g (1 + 2 * k)) ∧ μ.1 (a + 2) (3 * k) = gq_I (g (2 + 2 * k))
def gq_cV (μ : gx_M) (a : Nat) (v : Nat → Int) : Prop := μ.1 a 0 = gq_I (v 0) ∧ ∀ j, j < 36 → μ.1 (a + 1) j = gq_I (v (1 + j))
/-- as the check has them -/
def gq_mS (μ : gx_M) (s : Nat) (w : Nat → Int) : Prop := ∀ j, j < 111 → μ.1 212 (111 * s + j) = gq_I (w j)
def gq_mY (μ : gx_M) (s : Nat) (y : Nat → Int) : Prop := ∀ j, j < 161 → μ.1 213 (161 * s + j) = gq_I (y j)
def gq_mG (μ : gx_M) (s : Nat) (g : Nat → Int) : Prop := ∀ j, j < 17 → μ.1 214 (17 * s + j) = gq_I (g j)
def gq_mV (μ : gx_M) (s : Nat) (v : Nat → Int) : Prop := ∀ j, j < 37 → μ.1 215 (37 * s + j) = gq_I (v j)
def gq_cT (μ : gx_M) (a : Nat) (tp : Nat → Int32) (n : Nat) (f p : Int32) (N : Nat → Nat) (W Y G V : Nat → Nat → Int) : Prop := (∀ k, k < 600 → μ.1 (a + 6) k = tp k) ∧ (μ.1 a 6 = gq_I n ∧ μ.1 a 7 = f ∧ μ.1 a 8 = p) ∧ (∀ q, q < 4 → μ.1 (a + 1) q = gq_I (N q)) ∧ (∀ s, s < N 0 → gq_cS μ (a + 7 + 16 * s) (W s)) ∧ (∀ s, s < N 1 → gq_cY μ (a + 15 + 16 * s) (Y s)) ∧ (∀ s, s < N 2 → gq_cG μ (a + 18 + 16 * s) (G s)) ∧ ∀ s, s < N 3 → gq_cV μ (a + 21 + 16 * s) (V s)
def gq_mT (μ : gx_M) (i : Nat) (tp : Nat → Int32) (n : Nat) (f p : Int32) (N : Nat → Nat) (W Y G V : Nat → Nat → Int) : Prop := (∀ k, k < 600 → μ.1 207 (600 * i + k) = tp k) ∧ (μ.1 208 i = gq_I n ∧ μ.1 209 i = f ∧ μ.1 210 i = p) ∧ (∀ q, q < 4 → μ.1 211 (4 * i + q) = gq_I (N q)) ∧ (∀ s, s < N 0 → gq_mS μ (2 * i + s) (W s)) ∧ (∀ s, s < N 1 → gq_mY μ (2 * i + s) (Y s)) ∧ (∀ s, s < N 2 → gq_mG μ (2 * i + s) (G s)) ∧ ∀ s, s < N 3 → gq_mV μ (2 * i + s) (V s)
def gq_okT (tp : Nat → Int32) (n : Nat) (N : Nat → Nat) (W Y G V : Nat → Nat → Int) : Prop := n ≤ 600 ∧ (∀ k, k < 600 → fits .byte (.int (tp k)) = true) ∧ (∀ q, q < 4 → N q ≤ 2) ∧ (∀ s, s < N 0 → gq_okS (W s)) ∧ (∀ s, s < N 1 → gq_okY (Y s)) ∧ (∀ s, s < N 2 → gq_okG (G s)) ∧ ∀ s, s < N 3 → gq_okV (V s)
def gq_told (μ : gx_M) (i : Nat) : Prop := ∃ (tp : Nat → Int32) (n : Nat) (f p : Int32) (N : Nat → Nat) (W Y G V : Nat → Nat → Int), gq_okT tp n N W Y G V ∧ gq_cT μ (gq_ad i) tp n f p N W Y G V ∧ gq_mT μ i tp n f p N W Y G V
def gq_ln (μ : gx_M) (a n : Nat) : Prop := μ.1 a 0 = gq_I n ∧ ∃ c : Nat, c ≤ n ∧ μ.1 a 3 = gq_I c
/-- what lies in the check's row of numbers from earlier texts -/
def gq_rd (μ : gx_M) : Prop := ∀ i, i < 2 → ∃ z : Nat, z ≤ 99 ∧ μ.1 217 i = gq_I z
theorem gq_rd_w {μ ν : gx_M} (h : gq_rd μ) (e : ∀ j, ν.1 217 j = μ.1 217 j) : gq_rd ν := fun i hi => by
  rw [e]
  exact h i hi
def gq_most (μ : gx_M) : Prop := (∀ i, i < 4 → ∀ s, s < 2 → gq_ln μ (gq_ad i + 15 + 16 * s) 40 ∧ gq_ln μ (gq_ad i + 18 + 16 * s) 8) ∧ gq_ln μ 53 40 ∧ gq_ln μ 56 8 ∧ gq_rd μ
theorem gq_ln_w {μ ν : gx_M} {a n : Nat} (h : gq_ln μ a n) (e : ∀ j, ν.1 a j = μ.1 a j) : gq_ln ν a n := by
  unfold gq_ln at h ⊢
  rw [e, e]
  exact h
def gq_inv (μ : gx_M) : Prop := gq_told μ 0 ∧ (∀ k, k < 3 → μ.1 235 k = μ.1 41 k ∧ (μ.1 41 k = gq_I 0 ∨ μ.1 41 k = gq_I 1 ∧ gq_told μ (k + 1))) ∧ gq_most μ
/-- the rows that count -/
def gq_Q (a : Nat) : Prop := (1 ≤ a ∧ a ≤ 41) ∨ a = 53 ∨ a = 56 ∨ (89 ≤ a ∧ a ≤ 205) ∨ (207 ≤ a ∧ a ≤ 215) ∨ a = 217 ∨ a = 235
/-- rows that a question to the class leaves as they are; to the check -/
def gq_Pc (a : Nat) : Prop := a < 62 ∨ 89 ≤ a
def gq_Pm (a : Nat) : Prop := a < 206 ∨ (207 ≤ a ∧ a ≤ 215) ∨ a = 217 ∨ a = 235
theorem gq_ad_0 : gq_ad 0 = 1 := rfl
theorem gq_ad_s (k : Nat) : gq_ad (k + 1) = 89 + 39 * k := by unfold gq_ad; rw [if_neg (by omega)]; omega
theorem gq_ad_ge {i j : Nat} (h : i < j) : gq_ad i + 39 ≤ gq_ad j := by
  unfold gq_ad
  split <;> split <;> omega
theorem gq_ad_in {i a : Nat} (h : i < 4) (h2 : gq_ad i ≤ a ∧ a ≤ gq_ad i + 38) : (1 ≤ a ∧ a ≤ 39) ∨ (89 ≤ a ∧ a ≤ 205) := by
  unfold gq_ad at h2
  split at h2 <;> omega
theorem gq_cS_sm {μ ν : gx_M} {a : Nat} {w : Nat → Int} (h : gq_cS μ a w) (e : ∀ i, i ≤ 7 → ν.1 (a + i) = μ.1 (a + i)) : gq_cS ν a w := by
  have e0 : ν.1 a = μ.1 a := e 0 (by omega)
  unfold gq_cS at h ⊢
  rw [e0, e 1 (by omega), e 2 (by omega), e 3 (by omega), e 4 (by omega), e 5 (by omega), e 6 (by omega), e 7 (by omega)]
  exact h
theorem gq_cY_sm {μ ν : gx_M} {a : Nat} {w : Nat → Int} (h : gq_cY μ a w) (e : ∀ i, i ≤ 2 → ν.1 (a + i) = μ.1 (a + i)) : gq_cY ν a w := by
  have e0 : ν.1 a = μ.1 a := e 0 (by omega)
  unfold gq_cY at h ⊢
  rw [e0, e 1 (by omega), e 2 (by omega)]
  exact h
theorem gq_cG_sm {μ ν : gx_M} {a : Nat} {w : Nat → Int} (h : gq_cG μ a w) (e : ∀ i, i ≤ 2 → ν.1 (a + i) = μ.1 (a + i)) : gq_cG ν a w := by
  have e0 : ν.1 a = μ.1 a := e 0 (by omega)
  unfold gq_cG at h ⊢
  rw [e0, e 1 (by omega), e 2 (by omega)]
  exact h
theorem gq_cV_sm {μ ν : gx_M} {a : Nat} {w : Nat → Int} (h : gq_cV μ a w) (e : ∀ i, i ≤ 1 → ν.1 (a + i) = μ.1 (a + i)) : gq_cV ν a w := by
  have e0 : ν.1 a = μ.1 a := e 0 (by omega)
  unfold gq_cV at h ⊢
  rw [e0, e 1 (by omega)]
  exact h
theorem gq_cT_sm {μ ν : gx_M} {a : Nat} {tp : Nat → Int32} {n : Nat} {f p : Int32} {N : Nat → Nat} {W Y G V : Nat → Nat → Int} (hN : ∀ q, q < 4 → N q ≤ 2) (h : gq_cT μ a tp n f p N W Y G V) (e : ∀ i, i ≤ 38 → ν.1 (a + i) = μ.1 (a + i)) : gq_cT ν a tp n f p N W Y G V := by
  have e0 : ν.1 a = μ.1 a := e 0 (by omega)
  have n0 := hN 0 (by omega)
  have n1 := hN 1 (by omega)
  have n2 := hN 2 (by omega)
  have n3 := hN 3 (by omega)
  obtain ⟨h1, h2, h3, h4, h5, h6, h7⟩ := h
  refine ⟨?_, ?_, ?_, ?_, ?_, ?_, ?_⟩
  · rw [e 6 (by omega)]; exact h1
  · rw [e0]; exact h2
  · rw [e 1 (by omega)]; exact h3
  · intro s hs
    refine gq_cS_sm (h4 s hs) fun i hi => ?_
    rw [show a + 7 + 16 * s + i = a + (7 + 16 * s + i) by omega]
    exact e _ (by omega)
  · intro s hs
    refine gq_cY_sm (h5 s hs) fun i hi => ?_
    rw [show a + 15 + 16 * s + i = a + (15 + 16 * s + i) by omega]
    exact e _ (by omega)
  · intro s hs
    refine gq_cG_sm (h6 s hs) fun i hi => ?_
    rw [show a + 18 + 16 * s + i = a + (18 + 16 * s + i) by omega]
    exact e _ (by omega)
  · intro s hs
    refine gq_cV_sm (h7 s hs) fun i hi => ?_
    rw [show a + 21 + 16 * s + i = a + (21 + 16 * s + i) by omega]
    exact e _ (by omega)
theorem gq_mT_sm {μ ν : gx_M} {a : Nat} {tp : Nat → Int32} {n : Nat} {f p : Int32} {N : Nat → Nat} {W Y G V : Nat → Nat → Int} (h : gq_mT μ a tp n f p N W Y G V) (e : ∀ i, 207 ≤ i → i ≤ 215 → ν.1 i = μ.1 i) : gq_mT ν a tp n f p N W Y G V := by
  unfold gq_mT gq_mS gq_mY gq_mG gq_mV at h ⊢
  rw [e 207 (by omega) (by omega), e 208 (by omega) (by omega), e 209 (by omega) (by omega), e 210 (by omega) (by omega), e 211 (by omega) (by omega), e 212 (by omega) (by omega), e 213 (by omega) (by omega), e 214 (by omega) (by omega), e 215 (by omega) (by omega)]
  exact h
theorem gq_told_sm {μ ν : gx_M} {i : Nat} (hi : i < 4) (h : gq_told μ i) (e : ∀ a, gq_Q a → ν.1 a = μ.1 a) : gq_told ν i := by
  obtain ⟨tp, n, f, p, N, W, Y, G, V, ok, hc, hm⟩ := h
  refine ⟨tp, n, f, p, N, W, Y, G, V, ok, gq_cT_sm ok.2.2.1 hc fun j hj => e _ ?_, gq_mT_sm hm fun j h1 h2 => e _ ?_⟩
  · rcases gq_ad_in (a := gq_ad i + j) hi ⟨by omega, by omega⟩ with h | h <;> unfold gq_Q <;> omega
  · unfold gq_Q; omega
theorem gq_most_sm {μ ν : gx_M} (h : gq_most μ) (e : ∀ a, gq_Q a → ν.1 a = μ.1 a) : gq_most ν := by
  obtain ⟨h1, h2, h3, h4⟩ := h
  refine ⟨fun i hi s hs => ⟨gq_ln_w (h1 i hi s hs).1 fun j => ?_, gq_ln_w (h1 i hi s hs).2 fun j => ?_⟩, gq_ln_w h2 fun j => ?_, gq_ln_w h3 fun j => ?_, gq_rd_w h4 fun j => ?_⟩
  · rw [e (gq_ad i + 15 + 16 * s) (by rcases gq_ad_in (a := gq_ad i + 15 + 16 * s) hi ⟨by omega, by omega⟩ with h | h <;> unfold gq_Q <;> omega)]
  · rw [e (gq_ad i + 18 + 16 * s) (by rcases gq_ad_in (a := gq_ad i + 18 + 16 * s) hi ⟨by omega, by omega⟩ with h | h <;> unfold gq_Q <;> omega)]
  · rw [e 53 (by unfold gq_Q; omega)]
  · rw [e 56 (by unfold gq_Q; omega)]
  · rw [e 217 (by unfold gq_Q; omega)]
theorem gq_inv_sm {μ ν : gx_M} (h : gq_inv μ) (e : ∀ a, gq_Q a → ν.1 a = μ.1 a) : gq_inv ν := by
  obtain ⟨h1, h2, h3⟩ := h
  refine ⟨gq_told_sm (by omega) h1 e, fun k hk => ?_, gq_most_sm h3 e⟩
  rw [e 235 (by unfold gq_Q; omega), e 41 (by unfold gq_Q; omega)]
  refine ⟨(h2 k hk).1, (h2 k hk).2.imp (fun h => h) fun h => ⟨h.1, gq_told_sm (by omega) h.2 e⟩⟩
theorem gq_inv_c {μ ν : gx_M} (h : gq_inv μ) (e : gq_sm gq_Pc μ ν) : gq_inv ν := gq_inv_sm h fun a ha => (e a (by unfold gq_Q at ha; unfold gq_Pc; omega)).1
theorem gq_inv_m {μ ν : gx_M} (h : gq_inv μ) (e : gq_sm gq_Pm μ ν) : gq_inv ν := gq_inv_sm h fun a ha => (e a (by unfold gq_Q at ha; unfold gq_Pm; omega)).1
/-- one call: both answer alike, and what is told stays alike -/
def gq_st {ρ : Type} (F G : gx_M → Option (ρ × gx_M)) (μ : gx_M) : Prop := ∃ r μ1 μ2, F μ = some (r, μ1) ∧ G μ1 = some (r, μ2) ∧ gq_inv μ2
/-- a question -/
theorem gq_st_q {ρ : Type} {F G : gx_M → Option (ρ × gx_M)} {μ : gx_M} {r : ρ} {μ1 μ2 : gx_M} (hI : gq_inv μ) (hF : F μ = some (r, μ1)) (h1 : gq_sm gq_Pc μ μ1) (hG : G μ1 = some (r, μ2)) (h2 : gq_sm gq_Pm μ1 μ2) : gq_st F G μ := ⟨r, μ1, μ2, hF, hG, gq_inv_m (gq_inv_c hI h1) h2⟩
