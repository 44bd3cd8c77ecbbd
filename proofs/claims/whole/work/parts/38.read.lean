/-! all lines -/
theorem gp_all {of : Nat} (ho : of < 4) (LL : ∀ r, gt_fk of ≤ r → r < gt_fk (of + 1) → gp_LL of r) {t : Nat → Int} {len : Nat} (ok : gt_okt t) (hl : len ≤ 600) : ∀ (d p k q e : Nat) (v f pl : Int) (fu i fA fB : Nat) (μ ν : gx_M), p + d = len → i ≤ p → fu ≤ p → d + 2 < fA → d + 2 < fB → gp_R μ ν t len p k q e v f pl → gp_X of μ ν f fu → ∃ (μ' ν' : gx_M) (b : Bool), (∀ K, L_X4_read_17 (gq_I of) K fA true (gq_I i) μ = K μ') ∧ (∀ K, L_X12_lines_2 (gq_I of) K fB true ν = K b ν') ∧ gp_kc μ μ' ∧ gp_km ν ν' ∧ (gq_ln μ' 53 40 ∧ gq_ln μ' 56 8) ∧ gq_rd ν' ∧ ((b = false ∧ ∃ x : Nat, x ≤ 600 ∧ μ'.1 42 6 = gq_I 1 ∧ μ'.1 42 7 = gq_I x ∧ ν'.1 206 16 = gq_I x) ∨ (b = true ∧ ∃ (f2 pl2 : Int) (fu2 : Nat), (f2 = 0 ∧ pl2 = -1 ∨ (f2 = 2 ∨ f2 = 3) ∧ 0 ≤ pl2 ∧ pl2 < len) ∧ μ'.1 42 6 = gq_I f2 ∧ μ'.1 42 7 = gq_I pl2 ∧ ν'.1 206 17 = gq_I f2 ∧ (f2 ≠ 0 → ν'.1 206 18 = gq_I pl2) ∧ ν'.1 206 12 = gq_I len ∧ μ'.1 43 1 = gq_I len ∧ gp_F2 ν' ∧ (f2 = 0 → gp_CR of μ' ν' fu2)))
  | d, p, k, q, e, v, f, pl, fu, i, 0, fB, μ, ν, hd, hi, hf, hA, hB, hR, hX => absurd hA (Nat.not_lt_zero _)
  | d, p, k, q, e, v, f, pl, fu, i, fA + 1, 0, μ, ν, hd, hi, hf, hA, hB, hR, hX => absurd hB (Nat.not_lt_zero _)
  | d, p, k, q, e, v, f, pl, fu, i, fA + 1, fB + 1, μ, ν, hd, hi, hf, hA, hB, hR, hX => by
    have tb := gt_tk_b hR.1
    obtain ⟨fA', rfl⟩ : ∃ m, fA = m + 1 := ⟨fA - 1, by omega⟩
    obtain ⟨fB', rfl⟩ : ∃ m, fB = m + 1 := ⟨fB - 1, by omega⟩
    have i600 : ¬ (gq_I 600 < gq_I (i : Int)) := by rw [gq_lt (by omega)]; omega
    have again : ∀ K μ', L_X4_read_17 (gq_I of) K (fA' + 1) false (gq_I i + gq_I 1) μ' = K μ' := fun K μ' => by
      rw [L_X4_read_17.eq_2]
      split <;> rfl
    by_cases hk : k = 0
    · obtain ⟨μ1, a1, hA', a2, a3⟩ := gp_adv ok hl hR
      obtain ⟨b1, ⟨b2, b3, b4, b5, b6, b7⟩, ⟨b8, b9, b10, b11, b12, b13, b14⟩, b15⟩ := hA'
      have hq : q = len := tb.2.2.2.2.2.1 hk
      have X1 := gp_X_w (μ' := μ1) (ν' := ν) hX (fun a j g => a2 _ _ (by omega)) fun _ _ _ => rfl
      refine ⟨μ1, ν, true, fun K => ?_, fun K => ?_, ⟨fun a j g => a2 _ _ (by omega), a3⟩, ⟨fun _ _ _ => rfl, fun _ _ _ => rfl⟩, X1.2.1, X1.2.2.2.1, Or.inr ⟨rfl, f, pl, fu, by omega, b6, b7, b13, b14, by rw [b11, hq], b2.1, X1.2.2.1, X1.2.2.2.2.2⟩⟩
      · have rl : f_X4_readLine (gq_I of) μ = some (false, μ1) := by
          unfold f_X4_readLine
          rw [a1, gq_bd, b4, hk]
          exact if_pos rfl
        rw [L_X4_read_17.eq_2]
        simp only [gq_lit]
        rw [if_neg i600, if_true, rl, gq_bd]
        exact again K μ1
      · rw [L_X12_lines_2.eq_2, b10, hk]
        rfl
    · rcases gp_iter ho LL ok hl hR hX hf hk with ⟨μ', ν', x, s1, s2, s3, s4, s5, s6, s7⟩ | ⟨k2, q2, e2, p2, v2, f2, pl2, fu2, μ', ν', g1, g2, g3, g4, g5, g6, g7⟩
      · refine ⟨μ', ν', false, fun K => ?_, fun K => ?_, s6, s7, s4, s5, Or.inl ⟨rfl, x, s3⟩⟩
        · rw [L_X4_read_17.eq_2]
          simp only [gq_lit]
          rw [if_neg i600, if_true, s1, gq_bd]
          exact again K μ'
        · exact s2 K fB'
      · obtain ⟨μ2, ν2, b, h1, h2, h3, h4, h5, h6, h7⟩ := gp_all ho LL ok hl (len - p2) p2 k2 q2 e2 v2 f2 pl2 fu2 (i + 1) (fA' + 1) (fB' + 1) μ' ν' (by omega) (by omega) (by omega) (by omega) (by omega) g3 g4
        refine ⟨μ2, ν2, b, fun K => ?_, fun K => ?_, gp_kc_tr g6 h3, gp_km_tr g7 h4, h5, h6, h7⟩
        · rw [L_X4_read_17.eq_2]
          simp only [gq_lit]
          rw [if_neg i600, if_true, g1, gq_bd]
          rw [gq_add]
          exact h1 K
        · rw [g2, h2]
  termination_by d p k q e v f pl fu i fA => fA
