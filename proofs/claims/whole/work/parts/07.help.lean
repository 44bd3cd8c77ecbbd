/-! helpers of the printed programs -/
def gx_ix (j : Int32) (n : Nat) : Bool := decide (¬ (j < 0 ∨ n ≤ j.toNatClampNeg))
theorem gx_ixv {j : Int32} {n : Nat} (h : gx_ix j n = true) : vp_in j n := by
  unfold vp_in
  exact of_decide_eq_true h
theorem gx_inl {j : Int32} {n : Nat} (h : gx_ix j n = true) : vp_in j n := by
  unfold vp_in
  exact of_decide_eq_true h
def gx_br {σ β : Type} (t : Option σ) (T : σ → Option β) : Option β := t.bind T
def gx_bd {σ β : Type} (t : Option (σ × gx_M)) (T : σ → gx_M → Option β) : Option β := t.bind fun q => T q.1 q.2
theorem lgc_eq (x z : Int64) : lg_cmp x z = 0 ↔ x = z := by
  unfold lg_cmp
  by_cases h1 : x > z
  · rw [if_pos h1]
    refine ⟨fun h => absurd h (by decide), fun h => ?_⟩
    subst h
    exact absurd h1 Int64.lt_irrefl
  · rw [if_neg h1]
    by_cases h2 : x = z
    · simp [h2]
    · simp [h2]
theorem lgc_lt (x z : Int64) : lg_cmp x z < 0 ↔ x < z := by
  have h := lg_cmp_ge x z
  constructor
  · intro h1
    rcases Int64.lt_or_le x z with q | q
    · exact q
    · exact absurd h1 (Int32.not_lt.mpr (h.mpr q))
  · intro h1
    rcases Int32.lt_or_le (lg_cmp x z) 0 with q | q
    · exact q
    · exact absurd h1 (Int64.not_lt.mpr (h.mp q))
theorem lgc_ge (x z : Int64) : 0 ≤ lg_cmp x z ↔ z ≤ x := lg_cmp_ge x z
theorem lgc_gt (x z : Int64) : 0 < lg_cmp x z ↔ z < x := by
  unfold lg_cmp
  by_cases h1 : x > z
  · rw [if_pos h1]
    exact ⟨fun _ => h1, fun _ => by decide⟩
  · rw [if_neg h1]
    refine ⟨fun h => ?_, fun h => absurd h h1⟩
    by_cases h2 : x = z
    · rw [if_pos h2] at h; exact absurd h (by decide)
    · rw [if_neg h2] at h; exact absurd h (by decide)
theorem lgc_le (x z : Int64) : lg_cmp x z ≤ 0 ↔ x ≤ z := by
  have h := lgc_gt x z
  constructor
  · intro h1
    exact Int64.not_lt.mp (fun q => Int32.not_lt.mpr h1 (h.mpr q))
  · intro h1
    exact Int32.not_lt.mp (fun q => Int64.not_lt.mpr h1 (h.mp q))
theorem kcl_0 : Int64.ofNat ((0 : Fin 2) : Nat) = 0 := rfl
theorem kcl_1 : Int64.ofNat ((1 : Fin 2) : Nat) = 1 := rfl
section GXK
variable {E : gx_E} {l : Launch} {y : gx_Y} {d : Nat} {pc : Nat} {ls : List (Option Value)} {st : List Value} {G : gx_G} {μ : gx_M}
theorem s_ialdL {a n k : Nat} {refs : List (Option Nat)} {j : Int32} (hd : decode y.2.1 pc = .ok (.iaload, 1)) (hG : G[a]? = some (50, n, refs)) (hj : vp_in j n) (hk : j.toNatClampNeg = k) : gS E l y d (pc, ls, .int j :: .ref (E.2.2.1 + a) :: st, G, μ) (pc + 1, ls, .int (μ.1 a k) :: st, G, μ) := hk ▸ s_iald hd hG hj
theorem s_baldL {a n k : Nat} {refs : List (Option Nat)} {j : Int32} (hd : decode y.2.1 pc = .ok (.baload, 1)) (hG : G[a]? = some (51, n, refs)) (hj : vp_in j n) (hk : j.toNatClampNeg = k) : gS E l y d (pc, ls, .int j :: .ref (E.2.2.1 + a) :: st, G, μ) (pc + 1, ls, .int (μ.1 a k) :: st, G, μ) := hk ▸ s_bald hd hG hj
theorem s_zaldL {a n k : Nat} {refs : List (Option Nat)} {j : Int32} (hd : decode y.2.1 pc = .ok (.baload, 1)) (hG : G[a]? = some (52, n, refs)) (hj : vp_in j n) (hk : j.toNatClampNeg = k) : gS E l y d (pc, ls, .int j :: .ref (E.2.2.1 + a) :: st, G, μ) (pc + 1, ls, .int (μ.1 a k) :: st, G, μ) := hk ▸ s_zald hd hG hj
theorem s_laldL {a n k : Nat} {refs : List (Option Nat)} {j : Int32} (hd : decode y.2.1 pc = .ok (.laload, 1)) (hG : G[a]? = some (53, n, refs)) (hj : vp_in j n) (hk : j.toNatClampNeg = k) : gS E l y d (pc, ls, .int j :: .ref (E.2.2.1 + a) :: st, G, μ) (pc + 1, ls, .long (μ.2 a k) :: st, G, μ) := hk ▸ s_lald hd hG hj
theorem s_iastL {a n k : Nat} {refs : List (Option Nat)} {j x : Int32} (hd : decode y.2.1 pc = .ok (.iastore, 1)) (hG : G[a]? = some (50, n, refs)) (hj : vp_in j n) (hk : j.toNatClampNeg = k) : gS E l y d (pc, ls, .int x :: .int j :: .ref (E.2.2.1 + a) :: st, G, μ) (pc + 1, ls, st, G, gx_uI μ a k x) := hk ▸ s_iast hd hG hj
theorem s_bastL {a n k : Nat} {refs : List (Option Nat)} {j x : Int32} (hd : decode y.2.1 pc = .ok (.bastore, 1)) (hG : G[a]? = some (51, n, refs)) (hj : vp_in j n) (hk : j.toNatClampNeg = k) : gS E l y d (pc, ls, .int x :: .int j :: .ref (E.2.2.1 + a) :: st, G, μ) (pc + 1, ls, st, G, gx_uI μ a k (vp_nar .byte x)) := hk ▸ s_bast hd hG hj
theorem s_lastL {a n k : Nat} {refs : List (Option Nat)} {j : Int32} {x : Int64} (hd : decode y.2.1 pc = .ok (.lastore, 1)) (hG : G[a]? = some (53, n, refs)) (hj : vp_in j n) (hk : j.toNatClampNeg = k) : gS E l y d (pc, ls, .long x :: .int j :: .ref (E.2.2.1 + a) :: st, G, μ) (pc + 1, ls, st, G, gx_uL μ a k x) := hk ▸ s_last hd hG hj
theorem gx_narb (b : Bool) : vp_nar .boolean (gx_bi b) = gx_bi b := by cases b <;> rfl
theorem s_zastB {a n : Nat} {b : Bool} {refs : List (Option Nat)} {j : Int32} (hd : decode y.2.1 pc = .ok (.bastore, 1)) (hG : G[a]? = some (52, n, refs)) (hj : vp_in j n) : gS E l y d (pc, ls, .int (gx_bi b) :: .int j :: .ref (E.2.2.1 + a) :: st, G, μ) (pc + 1, ls, st, G, gx_uI μ a j.toNatClampNeg (gx_bi b)) := by
  have := s_zast (E := E) (l := l) (d := d) (ls := ls) (st := st) (μ := μ) (x := gx_bi b) hd hG hj
  rwa [gx_narb] at this
theorem s_zastLB {a n k : Nat} {b : Bool} {refs : List (Option Nat)} {j : Int32} (hd : decode y.2.1 pc = .ok (.bastore, 1)) (hG : G[a]? = some (52, n, refs)) (hj : vp_in j n) (hk : j.toNatClampNeg = k) : gS E l y d (pc, ls, .int (gx_bi b) :: .int j :: .ref (E.2.2.1 + a) :: st, G, μ) (pc + 1, ls, st, G, gx_uI μ a k (gx_bi b)) := hk ▸ s_zastB hd hG hj
theorem s_tsw_eq {dflt lo hi : Int} {offs : Array Int} {len : Nat} {x c : Int32} {off : Int} {tgt : Nat} (hd : decode y.2.1 pc = .ok (.tableswitch dflt lo hi offs, len)) (hx : x = c) (h1 : ¬ c.toInt < lo) (h2 : ¬ hi < c.toInt) (ho : offs[(c.toInt - lo).toNat]? = some off) (ht : (pc : Int) + off = (tgt : Int)) : gS E l y d (pc, ls, .int x :: st, G, μ) (tgt, ls, st, G, μ) := by
  subst hx
  exact s_tsw_in hd h1 h2 ho ht
def gx_LM (own : String) (idx : Nat) (x : MethodName) (bytes : ByteArray) (n : Nat) (ty : FieldType) : Prop := Jvm.Cond.methodLink own idx x ∈ gx_T ∧ Jvm.Cond.static x ∈ gx_T ∧ Jvm.Cond.initialized "java/lang/Math" ∈ gx_T ∧ Jvm.Cond.code x bytes n (some ty) ∈ gx_T
theorem s_mmax {idx : Nat} {x z : Int32} (hd : decode y.2.1 pc = .ok (.invokestatic idx, 3)) (L : gx_LM y.1.cls idx Lib.Math.max.name Lib.Math.max.code 2 .int) (hd1 : 1 ≤ d) (hr : (st.map fun v => v.category).sum ≤ 8) : gS E l y d (pc, ls, .int z :: .int x :: st, G, μ) (pc + 3, ls, .int (if x < z then z else x) :: st, G, μ) := by
  obtain ⟨l1, l2, l3, l4⟩ := L
  refine stp_g fun _ _ _ _ _ _ _ _ _ _ _ _ _ C b H arr locs hl hR hS kk => ?_
  have kk' := kk H arr locs hl hR hS
  obtain ⟨hx, hb, hmL, -, hown, hts, -, -, hfr, hlo, -, -, -, -⟩ := C
  have ht := fun (w : Cond) (h : w ∈ gx_T) => hts w (List.mem_cons_of_mem _ h)
  exact va_mmax hx hb (by rw [hmL]; exact hl.1.symm) hown (ht _ l1) (ht _ l2) (ht _ l3) (ht _ l4) (by omega) (by omega) b.1 b.2 hd kk'
theorem s_mmin {idx : Nat} {x z : Int32} (hd : decode y.2.1 pc = .ok (.invokestatic idx, 3)) (L : gx_LM y.1.cls idx Lib.Math.min.name Lib.Math.min.code 2 .int) (hd1 : 1 ≤ d) (hr : (st.map fun v => v.category).sum ≤ 8) : gS E l y d (pc, ls, .int z :: .int x :: st, G, μ) (pc + 3, ls, .int (if z < x then z else x) :: st, G, μ) := by
  obtain ⟨l1, l2, l3, l4⟩ := L
  refine stp_g fun _ _ _ _ _ _ _ _ _ _ _ _ _ C b H arr locs hl hR hS kk => ?_
  have kk' := kk H arr locs hl hR hS
  obtain ⟨hx, hb, hmL, -, hown, hts, -, -, hfr, hlo, -, -, -, -⟩ := C
  have ht := fun (w : Cond) (h : w ∈ gx_T) => hts w (List.mem_cons_of_mem _ h)
  exact va_mmin hx hb (by rw [hmL]; exact hl.1.symm) hown (ht _ l1) (ht _ l2) (ht _ l3) (ht _ l4) (by omega) (by omega) b.1 b.2 hd kk'
theorem s_mmaxl {idx : Nat} {x z : Int64} (hd : decode y.2.1 pc = .ok (.invokestatic idx, 3)) (L : gx_LM y.1.cls idx Lib.MathLoose.max_long.x Lib.MathLoose.max_long.code 4 .long) (hd1 : 1 ≤ d) (hr : (st.map fun v => v.category).sum ≤ 8) : gS E l y d (pc, ls, .long z :: .long x :: st, G, μ) (pc + 3, ls, .long (if z < x then x else z) :: st, G, μ) := by
  obtain ⟨l1, l2, l3, l4⟩ := L
  refine stp_g fun _ _ _ _ _ _ _ _ _ _ _ _ _ C b H arr locs hl hR hS kk => ?_
  have kk' := kk H arr locs hl hR hS
  obtain ⟨hx, hb, hmL, -, hown, hts, -, -, hfr, hlo, -, -, -, -⟩ := C
  have ht := fun (w : Cond) (h : w ∈ gx_T) => hts w (List.mem_cons_of_mem _ h)
  exact va_mmax_long hx hb (by rw [hmL]; exact hl.1.symm) hown (ht _ l1) (ht _ l2) (ht _ l3) (ht _ l4) (by omega) (by omega) b.1 b.2 hd kk'
theorem s_mminl {idx : Nat} {x z : Int64} (hd : decode y.2.1 pc = .ok (.invokestatic idx, 3)) (L : gx_LM y.1.cls idx Lib.MathLoose.min_long.x Lib.MathLoose.min_long.code 4 .long) (hd1 : 1 ≤ d) (hr : (st.map fun v => v.category).sum ≤ 8) : gS E l y d (pc, ls, .long z :: .long x :: st, G, μ) (pc + 3, ls, .long (if z < x then z else x) :: st, G, μ) := by
  obtain ⟨l1, l2, l3, l4⟩ := L
  refine stp_g fun _ _ _ _ _ _ _ _ _ _ _ _ _ C b H arr locs hl hR hS kk => ?_
  have kk' := kk H arr locs hl hR hS
  obtain ⟨hx, hb, hmL, -, hown, hts, -, -, hfr, hlo, -, -, -, -⟩ := C
  have ht := fun (w : Cond) (h : w ∈ gx_T) => hts w (List.mem_cons_of_mem _ h)
  exact va_mmin_long hx hb (by rw [hmL]; exact hl.1.symm) hown (ht _ l1) (ht _ l2) (ht _ l3) (ht _ l4) (by omega) (by omega) b.1 b.2 hd kk'
end GXK
theorem W_bd {ρ : Type} {E : gx_E} {l : Launch} {y : gx_Y} {d : Nat} {em : ρ → Option Value} {pc pc' : Nat} {ls : List (Option Value)} {st st' : List Value} {μ : gx_M} {σ : Type} {t : Option (σ × gx_M)} {ec : σ → Option Value} {T : σ → gx_M → Option (ρ × gx_M)} (h : ∀ r μ1, t = some (r, μ1) → gS E l y d (pc, ls, st, gx_G1, μ) (pc', ls, (ec r).toList ++ st', gx_G1, μ1)) (k : ∀ r μ1, GoW E l y d em pc' ls ((ec r).toList ++ st') μ1 (T r μ1)) : GoW E l y d em pc ls st μ (gx_bd t T) := W_call h k
theorem W_br {ρ : Type} {E : gx_E} {l : Launch} {y : gx_Y} {d : Nat} {em : ρ → Option Value} {pc pc' : Nat} {ls : List (Option Value)} {st st' : List Value} {μ : gx_M} {σ : Type} {t : Option σ} {ec : σ → Option Value} {T : σ → Option (ρ × gx_M)} (h : ∀ r, t = some r → gS E l y d (pc, ls, st, gx_G1, μ) (pc', ls, (ec r).toList ++ st', gx_G1, μ)) (k : ∀ r, GoW E l y d em pc' ls ((ec r).toList ++ st') μ (T r)) : GoW E l y d em pc ls st μ (gx_br t T) := W_callR h k
theorem R_br {ρ : Type} {E : gx_E} {l : Launch} {y : gx_Y} {d : Nat} {em : ρ → Option Value} {pc pc' : Nat} {ls : List (Option Value)} {st st' : List Value} {μ : gx_M} {σ : Type} {t : Option σ} {ec : σ → Option Value} {T : σ → Option ρ} (h : ∀ r, t = some r → gS E l y d (pc, ls, st, gx_G1, μ) (pc', ls, (ec r).toList ++ st', gx_G1, μ)) (k : ∀ r, GoR E l y d em pc' ls ((ec r).toList ++ st') μ (T r)) : GoR E l y d em pc ls st μ (gx_br t T) := R_call h k
theorem le_n {l : List (Option Value)} : gx_le [] l := trivial
theorem le_s {v : Value} {t l : List (Option Value)} (h : l.head? = some (some v)) (k : gx_le t l.tail) : gx_le (some v :: t) l := ⟨h, k⟩
theorem le_o {t l : List (Option Value)} (k : gx_le t l.tail) : gx_le (none :: t) l := k
section GXV
variable {ρ : Type} {E : gx_E} {l : Launch} {y : gx_Y} {d : Nat} {em : ρ → Option Value} {pc : Nat} {ls ls' : List (Option Value)} {st : List Value} {μ : gx_M}
theorem P_wk {T : ρ} (k : GoP E l y d em pc ls' st μ T) (h : gx_le ls' ls) : GoP E l y d em pc ls st μ T := P_s (s_wk h) k
theorem R_wk {T : Option ρ} (k : GoR E l y d em pc ls' st μ T) (h : gx_le ls' ls) : GoR E l y d em pc ls st μ T := R_s (s_wk h) k
theorem W_wk {T : Option (ρ × gx_M)} (k : GoW E l y d em pc ls' st μ T) (h : gx_le ls' ls) : GoW E l y d em pc ls st μ T := W_s (s_wk h) k
end GXV
