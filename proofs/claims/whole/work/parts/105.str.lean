/-! copies of arrays; objects of many; text constants -/
def gx_cp (μ : gx_M) (a b sp dp n : Nat) : gx_M := (fun c j => if c = b ∧ (dp ≤ j ∧ j < dp + n) then μ.1 a (sp + (j - dp)) else μ.1 c j, μ.2)
def gx_cpk (sp dp n : Int32) (na nb : Nat) : Bool := decide (¬ sp < 0 ∧ ¬ dp < 0 ∧ ¬ n < 0 ∧ sp.toNatClampNeg + n.toNatClampNeg ≤ na ∧ dp.toNatClampNeg + n.toNatClampNeg ≤ nb)
def gx_fitB (μ : gx_M) (a sp n : Nat) : Bool := (List.range n).all (fun i => fits .byte (.int (μ.1 a (sp + i))))
def gx_LC (own : String) (idx : Nat) : Prop := Jvm.Cond.methodLink own idx arraycopyName ∈ gx_T ∧ Jvm.Cond.native arraycopyName ∈ gx_T ∧ Jvm.Cond.static arraycopyName ∈ gx_T ∧ Jvm.Cond.initialized "java/lang/System" ∈ gx_T
theorem gx_otherC (E : gx_E) (μ : gx_M) {a b c sp dp n : Nat} (h : c ≠ b) (kd : Nat × Nat × List (Option Nat)) : gx_ent E (gx_cp μ a b sp dp n) c kd = gx_ent E μ c kd := by
  have e1 : (gx_cp μ a b sp dp n).1 c = μ.1 c := by funext j; simp [gx_cp, h]
  have e2 : (gx_cp μ a b sp dp n).2 = μ.2 := rfl
  unfold gx_ent gx_fv
  rw [e1, e2]
theorem gx_cp_at (μ : gx_M) (a b sp dp n : Nat) : (gx_cp μ a b sp dp n).1 b = va_cpy (μ.1 a) (μ.1 b) sp dp n := by
  funext j
  simp [gx_cp, va_cpy]
section GXX
variable {E : gx_E} {l : Launch} {y : gx_Y} {d : Nat} {pc : Nat} {ls : List (Option Value)} {st : List Value} {G : gx_G} {μ : gx_M}
theorem s_acopyI {idx a b na nb : Nat} {ra rb : List (Option Nat)} {sp dp n : Int32} (hd : decode y.2.1 pc = .ok (.invokestatic idx, 3)) (L : gx_LC y.1.cls idx) (hd1 : 1 ≤ d) (hr : (st.map fun v => v.category).sum ≤ 8) (ha : G[a]? = some (50, na, ra)) (hb9 : G[b]? = some (50, nb, rb)) (hc : gx_cpk sp dp n na nb = true) :
    gS E l y d (pc, ls, .int n :: .int dp :: .ref (E.2.2.1 + b) :: .int sp :: .ref (E.2.2.1 + a) :: st, G, μ) (pc + 3, ls, st, G, gx_cp μ a b sp.toNatClampNeg dp.toNatClampNeg n.toNatClampNeg) := by
  obtain ⟨l1, l2, l3, l4⟩ := L
  obtain ⟨c1, c2, c3, c4, c5⟩ := of_decide_eq_true hc
  refine stp_g fun _ _ _ _ _ _ _ _ _ _ _ _ _ C _ H arr locs hl hR hS kk => ?_
  obtain ⟨hx, hb, hmL, -, hown, hts, -, -, hfr, hlo, hK, -, -, -⟩ := C
  have ht := fun (w : Cond) (h : w ∈ gx_T) => hts w (List.mem_cons_of_mem _ h)
  have hn9 : nativeFrameWords "java/lang/System" "arraycopy" 5 + 11 ≤ 60 := by decide
  refine va_copyi hx hb (by rw [hmL]; exact hl.1.symm) hown (ht _ l1) (ht _ l2) (ht _ l3) (ht _ l4) hK hR (gx_D E G μ) hS a b 0 0 (gx_at E μ ha) (gx_at E μ hb9) rfl rfl rfl c1 c2 c3 c4 c5 (fun _ _ => rfl) (by omega) (by omega) hd (fun H1 locs1 hP1 _ hS1 => kk H1 arr locs1 hl ?_ hS1)
  show va_P E.1 gx_cl (gx_ws E G (gx_cp μ a b sp.toNatClampNeg dp.toNatClampNeg n.toNatClampNeg)) H1
  rw [gx_set hb9 (gx_set0 hb9) (fun c kb hcb _ => gx_otherC E μ hcb kb)]
  have e : gx_ent E (gx_cp μ a b sp.toNatClampNeg dp.toNatClampNeg n.toNatClampNeg) b (50, nb, rb) = .inl (E.2.1 0, nb, .inl (va_cpy (μ.1 a) (μ.1 b) sp.toNatClampNeg dp.toNatClampNeg n.toNatClampNeg)) := by
    unfold gx_ent
    rw [gx_cp_at]
    rfl
  rw [e]
  exact hP1
theorem s_acopyB {idx a b na nb : Nat} {ra rb : List (Option Nat)} {sp dp n : Int32} (hd : decode y.2.1 pc = .ok (.invokestatic idx, 3)) (L : gx_LC y.1.cls idx) (hd1 : 1 ≤ d) (hr : (st.map fun v => v.category).sum ≤ 8) (ha : G[a]? = some (51, na, ra)) (hb9 : G[b]? = some (51, nb, rb)) (hc : gx_cpk sp dp n na nb = true) (hf : gx_fitB μ a sp.toNatClampNeg n.toNatClampNeg = true) :
    gS E l y d (pc, ls, .int n :: .int dp :: .ref (E.2.2.1 + b) :: .int sp :: .ref (E.2.2.1 + a) :: st, G, μ) (pc + 3, ls, st, G, gx_cp μ a b sp.toNatClampNeg dp.toNatClampNeg n.toNatClampNeg) := by
  obtain ⟨l1, l2, l3, l4⟩ := L
  obtain ⟨c1, c2, c3, c4, c5⟩ := of_decide_eq_true hc
  refine stp_g fun _ _ _ _ _ _ _ _ _ _ _ _ _ C _ H arr locs hl hR hS kk => ?_
  obtain ⟨hx, hb, hmL, -, hown, hts, -, -, hfr, hlo, hK, -, -, -⟩ := C
  have ht := fun (w : Cond) (h : w ∈ gx_T) => hts w (List.mem_cons_of_mem _ h)
  have hn9 : nativeFrameWords "java/lang/System" "arraycopy" 5 + 11 ≤ 60 := by decide
  refine va_copyi hx hb (by rw [hmL]; exact hl.1.symm) hown (ht _ l1) (ht _ l2) (ht _ l3) (ht _ l4) hK hR (gx_D E G μ) hS a b 1 1 (gx_at E μ ha) (gx_at E μ hb9) rfl rfl rfl c1 c2 c3 c4 c5 (fun i hi => List.all_eq_true.mp hf i (List.mem_range.mpr hi)) (by omega) (by omega) hd (fun H1 locs1 hP1 _ hS1 => kk H1 arr locs1 hl ?_ hS1)
  show va_P E.1 gx_cl (gx_ws E G (gx_cp μ a b sp.toNatClampNeg dp.toNatClampNeg n.toNatClampNeg)) H1
  rw [gx_set hb9 (gx_set0 hb9) (fun c kb hcb _ => gx_otherC E μ hcb kb)]
  have e : gx_ent E (gx_cp μ a b sp.toNatClampNeg dp.toNatClampNeg n.toNatClampNeg) b (51, nb, rb) = .inl (E.2.1 1, nb, .inl (va_cpy (μ.1 a) (μ.1 b) sp.toNatClampNeg dp.toNatClampNeg n.toNatClampNeg)) := by
    unfold gx_ent
    rw [gx_cp_at]
    rfl
  rw [e]
  exact hP1
theorem s_lsw_eq {dflt : Int} {ps : Array (Int × Int)} {len : Nat} {x c : Int32} {off : Int} {tgt : Nat} (hd : decode y.2.1 pc = .ok (.lookupswitch dflt ps, len)) (hp : (ps.toList.zip (ps.toList.drop 1)).all (fun (a, next) => a.1 < next.1) = true) (hx : x = c) (ho : Op.lookupswitch.offset ps.toList dflt c.toInt = off) (ht : (pc : Int) + off = (tgt : Int)) : gS E l y d (pc, ls, .int x :: st, G, μ) (tgt, ls, st, G, μ) := by
  subst hx
  exact s_lsw hd hp ho ht
theorem s_i2c {x : Int32} (hd : decode y.2.1 pc = .ok (.i2c, 1)) : gS E l y d (pc, ls, .int x :: st, G, μ) (pc + 1, ls, .int (x.toUInt32.toUInt16.toUInt32.toInt32) :: st, G, μ) := stp_g fun _ _ _ _ _ _ _ _ _ _ _ _ _ C _ H arr locs hl hR hS k => lv_i2c C.1 C.2.1 hd (lg_i2c_nf x) (k H arr locs hl hR hS)
end GXX
/-- two of a row -/
theorem gx_two {j : Int32} (h : vp_in j 2) : j = 0 ∨ j = 1 := by
  obtain ⟨k, hk, rfl⟩ := vp_in_of h (by decide)
  rcases (show k = 0 ∨ k = 1 by omega) with rfl | rfl
  · exact Or.inl rfl
  · exact Or.inr rfl
theorem gx_three {j : Int32} (h : vp_in j 3) : j = 0 ∨ j = 1 ∨ j = 2 := by
  obtain ⟨k, hk, rfl⟩ := vp_in_of h (by decide)
  rcases (show k = 0 ∨ k = 1 ∨ k = 2 by omega) with rfl | rfl | rfl
  · exact Or.inl rfl
  · exact Or.inr (Or.inl rfl)
  · exact Or.inr (Or.inr rfl)

def gx_St (a : Nat) : Prop := a ∈ ([8, 24, 45, 63, 96, 112, 135, 151, 174, 190] : List Nat)
def gx_Sw (a : Nat) : Prop := a ∈ ([22, 38, 59, 110, 126, 149, 165, 188, 204] : List Nat)
def gx_Td (a : Nat) : Prop := a ∈ ([1, 89, 128, 167] : List Nat)
def gx_Ln (a n : Nat) : Prop := (a, n) ∈ ([(16, 40), (19, 8), (32, 40), (35, 8), (53, 40), (56, 8), (104, 40), (107, 8), (120, 40), (123, 8), (143, 40), (146, 8), (159, 40), (162, 8), (182, 40), (185, 8), (198, 40), (201, 8)] : List (Nat × Nat))
def gx_decSt (a : Nat) : Decidable (gx_St a) := by unfold gx_St; infer_instance
def gx_decSw (a : Nat) : Decidable (gx_Sw a) := by unfold gx_Sw; infer_instance
def gx_decTd (a : Nat) : Decidable (gx_Td a) := by unfold gx_Td; infer_instance
theorem St_0 {a : Nat} (h : gx_St a) : gx_G1[a]? = some (5, 10, [none, none, none, some (a + 1), some (a + 2), some (a + 3), some (a + 4), some (a + 5), some (a + 6), some (a + 7)]) := by
  simp only [gx_St, List.mem_cons, List.not_mem_nil, or_false] at h
  rcases h with rfl | rfl | rfl | rfl | rfl | rfl | rfl | rfl | rfl | rfl <;> rfl
theorem St_1 {a : Nat} (h : gx_St a) : gx_G1[a + 1]? = some (50, 4, []) := by
  simp only [gx_St, List.mem_cons, List.not_mem_nil, or_false] at h
  rcases h with rfl | rfl | rfl | rfl | rfl | rfl | rfl | rfl | rfl | rfl <;> rfl
theorem St_2 {a : Nat} (h : gx_St a) : gx_G1[a + 2]? = some (50, 40, []) := by
  simp only [gx_St, List.mem_cons, List.not_mem_nil, or_false] at h
  rcases h with rfl | rfl | rfl | rfl | rfl | rfl | rfl | rfl | rfl | rfl <;> rfl
theorem St_3 {a : Nat} (h : gx_St a) : gx_G1[a + 3]? = some (50, 40, []) := by
  simp only [gx_St, List.mem_cons, List.not_mem_nil, or_false] at h
  rcases h with rfl | rfl | rfl | rfl | rfl | rfl | rfl | rfl | rfl | rfl <;> rfl
theorem St_4 {a : Nat} (h : gx_St a) : gx_G1[a + 4]? = some (50, 6, []) := by
  simp only [gx_St, List.mem_cons, List.not_mem_nil, or_false] at h
  rcases h with rfl | rfl | rfl | rfl | rfl | rfl | rfl | rfl | rfl | rfl <;> rfl
theorem St_5 {a : Nat} (h : gx_St a) : gx_G1[a + 5]? = some (50, 6, []) := by
  simp only [gx_St, List.mem_cons, List.not_mem_nil, or_false] at h
  rcases h with rfl | rfl | rfl | rfl | rfl | rfl | rfl | rfl | rfl | rfl <;> rfl
theorem St_6 {a : Nat} (h : gx_St a) : gx_G1[a + 6]? = some (50, 6, []) := by
  simp only [gx_St, List.mem_cons, List.not_mem_nil, or_false] at h
  rcases h with rfl | rfl | rfl | rfl | rfl | rfl | rfl | rfl | rfl | rfl <;> rfl
theorem St_7 {a : Nat} (h : gx_St a) : gx_G1[a + 7]? = some (50, 6, []) := by
  simp only [gx_St, List.mem_cons, List.not_mem_nil, or_false] at h
  rcases h with rfl | rfl | rfl | rfl | rfl | rfl | rfl | rfl | rfl | rfl <;> rfl
theorem Sw_0 {a : Nat} (h : gx_Sw a) : gx_G1[a]? = some (6, 2, [none, some (a + 1)]) := by
  simp only [gx_Sw, List.mem_cons, List.not_mem_nil, or_false] at h
  rcases h with rfl | rfl | rfl | rfl | rfl | rfl | rfl | rfl | rfl <;> rfl
theorem Sw_1 {a : Nat} (h : gx_Sw a) : gx_G1[a + 1]? = some (50, 36, []) := by
  simp only [gx_Sw, List.mem_cons, List.not_mem_nil, or_false] at h
  rcases h with rfl | rfl | rfl | rfl | rfl | rfl | rfl | rfl | rfl <;> rfl
theorem Td_0 {a : Nat} (h : gx_Td a) : gx_G1[a]? = some (9, 9, [some (a + 1), some (a + 2), some (a + 3), some (a + 4), some (a + 5), some (a + 6), none, none, none]) := by
  simp only [gx_Td, List.mem_cons, List.not_mem_nil, or_false] at h
  rcases h with rfl | rfl | rfl | rfl <;> rfl
theorem Td_1 {a : Nat} (h : gx_Td a) : gx_G1[a + 1]? = some (50, 4, []) := by
  simp only [gx_Td, List.mem_cons, List.not_mem_nil, or_false] at h
  rcases h with rfl | rfl | rfl | rfl <;> rfl
theorem Td_2 {a : Nat} (h : gx_Td a) : gx_G1[a + 2]? = some (54, 2, [some (a + 7), some (a + 23)]) := by
  simp only [gx_Td, List.mem_cons, List.not_mem_nil, or_false] at h
  rcases h with rfl | rfl | rfl | rfl <;> rfl
theorem Td_3 {a : Nat} (h : gx_Td a) : gx_G1[a + 3]? = some (55, 2, [some (a + 15), some (a + 31)]) := by
  simp only [gx_Td, List.mem_cons, List.not_mem_nil, or_false] at h
  rcases h with rfl | rfl | rfl | rfl <;> rfl
theorem Td_4 {a : Nat} (h : gx_Td a) : gx_G1[a + 4]? = some (55, 2, [some (a + 18), some (a + 34)]) := by
  simp only [gx_Td, List.mem_cons, List.not_mem_nil, or_false] at h
  rcases h with rfl | rfl | rfl | rfl <;> rfl
theorem Td_5 {a : Nat} (h : gx_Td a) : gx_G1[a + 5]? = some (56, 2, [some (a + 21), some (a + 37)]) := by
  simp only [gx_Td, List.mem_cons, List.not_mem_nil, or_false] at h
  rcases h with rfl | rfl | rfl | rfl <;> rfl
theorem Td_6 {a : Nat} (h : gx_Td a) : gx_G1[a + 6]? = some (51, 600, []) := by
  simp only [gx_Td, List.mem_cons, List.not_mem_nil, or_false] at h
  rcases h with rfl | rfl | rfl | rfl <;> rfl
theorem Ln_0 {a n : Nat} (h : gx_Ln a n) : gx_G1[a]? = some (2, 4, [none, some (a + 1), some (a + 2), none]) := by
  simp only [gx_Ln, List.mem_cons, List.not_mem_nil, or_false, Prod.mk.injEq] at h
  rcases h with ⟨rfl, rfl⟩ | ⟨rfl, rfl⟩ | ⟨rfl, rfl⟩ | ⟨rfl, rfl⟩ | ⟨rfl, rfl⟩ | ⟨rfl, rfl⟩ | ⟨rfl, rfl⟩ | ⟨rfl, rfl⟩ | ⟨rfl, rfl⟩ | ⟨rfl, rfl⟩ | ⟨rfl, rfl⟩ | ⟨rfl, rfl⟩ | ⟨rfl, rfl⟩ | ⟨rfl, rfl⟩ | ⟨rfl, rfl⟩ | ⟨rfl, rfl⟩ | ⟨rfl, rfl⟩ | ⟨rfl, rfl⟩ <;> rfl
theorem Ln_1 {a n : Nat} (h : gx_Ln a n) : gx_G1[a + 1]? = some (50, n, []) := by
  simp only [gx_Ln, List.mem_cons, List.not_mem_nil, or_false, Prod.mk.injEq] at h
  rcases h with ⟨rfl, rfl⟩ | ⟨rfl, rfl⟩ | ⟨rfl, rfl⟩ | ⟨rfl, rfl⟩ | ⟨rfl, rfl⟩ | ⟨rfl, rfl⟩ | ⟨rfl, rfl⟩ | ⟨rfl, rfl⟩ | ⟨rfl, rfl⟩ | ⟨rfl, rfl⟩ | ⟨rfl, rfl⟩ | ⟨rfl, rfl⟩ | ⟨rfl, rfl⟩ | ⟨rfl, rfl⟩ | ⟨rfl, rfl⟩ | ⟨rfl, rfl⟩ | ⟨rfl, rfl⟩ | ⟨rfl, rfl⟩ <;> rfl
theorem Ln_2 {a n : Nat} (h : gx_Ln a n) : gx_G1[a + 2]? = some (50, n * 3, []) := by
  simp only [gx_Ln, List.mem_cons, List.not_mem_nil, or_false, Prod.mk.injEq] at h
  rcases h with ⟨rfl, rfl⟩ | ⟨rfl, rfl⟩ | ⟨rfl, rfl⟩ | ⟨rfl, rfl⟩ | ⟨rfl, rfl⟩ | ⟨rfl, rfl⟩ | ⟨rfl, rfl⟩ | ⟨rfl, rfl⟩ | ⟨rfl, rfl⟩ | ⟨rfl, rfl⟩ | ⟨rfl, rfl⟩ | ⟨rfl, rfl⟩ | ⟨rfl, rfl⟩ | ⟨rfl, rfl⟩ | ⟨rfl, rfl⟩ | ⟨rfl, rfl⟩ | ⟨rfl, rfl⟩ | ⟨rfl, rfl⟩ <;> rfl
theorem Ln_c_16 : gx_Ln 16 40 := by simp [gx_Ln]
theorem Ln_c_19 : gx_Ln 19 8 := by simp [gx_Ln]
theorem Ln_c_32 : gx_Ln 32 40 := by simp [gx_Ln]
theorem Ln_c_35 : gx_Ln 35 8 := by simp [gx_Ln]
theorem Ln_c_53 : gx_Ln 53 40 := by simp [gx_Ln]
theorem Ln_c_56 : gx_Ln 56 8 := by simp [gx_Ln]
theorem Ln_c_104 : gx_Ln 104 40 := by simp [gx_Ln]
theorem Ln_c_107 : gx_Ln 107 8 := by simp [gx_Ln]
theorem Ln_c_120 : gx_Ln 120 40 := by simp [gx_Ln]
theorem Ln_c_123 : gx_Ln 123 8 := by simp [gx_Ln]
theorem Ln_c_143 : gx_Ln 143 40 := by simp [gx_Ln]
theorem Ln_c_146 : gx_Ln 146 8 := by simp [gx_Ln]
theorem Ln_c_159 : gx_Ln 159 40 := by simp [gx_Ln]
theorem Ln_c_162 : gx_Ln 162 8 := by simp [gx_Ln]
theorem Ln_c_182 : gx_Ln 182 40 := by simp [gx_Ln]
theorem Ln_c_185 : gx_Ln 185 8 := by simp [gx_Ln]
theorem Ln_c_198 : gx_Ln 198 40 := by simp [gx_Ln]
theorem Ln_c_201 : gx_Ln 201 8 := by simp [gx_Ln]
theorem St_c_8 : gx_St 8 := by simp [gx_St]
theorem St_c_24 : gx_St 24 := by simp [gx_St]
theorem St_c_45 : gx_St 45 := by simp [gx_St]
theorem St_c_63 : gx_St 63 := by simp [gx_St]
theorem St_c_96 : gx_St 96 := by simp [gx_St]
theorem St_c_112 : gx_St 112 := by simp [gx_St]
theorem St_c_135 : gx_St 135 := by simp [gx_St]
theorem St_c_151 : gx_St 151 := by simp [gx_St]
theorem St_c_174 : gx_St 174 := by simp [gx_St]
theorem St_c_190 : gx_St 190 := by simp [gx_St]
theorem Sw_c_22 : gx_Sw 22 := by simp [gx_Sw]
theorem Sw_c_38 : gx_Sw 38 := by simp [gx_Sw]
theorem Sw_c_59 : gx_Sw 59 := by simp [gx_Sw]
theorem Sw_c_110 : gx_Sw 110 := by simp [gx_Sw]
theorem Sw_c_126 : gx_Sw 126 := by simp [gx_Sw]
theorem Sw_c_149 : gx_Sw 149 := by simp [gx_Sw]
theorem Sw_c_165 : gx_Sw 165 := by simp [gx_Sw]
theorem Sw_c_188 : gx_Sw 188 := by simp [gx_Sw]
theorem Sw_c_204 : gx_Sw 204 := by simp [gx_Sw]
theorem Td_c_1 : gx_Td 1 := by simp [gx_Td]
theorem Td_c_89 : gx_Td 89 := by simp [gx_Td]
theorem Td_c_128 : gx_Td 128 := by simp [gx_Td]
theorem Td_c_167 : gx_Td 167 := by simp [gx_Td]
theorem aqh_3 {j : Int32} (hj : vp_in j 2) : gx_St (8 + 16 * j.toNatClampNeg) := by
  rcases gx_two hj with rfl | rfl <;> (unfold gx_St; decide)
theorem aq_3 {E : gx_E} {l : Launch} {y : gx_Y} {d pc : Nat} {ls : List (Option Value)} {st : List Value} {μ : gx_M} {j : Int32} (hd : decode y.2.1 pc = .ok (.aaload, 1)) (hj : vp_in j 2) : gS E l y d (pc, ls, .int j :: .ref (E.2.2.1 + 3) :: st, gx_G1, μ) (pc + 1, ls, .ref (E.2.2.1 + (8 + 16 * j.toNatClampNeg)) :: st, gx_G1, μ) := s_aald hd g_3 (by decide) hj (by rcases gx_two hj with rfl | rfl <;> rfl)
theorem aqh_4 {j : Int32} (hj : vp_in j 2) : gx_Ln (16 + 16 * j.toNatClampNeg) 40 := by
  rcases gx_two hj with rfl | rfl <;> (unfold gx_Ln; decide)
theorem aq_4 {E : gx_E} {l : Launch} {y : gx_Y} {d pc : Nat} {ls : List (Option Value)} {st : List Value} {μ : gx_M} {j : Int32} (hd : decode y.2.1 pc = .ok (.aaload, 1)) (hj : vp_in j 2) : gS E l y d (pc, ls, .int j :: .ref (E.2.2.1 + 4) :: st, gx_G1, μ) (pc + 1, ls, .ref (E.2.2.1 + (16 + 16 * j.toNatClampNeg)) :: st, gx_G1, μ) := s_aald hd g_4 (by decide) hj (by rcases gx_two hj with rfl | rfl <;> rfl)
theorem aqh_5 {j : Int32} (hj : vp_in j 2) : gx_Ln (19 + 16 * j.toNatClampNeg) 8 := by
  rcases gx_two hj with rfl | rfl <;> (unfold gx_Ln; decide)
theorem aq_5 {E : gx_E} {l : Launch} {y : gx_Y} {d pc : Nat} {ls : List (Option Value)} {st : List Value} {μ : gx_M} {j : Int32} (hd : decode y.2.1 pc = .ok (.aaload, 1)) (hj : vp_in j 2) : gS E l y d (pc, ls, .int j :: .ref (E.2.2.1 + 5) :: st, gx_G1, μ) (pc + 1, ls, .ref (E.2.2.1 + (19 + 16 * j.toNatClampNeg)) :: st, gx_G1, μ) := s_aald hd g_5 (by decide) hj (by rcases gx_two hj with rfl | rfl <;> rfl)
theorem aqh_6 {j : Int32} (hj : vp_in j 2) : gx_Sw (22 + 16 * j.toNatClampNeg) := by
  rcases gx_two hj with rfl | rfl <;> (unfold gx_Sw; decide)
theorem aq_6 {E : gx_E} {l : Launch} {y : gx_Y} {d pc : Nat} {ls : List (Option Value)} {st : List Value} {μ : gx_M} {j : Int32} (hd : decode y.2.1 pc = .ok (.aaload, 1)) (hj : vp_in j 2) : gS E l y d (pc, ls, .int j :: .ref (E.2.2.1 + 6) :: st, gx_G1, μ) (pc + 1, ls, .ref (E.2.2.1 + (22 + 16 * j.toNatClampNeg)) :: st, gx_G1, μ) := s_aald hd g_6 (by decide) hj (by rcases gx_two hj with rfl | rfl <;> rfl)
theorem aqh_40 {j : Int32} (hj : vp_in j 3) : gx_Td (89 + 39 * j.toNatClampNeg) := by
  rcases gx_three hj with rfl | rfl | rfl <;> (unfold gx_Td; decide)
theorem aq_40 {E : gx_E} {l : Launch} {y : gx_Y} {d pc : Nat} {ls : List (Option Value)} {st : List Value} {μ : gx_M} {j : Int32} (hd : decode y.2.1 pc = .ok (.aaload, 1)) (hj : vp_in j 3) : gS E l y d (pc, ls, .int j :: .ref (E.2.2.1 + 40) :: st, gx_G1, μ) (pc + 1, ls, .ref (E.2.2.1 + (89 + 39 * j.toNatClampNeg)) :: st, gx_G1, μ) := s_aald hd g_40 (by decide) hj (by rcases gx_three hj with rfl | rfl | rfl <;> rfl)
theorem Td_St_2 {a : Nat} (h : gx_Td a) {j : Int32} (hj : vp_in j 2) : gx_St (a + 7 + 16 * j.toNatClampNeg) := by
  simp only [gx_Td, List.mem_cons, List.not_mem_nil, or_false] at h
  rcases gx_two hj with rfl | rfl <;> rcases h with rfl | rfl | rfl | rfl <;> (unfold gx_St; decide)
theorem aqT_2 {a : Nat} (h : gx_Td a) {E : gx_E} {l : Launch} {y : gx_Y} {d pc : Nat} {ls : List (Option Value)} {st : List Value} {μ : gx_M} {j : Int32} (hd : decode y.2.1 pc = .ok (.aaload, 1)) (hj : vp_in j 2) : gS E l y d (pc, ls, .int j :: .ref (E.2.2.1 + (a + 2)) :: st, gx_G1, μ) (pc + 1, ls, .ref (E.2.2.1 + (a + 7 + 16 * j.toNatClampNeg)) :: st, gx_G1, μ) := s_aald hd (Td_2 h) (by decide) hj (by rcases gx_two hj with rfl | rfl <;> rfl)
theorem Td_Ln_3 {a : Nat} (h : gx_Td a) {j : Int32} (hj : vp_in j 2) : gx_Ln (a + 15 + 16 * j.toNatClampNeg) 40 := by
  simp only [gx_Td, List.mem_cons, List.not_mem_nil, or_false] at h
  rcases gx_two hj with rfl | rfl <;> rcases h with rfl | rfl | rfl | rfl <;> (unfold gx_Ln; decide)
theorem aqT_3 {a : Nat} (h : gx_Td a) {E : gx_E} {l : Launch} {y : gx_Y} {d pc : Nat} {ls : List (Option Value)} {st : List Value} {μ : gx_M} {j : Int32} (hd : decode y.2.1 pc = .ok (.aaload, 1)) (hj : vp_in j 2) : gS E l y d (pc, ls, .int j :: .ref (E.2.2.1 + (a + 3)) :: st, gx_G1, μ) (pc + 1, ls, .ref (E.2.2.1 + (a + 15 + 16 * j.toNatClampNeg)) :: st, gx_G1, μ) := s_aald hd (Td_3 h) (by decide) hj (by rcases gx_two hj with rfl | rfl <;> rfl)
theorem Td_Ln_4 {a : Nat} (h : gx_Td a) {j : Int32} (hj : vp_in j 2) : gx_Ln (a + 18 + 16 * j.toNatClampNeg) 8 := by
  simp only [gx_Td, List.mem_cons, List.not_mem_nil, or_false] at h
  rcases gx_two hj with rfl | rfl <;> rcases h with rfl | rfl | rfl | rfl <;> (unfold gx_Ln; decide)
theorem aqT_4 {a : Nat} (h : gx_Td a) {E : gx_E} {l : Launch} {y : gx_Y} {d pc : Nat} {ls : List (Option Value)} {st : List Value} {μ : gx_M} {j : Int32} (hd : decode y.2.1 pc = .ok (.aaload, 1)) (hj : vp_in j 2) : gS E l y d (pc, ls, .int j :: .ref (E.2.2.1 + (a + 4)) :: st, gx_G1, μ) (pc + 1, ls, .ref (E.2.2.1 + (a + 18 + 16 * j.toNatClampNeg)) :: st, gx_G1, μ) := s_aald hd (Td_4 h) (by decide) hj (by rcases gx_two hj with rfl | rfl <;> rfl)
theorem Td_Sw_5 {a : Nat} (h : gx_Td a) {j : Int32} (hj : vp_in j 2) : gx_Sw (a + 21 + 16 * j.toNatClampNeg) := by
  simp only [gx_Td, List.mem_cons, List.not_mem_nil, or_false] at h
  rcases gx_two hj with rfl | rfl <;> rcases h with rfl | rfl | rfl | rfl <;> (unfold gx_Sw; decide)
theorem aqT_5 {a : Nat} (h : gx_Td a) {E : gx_E} {l : Launch} {y : gx_Y} {d pc : Nat} {ls : List (Option Value)} {st : List Value} {μ : gx_M} {j : Int32} (hd : decode y.2.1 pc = .ok (.aaload, 1)) (hj : vp_in j 2) : gS E l y d (pc, ls, .int j :: .ref (E.2.2.1 + (a + 5)) :: st, gx_G1, μ) (pc + 1, ls, .ref (E.2.2.1 + (a + 21 + 16 * j.toNatClampNeg)) :: st, gx_G1, μ) := s_aald hd (Td_5 h) (by decide) hj (by rcases gx_two hj with rfl | rfl <;> rfl)
def gx_stk : List Nat := [149, 150, 151, 153, 155, 157, 159, 161, 163, 165, 167, 169, 171, 173, 175, 177, 178, 194, 196, 198, 200, 202, 204, 206, 208, 210, 212, 214]
def gx_stt : List String := ["minutes", "people", "coins", "price", "has", "business", "buy", "think", "steal", "sell", "do", "dearer", "cheaper", "gone", "there", "hands", "worth", "M", "P", "pc", "mtx", "pmt", "Lmtc", "pm", "pbm", "H", "hhx", "m"]
def gx_stl : List Nat := [7, 6, 5, 5, 3, 8, 3, 5, 5, 4, 2, 6, 7, 4, 5, 5, 5, 1, 1, 2, 3, 3, 4, 2, 3, 1, 3, 1]
def gx_stb : List (List Int32) := [[109, 105, 110, 117, 116, 101, 115], [112, 101, 111, 112, 108, 101], [99, 111, 105, 110, 115], [112, 114, 105, 99, 101], [104, 97, 115], [98, 117, 115, 105, 110, 101, 115, 115], [98, 117, 121], [116, 104, 105, 110, 107], [115, 116, 101, 97, 108], [115, 101, 108, 108], [100, 111], [100, 101, 97, 114, 101, 114], [99, 104, 101, 97, 112, 101, 114], [103, 111, 110, 101], [116, 104, 101, 114, 101], [104, 97, 110, 100, 115], [119, 111, 114, 116, 104], [77], [80], [112, 99], [109, 116, 120], [112, 109, 116], [76, 109, 116, 99], [112, 109], [112, 98, 109], [72], [104, 104, 120], [109]]
def gx_nests : List (String × Nat × MethodName × String) := [("StolenHours$Told", 44, ⟨"StolenHours$Street", "<init>", "()V"⟩, "StolenHours"), ("StolenHours$Told", 48, ⟨"StolenHours$Swaps", "<init>", "()V"⟩, "StolenHours"), ("StolenHours", 26, ⟨"StolenHours$Reader", "<init>", "()V"⟩, "StolenHours"), ("StolenHours$Reader", 11, ⟨"StolenHours$Tokens", "<init>", "()V"⟩, "StolenHours"), ("StolenHours$Reader", 20, ⟨"StolenHours$Street", "<init>", "()V"⟩, "StolenHours"), ("StolenHours$Reader", 39, ⟨"StolenHours$Swaps", "<init>", "()V"⟩, "StolenHours"), ("StolenHours", 33, ⟨"StolenHours$Play", "<init>", "()V"⟩, "StolenHours"), ("StolenHours$Play", 11, ⟨"StolenHours$Street", "<init>", "()V"⟩, "StolenHours"), ("StolenHours", 40, ⟨"StolenHours$Chores", "<init>", "()V"⟩, "StolenHours"), ("StolenHours", 47, ⟨"StolenHours$Cover", "<init>", "()V"⟩, "StolenHours"), ("StolenHours", 54, ⟨"StolenHours$Thefts", "<init>", "()V"⟩, "StolenHours"), ("StolenHours", 61, ⟨"StolenHours$Trade", "<init>", "()V"⟩, "StolenHours"), ("StolenHours$Play", 167, ⟨"StolenHours", "isAmong", "(III)Z"⟩, "StolenHours")]
/-! text constants, the table FIRST_KIND, the statics of the JDK that are read -/
def gx_fk (j : Nat) : Int32 := ([0, 6, 13, 15, 17] : List Int32).getD j 0
def gx_EX (E : gx_E) (fk : Nat) (uq : Option Nat) (adK adV : Nat → Nat) : Prop := ∀ (U : State) (H : Heap), E.2.2.2 U H → (∀ i : Nat, i < 28 → vk_S 1 [gx_stl.getD i 0] [gx_stb.getD i []] (fun _ => adK i) (fun _ => adV i) (fun q => E.2.2.1 ≤ q) U H) ∧ (∀ i : Nat, i < 28 → vk_R RX4 (gx_stk.getD i 0) (gx_stt.getD i "") (adK i) U) ∧
  va_Z RX4 "FIRST_KIND" "[I" (.ref fk) (fun q => E.2.2.1 ≤ q) U H ∧ va_T .int fk 5 (fun j => .int (gx_fk j)) (fun q => E.2.2.1 ≤ q) U H ∧
  va_Z RJ0 "COMPACT_STRINGS" "Z" (.int 1) (fun q => E.2.2.1 ≤ q) U H ∧ va_Z RJ3 "SIOOBE_FORMATTER" "Ljava/util/function/BiFunction;" (va_rf uq) (fun q => E.2.2.1 ≤ q) U H ∧ (∀ q, q ∈ gx_nests → va_Nw (.methodLinkNest q.1 q.2.1 q.2.2.1 q.2.2.2) U)
def gx_eS (adK : Nat → Nat) (i : Nat) : Option Value := some (.ref (adK i))
def gx_sl (i : Nat) : Int32 := Int32.ofNat (gx_stl.getD i 0)
def gx_sc (i j : Nat) : Int32 := (gx_stb.getD i []).getD j 0
def gx_six (i : Nat) (j : Int32) : Bool := decide (¬ (j < 0 ∨ gx_stl.getD i 0 ≤ j.toNatClampNeg))
def gx_nc (x : Int32) : Int32 := x.toUInt32.toUInt16.toUInt32.toInt32
def gx_eC (x : Int32) : Option Value := some (.int (gx_nc x))
theorem gx_narc (x : Int32) : narrow .char (.int (gx_nc x)) = .int (gx_nc x) := by
  unfold gx_nc
  rw [← lg_i2c_nf]
  exact pk_nc x
def gx_LSN (own : String) (idx : Nat) (y' : gx_Y) (n : Nat) : Prop := gx_LB own idx y' n ∧ (∃ host : String, (own, idx, y'.1, host) ∈ gx_nests) ∧ Jvm.Cond.static y'.1 ∈ gx_T
def gx_LIN (own : String) (idx : Nat) (y' : gx_Y) (n : Nat) : Prop := gx_LB own idx y' n ∧ (∃ host : String, (own, idx, y'.1, host) ∈ gx_nests) ∧ Jvm.Cond.instanceMethod y'.1 ∈ gx_T ∧ y'.1.name = "<init>" ∧ y'.2.2.2 = none
section GXQ
variable {E : gx_E} {l : Launch} {y : gx_Y} {d : Nat} {pc : Nat} {ls : List (Option Value)} {st : List Value} {G : gx_G} {μ : gx_M} {fk : Nat} {uq : Option Nat} {adK adV : Nat → Nat}
theorem s_gets {C n ds : String} {v : Value} {idx : Nat} (hZ : ∀ (U : State) (H : Heap), E.2.2.2 U H → va_Z C n ds v (fun q => E.2.2.1 ≤ q) U H) (hw : Jvm.Cond.fieldLink y.1.cls idx C n ds ∈ gx_T) (hd : decode y.2.1 pc = .ok (.getstatic idx, 3)) : gS E l y d (pc, ls, st, G, μ) (pc + 3, ls, v :: st, G, μ) := by
  refine stp_g fun _ _ _ s _ _ _ _ _ _ _ _ _ C _ H arr locs hl hR hS kk => ?_
  have kk' := kk H arr locs hl hR hS
  obtain ⟨hx, hb, -, -, hown, hts, -, -, -, -, -, hX, -, -⟩ := C
  exact va_gets hx hb (hZ s s.heap hX) hS hown (hts _ (List.mem_cons_of_mem _ hw)) (fun _ h => h) hd kk'
theorem s_ldcS (hE : gx_EX E fk uq adK adV) {idx : Nat} (hd : decode y.2.1 pc = .ok (.ldc idx, 2)) (i : Nat) (hi : i < 28) (hk : gx_stk.getD i 0 = idx) (hy : y.1.cls = RX4) : gS E l y d (pc, ls, st, G, μ) (pc + 2, ls, .ref (adK i) :: st, G, μ) := by
  refine stp_g fun _ _ _ s _ _ _ _ _ _ _ _ _ C _ H arr locs hl hR hS kk => ?_
  have kk' := kk H arr locs hl hR hS
  obtain ⟨hx, hb, -, -, hown, hts, -, -, -, -, -, hX, -, -⟩ := C
  subst hk
  rw [hy] at hown
  exact va_ldcS hx hb hown ((hE s s.heap hX).2.1 i hi) hd kk'
theorem s_sget {o n ds : String} {idx q : Nat} {v : Value} (hE : ∀ (U : State) (H : Heap), E.2.2.2 U H → va_OF o n ds v q (fun q => E.2.2.1 ≤ q) U H) (hw : Jvm.Cond.fieldLink y.1.cls idx o n ds ∈ gx_T) (hd : decode y.2.1 pc = .ok (.getfield idx, 3)) : gS E l y d (pc, ls, .ref q :: st, G, μ) (pc + 3, ls, v :: st, G, μ) := by
  refine stp_g fun _ _ _ s _ _ _ _ _ _ _ _ _ C _ H arr locs hl hR hS kk => ?_
  have kk' := kk H arr locs hl hR hS
  obtain ⟨hx, hb, -, -, hown, hts, -, -, -, -, -, hX, -, -⟩ := C
  exact vk_getf hx hb (hE s s.heap hX) hS hown (hts _ (List.mem_cons_of_mem _ hw)) (fun _ h => h) hd kk'
theorem s_svlen (hE : gx_EX E fk uq adK adV) {i : Nat} (hi : i < 28) (hd : decode y.2.1 pc = .ok (.arraylength, 1)) : gS E l y d (pc, ls, .ref (adV i) :: st, G, μ) (pc + 1, ls, .int (gx_sl i) :: st, G, μ) := by
  refine stp_g fun _ _ _ s _ _ _ _ _ _ _ _ _ C _ H arr locs hl hR hS kk => ?_
  have kk' := kk H arr locs hl hR hS
  obtain ⟨hx, hb, -, -, hown, hts, -, -, -, -, -, hX, -, -⟩ := C
  obtain ⟨cell, h1, h2, h3, h4, h5, h6, h7⟩ := (((((hE s s.heap hX).1 i hi).1 0 (by decide)).2.2.2).kept hS.2.1)
  exact W.alen hx hb h1 h2 h5 rfl rfl hd kk'
theorem s_svald (hE : gx_EX E fk uq adK adV) {i : Nat} (hi : i < 28) {j : Int32} (hd : decode y.2.1 pc = .ok (.baload, 1)) (hj : gx_six i j = true) : gS E l y d (pc, ls, .int j :: .ref (adV i) :: st, G, μ) (pc + 1, ls, .int (gx_sc i j.toNatClampNeg) :: st, G, μ) := by
  have hj' : ¬ (j < 0 ∨ gx_stl.getD i 0 ≤ j.toNatClampNeg) := of_decide_eq_true hj
  refine stp_g fun _ _ _ s _ _ _ _ _ _ _ _ _ C _ H arr locs hl hR hS kk => ?_
  have kk' := kk H arr locs hl hR hS
  obtain ⟨hx, hb, -, -, hown, hts, -, -, -, -, -, hX, -, -⟩ := C
  obtain ⟨cell, h1, h2, h3, h4, h5, h6, h7⟩ := (((((hE s s.heap hX).1 i hi).1 0 (by decide)).2.2.2).kept hS.2.1)
  refine W.bald hx hb h1 h2 h3 (fun h => hj' (h.elim Or.inl (fun h => Or.inr (Nat.le_trans h4 h)))) (h6 _ ?_) rfl rfl hd kk'
  rcases Nat.lt_or_ge j.toNatClampNeg (gx_stl.getD i 0) with q | q
  · exact q
  · exact absurd (Or.inr q) hj'
theorem s_fkald (hE : gx_EX E fk uq adK adV) {j : Int32} (hd : decode y.2.1 pc = .ok (.iaload, 1)) (hj : vp_in j 5) : gS E l y d (pc, ls, .int j :: .ref fk :: st, G, μ) (pc + 1, ls, .int (gx_fk j.toNatClampNeg) :: st, G, μ) := by
  refine stp_g fun _ _ _ s _ _ _ _ _ _ _ _ _ C _ H arr locs hl hR hS kk => ?_
  have kk' := kk H arr locs hl hR hS
  obtain ⟨hx, hb, -, -, hown, hts, -, -, -, -, -, hX, -, -⟩ := C
  obtain ⟨cell, h1, h2, h3, h4, h5, h6, h7⟩ := ((hE s s.heap hX).2.2.2.1).kept hS.2.1
  refine W.iald hx hb h1 h2 h3 (fun h => hj (h.elim Or.inl (fun h => Or.inr (Nat.le_trans h4 h)))) (h6 _ ?_) rfl rfl hd kk'
  rcases Nat.lt_or_ge j.toNatClampNeg 5 with q | q
  · exact q
  · exact absurd (Or.inr q) hj
theorem s_callStr {y' : gx_Y} {d' idx n i : Nat} {As : List Value} {r : Option Value} {G' : gx_G} {μ' : gx_M} (hE : gx_EX E fk uq adK adV) (hi : i < 28) (hd : decode y.2.1 pc = .ok (.invokevirtual idx, 3)) (L : gx_LV y.1.cls idx y' n) (hn : As.length = n) (hcl : y'.1.cls = RJ0) (hd' : d' + 1 ≤ d) (hr : (st.map fun v => v.category).sum ≤ 8) (he : gEv E l d' y' (.ref (adK i) :: As) G μ r G' μ') :
    gS E l y d (pc, ls, As.reverse ++ .ref (adK i) :: st, G, μ) (pc + 3, ls, r.toList ++ st, G', μ') := by
  obtain ⟨⟨L1, L2, L3, L4⟩, L5, L6, L7⟩ := L
  refine gx_callG he hd' L4 fun p e R s m args below meth c n0 cells slots H arr locs C hl hR hS hz hrm hcs hM => ?_
  have C' := C
  obtain ⟨hx, hb, hmL, -, hown, hts, -, -, -, -, hK, hX, -, hXo⟩ := C'
  exact va_runV (As := As) (C := y'.1.cls) ⟨hx, hb, hmL, hown, hts⟩ hM
    (cwV n hts (gx_gd (fun w hw => by
      rcases List.mem_append.mp hw with h | h
      · simp only [List.mem_cons, List.not_mem_nil, or_false] at h
        rcases h with rfl | rfl | rfl | rfl <;> assumption
      · exact gx_gw L2 w h)) rfl rfl rfl ⟨rfl, L3⟩ hrm)
    ⟨gx_blind hXo, by
      have := vk_recv ((hE s s.heap hX).1 i hi) (show 0 < 1 by decide) hS
      rw [hcl]; exact this, gx_pre C hR hS hz⟩ rfl hn hl.1 rfl (lv_room hr) hd hcs
theorem s_callSN {y' : gx_Y} {d' idx n : Nat} {As : List Value} {r : Option Value} {G' : gx_G} {μ' : gx_M} (hE : gx_EX E fk uq adK adV) (hd : decode y.2.1 pc = .ok (.invokestatic idx, 3)) (L : gx_LSN y.1.cls idx y' n) (hn : As.length = n) (hd' : d' + 1 ≤ d) (hr : (st.map fun v => v.category).sum ≤ 8) (he : gEv E l d' y' As G μ r G' μ') :
    gS E l y d (pc, ls, As.reverse ++ st, G, μ) (pc + 3, ls, r.toList ++ st, G', μ') := by
  obtain ⟨⟨L1, L2, L3, L4⟩, ⟨host, L5⟩, L6⟩ := L
  refine gx_callG he hd' L4 fun p e R s m args below meth c n0 cells slots H arr locs C hl hR hS hz hrm hcs hM => ?_
  have C' := C
  obtain ⟨hx, hb, hmL, -, hown, hts, -, -, -, -, hK, hX, -, hXo⟩ := C'
  have ht := fun (w : Cond) (h : w ∈ gx_T) => hts w (List.mem_cons_of_mem _ h)
  exact va_runSN (As := As) ⟨hx, hb, hmL, hown, hts⟩ hM
    ⟨va_cnB (host := host) n hts (gx_gd (gx_gw L2)) rfl rfl rfl ((hE s s.heap hX).2.2.2.2.2.2 _ L5) (ht _ L1) L3 hrm, ht _ L6, trivial⟩
    ⟨gx_blind hXo, gx_pre C hR hS hz⟩ rfl hn hl.1 rfl (lv_room hr) hd hcs
theorem s_callIN {y' : gx_Y} {d' idx n a : Nat} {As : List Value} {r : Option Value} {G' : gx_G} {μ' : gx_M} (hE : gx_EX E fk uq adK adV) (hd : decode y.2.1 pc = .ok (.invokespecial idx, 3)) (L : gx_LIN y.1.cls idx y' n) (hn : As.length = n) (hd' : d' + 1 ≤ d) (hr : (st.map fun v => v.category).sum ≤ 8) (he : gEv E l d' y' (.ref (E.2.2.1 + a) :: As) G μ r G' μ') :
    gS E l y d (pc, ls, As.reverse ++ .ref (E.2.2.1 + a) :: st, G, μ) (pc + 3, ls, r.toList ++ st, G', μ') := by
  obtain ⟨⟨L1, L2, L3, L4⟩, ⟨host, L5⟩, L6, L7, L8⟩ := L
  refine gx_callG he hd' L4 fun p e R s m args below meth c n0 cells slots H arr locs C hl hR hS hz hrm hcs hM => ?_
  have C' := C
  obtain ⟨hx, hb, hmL, -, hown, hts, -, -, -, -, hK, hX, -, hXo⟩ := C'
  have ht := fun (w : Cond) (h : w ∈ gx_T) => hts w (List.mem_cons_of_mem _ h)
  exact va_runIN (As := As) ⟨hx, hb, hmL, hown, hts⟩ hM
    ⟨va_cnB (host := host) (ret := none) n hts (gx_gd (gx_gw L2)) (by rw [← L8]; rfl) rfl rfl ((hE s s.heap hX).2.2.2.2.2.2 _ L5) (ht _ L1) L3 hrm, L7, ht _ L6⟩
    ⟨gx_blind hXo, gx_pre C hR hS hz⟩ rfl hn hl.1 rfl (lv_room hr) hd hcs
end GXQ
section GXA
variable {ρ : Type} {E : gx_E} {l : Launch} {y : gx_Y} {d : Nat} {em : ρ → Option Value} {pc : Nat} {ls : List (Option Value)} {st : List Value} {μ : gx_M}
theorem R_letA {v : Nat} {T : Nat → Option ρ} {C : Nat → Prop} (hC : C v) (h : ∀ x, C x → GoR E l y d em pc ls (.ref (E.2.2.1 + x) :: st) μ (T x)) : GoR E l y d em pc ls (.ref (E.2.2.1 + v) :: st) μ (gx_lt v T) := h v hC
theorem W_letA {v : Nat} {T : Nat → Option (ρ × gx_M)} {C : Nat → Prop} (hC : C v) (h : ∀ x, C x → GoW E l y d em pc ls (.ref (E.2.2.1 + x) :: st) μ (T x)) : GoW E l y d em pc ls (.ref (E.2.2.1 + v) :: st) μ (gx_lt v T) := h v hC
end GXA

