theorem gw_ins : ∀ ci, ci < 13 → Jvm.Cond.instantiable (gx_RX ci) (gx_NX ci) ∈ gx_T := by
  intro ci h
  match ci, h with
  | 0, _ => exact gx_in2 72 rfl rfl
  | 1, _ => exact gx_in2 105 rfl rfl
  | 2, _ => exact gx_in1 118 rfl rfl
  | 3, _ => exact gx_in2 41 rfl rfl
  | 4, _ => exact gx_in1 199 rfl rfl
  | 5, _ => exact gx_in1 43 rfl rfl
  | 6, _ => exact gx_in1 143 rfl rfl
  | 7, _ => exact gx_in2 121 rfl rfl
  | 8, _ => exact gx_in1 205 rfl rfl
  | 9, _ => exact gx_in1 32 rfl rfl
  | 10, _ => exact gx_in2 157 rfl rfl
  | 11, _ => exact gx_in1 24 rfl rfl
  | 12, _ => exact gx_in6 86 rfl rfl
  | n + 13, h => omega
/-! the start: the classes, the constants, the script; and the whole run out of the pure program -/
theorem gw_in {w : Cond} (h : w ∈ gx_T) : w ∈ lw_tbl := (List.mem_filter.mp h).1
theorem gw_cls {s : State} {args : Array Value} (hts : ∀ w ∈ lw_tbl, w.before args s = true) : ∃ (dC : Nat → ClassId) (dI : Nat → Nat → Nat), ∀ (k : Nat) (q : vw_C), gx_cl[k]? = some q → u_Kn s q.1 q.2.1 q.2.2 (dC k) (dI k) := by
  have h : ∀ k : Nat, ∃ p : ClassId × (Nat → Nat), k < 13 → u_Kn s (gx_RX k) (gx_TX k) (gx_NX k) p.1 p.2 := by
    intro k
    by_cases hk : k < 13
    · obtain ⟨c, i, h1⟩ := u_known (C := gx_RX k) (T := gx_TX k) (N := gx_NX k) (n := gx_NX k) hts (fun w hw => gw_in (gx_wsi k hk w hw)) (hts _ (gw_in (gw_ins k hk)))
      exact ⟨(c, i), fun _ => h1⟩
    · exact ⟨(0, fun _ => 0), fun h => absurd h hk⟩
  obtain ⟨f, hf⟩ := Classical.axiomOfChoice h
  refine ⟨fun k => (f k).1, fun k => (f k).2, fun k q hq => ?_⟩
  have hk : k < 13 := (List.getElem?_eq_some_iff.mp hq).1
  rw [gx_cli k hk] at hq
  cases hq
  exact hf k hk
theorem gw_arrP {s : State} {args : Array Value} {ty : FieldType} (h : (Cond.arrayClass ty).before args s = true) (hp : ∀ C, ty ≠ .object C) : ∃ cA : ClassId, ArrOfT s cA ty ∧ va_RA s cA ty := by
  obtain ⟨c, k, comp, h1, h2, h3⟩ := Cond.arrayClass_spec h
  refine ⟨c, fun n z => ⟨(fun k h => by cases h), k, h2, comp, h3⟩, ?_⟩
  unfold va_RA
  cases ty <;> first | exact h1 | exact absurd rfl (hp _)
theorem gw_arrO {s : State} {args : Array Value} {C : String} (h : (Cond.arrayOver (.object C)).before args s = true) : ∃ cA : ClassId, ArrOfT s cA (.object C) ∧ va_RA s cA (.object C) := by
  obtain ⟨comp, c, k, h1, h2, h3, h4, h5⟩ := Cond.arrayOver_spec h
  exact ⟨c, fun n z => ⟨(fun k h => by cases h), k, h3, comp, h4⟩, k, comp, h3, h4, h1, h5⟩
theorem gw_K {s : State} {args : Array Value} (hts : ∀ w ∈ lw_tbl, w.before args s = true) : ∃ (D : va_G) (dA : Nat → ClassId), va_K D gx_cl (gx_tys dA) s := by
  obtain ⟨dC, dI, hc⟩ := gw_cls hts
  obtain ⟨a0, h0⟩ := gw_arrP (hts (.arrayClass .int) (List.mem_of_getElem? (i := 261) (by decide +kernel))) (fun _ => by simp)
  obtain ⟨a1, h1⟩ := gw_arrP (hts (.arrayClass .byte) (List.mem_of_getElem? (i := 262) (by decide +kernel))) (fun _ => by simp)
  obtain ⟨a2, h2⟩ := gw_arrP (hts (.arrayClass .boolean) (List.mem_of_getElem? (i := 378) (by decide +kernel))) (fun _ => by simp)
  obtain ⟨a3, h3⟩ := gw_arrP (hts (.arrayClass .long) (List.mem_of_getElem? (i := 488) (by decide +kernel))) (fun _ => by simp)
  obtain ⟨a4, h4⟩ := gw_arrO (hts (.arrayOver (.object RX5)) (List.mem_of_getElem? (i := 183) (by decide +kernel)))
  obtain ⟨a5, h5⟩ := gw_arrO (hts (.arrayOver (.object RX2)) (List.mem_of_getElem? (i := 185) (by decide +kernel)))
  obtain ⟨a6, h6⟩ := gw_arrO (hts (.arrayOver (.object RX6)) (List.mem_of_getElem? (i := 187) (by decide +kernel)))
  obtain ⟨a7, h7⟩ := gw_arrO (hts (.arrayOver (.object RX9)) (List.mem_of_getElem? (i := 342) (by decide +kernel)))
  refine ⟨(dC, dI), fun t => ([a0, a1, a2, a3, a4, a5, a6, a7] : List ClassId).getD t 0, hc, fun k q hk => ?_⟩
  match k, hk with
  | 0, hk => cases hk; exact h0
  | 1, hk => cases hk; exact h1
  | 2, hk => cases hk; exact h2
  | 3, hk => cases hk; exact h3
  | 4, hk => cases hk; exact h4
  | 5, hk => cases hk; exact h5
  | 6, hk => cases hk; exact h6
  | 7, hk => cases hk; exact h7
  | k + 8, hk => simp [gx_tys] at hk
/-- the constants' facts -/
def gw_X (B0 b Ln : Nat) (xs : Nat → Int32) (fk : Nat) (uq : Option Nat) (adK adV : Nat → Nat) (U : State) (H : Heap) : Prop :=
  (((∀ i : Nat, i < 28 → vk_S 1 [gx_stl.getD i 0] [gx_stb.getD i []] (fun _ => adK i) (fun _ => adV i) (fun q => B0 ≤ q) U H) ∧ (∀ i : Nat, i < 28 → vk_R RX4 (gx_stk.getD i 0) (gx_stt.getD i "") (adK i) U) ∧
  va_Z RX4 "FIRST_KIND" "[I" (.ref fk) (fun q => B0 ≤ q) U H ∧ va_T .int fk 5 (fun j => .int (gx_fk j)) (fun q => B0 ≤ q) U H ∧
  va_Z RJ0 "COMPACT_STRINGS" "Z" (.int 1) (fun q => B0 ≤ q) U H ∧ va_Z RJ3 "SIOOBE_FORMATTER" "Ljava/util/function/BiFunction;" (va_rf uq) (fun q => B0 ≤ q) U H ∧ (∀ q, q ∈ gx_nests → va_Nw (.methodLinkNest q.1 q.2.1 q.2.2.1 q.2.2.2) U)) ∧
  (va_AO RX5 U ∧ va_AO RX2 U ∧ va_AO RX6 U ∧ va_AO RX9 U)) ∧ (va_X b Ln xs U H ∧ ¬ B0 ≤ b)
theorem gw_Xo {D : va_G} {dA : Nat → ClassId} {B0 b Ln : Nat} {xs : Nat → Int32} {fk : Nat} {uq : Option Nat} {adK adV : Nat → Nat} : gx_Xo ((D, dA, B0, gw_X B0 b Ln xs fk uq adK adV) : gx_E) := by
  refine ⟨fun s U H hW h => ?_, fun u U H hv h => ?_, fun U H H1 h hq => ?_⟩
  · obtain ⟨⟨⟨a1, a2, a3, a4, a5, a6, a7⟩, b1, b2, b3, b4⟩, c1, c2⟩ := h
    exact ⟨⟨⟨fun i hi => (a1 i hi).moved hW.alike, fun i hi => (a2 i hi).warm hW, a3.moved hW.alike, a4.moved hW.alike, a5.moved hW.alike, a6.moved hW.alike, fun q hq => (a7 q hq).warmM hW⟩, b1.moved hW.alike, b2.moved hW.alike, b3.moved hW.alike, b4.moved hW.alike⟩, c1.moved hW.alike, c2⟩
  · have hA : u.vm.Alike U.vm := by rw [hv]; exact Vm.Alike.refl _
    obtain ⟨⟨⟨a1, a2, a3, a4, a5, a6, a7⟩, b1, b2, b3, b4⟩, c1, c2⟩ := h
    exact ⟨⟨⟨fun i hi => (a1 i hi).moved hA, fun i hi => (a2 i hi).same hv, a3.moved hA, a4.moved hA, a5.moved hA, a6.moved hA, fun q hq => (a7 q hq).same rfl hv.symm⟩, b1.moved hA, b2.moved hA, b3.moved hA, b4.moved hA⟩, c1.moved hA, c2⟩
  · obtain ⟨⟨⟨a1, a2, a3, a4, a5, a6, a7⟩, b⟩, c1, c2⟩ := h
    exact ⟨⟨⟨fun i hi => (a1 i hi).kept hq, a2, a3.kept hq, a4.kept hq, a5.kept hq, a6.kept hq, a7⟩, b⟩, c1.kept (by obtain ⟨scr, h1, -⟩ := c1; exact hq _ (Array.getElem?_eq_some_iff.mp h1).1 c2), c2⟩

