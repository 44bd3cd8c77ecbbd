theorem gw_t1 {w : Cond} (i : Nat) (h : tables_1_1[i]? = some w) : w ∈ lw_tbl := List.mem_append_right _ (show w ∈ tables_1 from List.mem_append_left _ (List.mem_of_getElem? h))
theorem gw_t2 {w : Cond} (i : Nat) (h : tables_1_2[i]? = some w) : w ∈ lw_tbl := List.mem_append_right _ (show w ∈ tables_1 from List.mem_append_right _ (List.mem_append_left _ (List.mem_of_getElem? h)))
theorem gw_t3 {w : Cond} (i : Nat) (h : tables_1_3[i]? = some w) : w ∈ lw_tbl := List.mem_append_right _ (show w ∈ tables_1 from List.mem_append_right _ (List.mem_append_right _ (List.mem_append_left _ (List.mem_of_getElem? h))))
theorem gw_t4 {w : Cond} (i : Nat) (h : tables_1_4[i]? = some w) : w ∈ lw_tbl := List.mem_append_right _ (show w ∈ tables_1 from List.mem_append_right _ (List.mem_append_right _ (List.mem_append_right _ (List.mem_append_left _ (List.mem_of_getElem? h)))))
theorem gw_t5 {w : Cond} (i : Nat) (h : tables_1_5[i]? = some w) : w ∈ lw_tbl := List.mem_append_right _ (show w ∈ tables_1 from List.mem_append_right _ (List.mem_append_right _ (List.mem_append_right _ (List.mem_append_right _ (List.mem_append_left _ (List.mem_of_getElem? h))))))
theorem gw_t6 {w : Cond} (i : Nat) (h : tables_1_6[i]? = some w) : w ∈ lw_tbl := List.mem_append_right _ (show w ∈ tables_1 from List.mem_append_right _ (List.mem_append_right _ (List.mem_append_right _ (List.mem_append_right _ (List.mem_append_right _ (List.mem_append_left _ (List.mem_of_getElem? h)))))))
theorem gw_t7 {w : Cond} (i : Nat) (h : tables_1_7[i]? = some w) : w ∈ lw_tbl := List.mem_append_right _ (show w ∈ tables_1 from List.mem_append_right _ (List.mem_append_right _ (List.mem_append_right _ (List.mem_append_right _ (List.mem_append_right _ (List.mem_append_right _ (List.mem_append_left _ (List.mem_of_getElem? h))))))))
theorem gw_t8 {w : Cond} (i : Nat) (h : tables_1_8[i]? = some w) : w ∈ lw_tbl := List.mem_append_right _ (show w ∈ tables_1 from List.mem_append_right _ (List.mem_append_right _ (List.mem_append_right _ (List.mem_append_right _ (List.mem_append_right _ (List.mem_append_right _ (List.mem_append_right _ (List.mem_append_left _ (List.mem_of_getElem? h)))))))))
theorem gw_t9 {w : Cond} (i : Nat) (h : tables_1_9[i]? = some w) : w ∈ lw_tbl := List.mem_append_right _ (show w ∈ tables_1 from List.mem_append_right _ (List.mem_append_right _ (List.mem_append_right _ (List.mem_append_right _ (List.mem_append_right _ (List.mem_append_right _ (List.mem_append_right _ (List.mem_append_right _ (List.mem_of_getElem? h)))))))))
theorem gw_sr : ∀ i : Nat, i < 28 → Cond.stringRef RX4 (gx_stk.getD i 0) (gx_stt.getD i "") ∈ lw_tbl := by
  intro i h
  match i, h with
  | 0, _ => exact gw_t3 47 rfl
  | 1, _ => exact gw_t3 48 rfl
  | 2, _ => exact gw_t3 49 rfl
  | 3, _ => exact gw_t3 50 rfl
  | 4, _ => exact gw_t3 51 rfl
  | 5, _ => exact gw_t3 52 rfl
  | 6, _ => exact gw_t3 53 rfl
  | 7, _ => exact gw_t3 54 rfl
  | 8, _ => exact gw_t3 55 rfl
  | 9, _ => exact gw_t3 56 rfl
  | 10, _ => exact gw_t3 57 rfl
  | 11, _ => exact gw_t3 58 rfl
  | 12, _ => exact gw_t3 59 rfl
  | 13, _ => exact gw_t3 60 rfl
  | 14, _ => exact gw_t3 61 rfl
  | 15, _ => exact gw_t3 62 rfl
  | 16, _ => exact gw_t3 63 rfl
  | 17, _ => exact gw_t3 134 rfl
  | 18, _ => exact gw_t3 135 rfl
  | 19, _ => exact gw_t3 136 rfl
  | 20, _ => exact gw_t3 137 rfl
  | 21, _ => exact gw_t3 138 rfl
  | 22, _ => exact gw_t3 139 rfl
  | 23, _ => exact gw_t3 140 rfl
  | 24, _ => exact gw_t3 141 rfl
  | 25, _ => exact gw_t3 142 rfl
  | 26, _ => exact gw_t3 143 rfl
  | 27, _ => exact gw_t3 144 rfl
  | n + 28, h => omega
theorem gw_nests : ∀ q ∈ gx_nests, Cond.methodLinkNest q.1 q.2.1 q.2.2.1 q.2.2.2 ∈ lw_tbl := List.forall_mem_cons.mpr ⟨gw_t1 44 rfl, List.forall_mem_cons.mpr ⟨gw_t1 144 rfl, List.forall_mem_cons.mpr ⟨gw_t1 200 rfl, List.forall_mem_cons.mpr ⟨gw_t1 206 rfl, List.forall_mem_cons.mpr ⟨gw_t1 235 rfl, List.forall_mem_cons.mpr ⟨gw_t1 239 rfl, List.forall_mem_cons.mpr ⟨gw_t2 42 rfl, List.forall_mem_cons.mpr ⟨gw_t2 47 rfl, List.forall_mem_cons.mpr ⟨gw_t2 73 rfl, List.forall_mem_cons.mpr ⟨gw_t2 106 rfl, List.forall_mem_cons.mpr ⟨gw_t2 122 rfl, List.forall_mem_cons.mpr ⟨gw_t2 158 rfl, List.forall_mem_cons.mpr ⟨gw_t4 124 rfl, fun _ h => absurd h List.not_mem_nil⟩⟩⟩⟩⟩⟩⟩⟩⟩⟩⟩⟩⟩
def gw_fl : List Cond := flatC (Jvm.Cond.and given_1 narrow_1)
def gw_ps : List Nat := [69, 80, 90, 99, 108, 115, 127, 134, 143, 152, 160, 166, 176, 187, 195, 204, 213, 222, 227, 232, 238, 245, 252, 260, 266, 273, 278, 285]
def gw_tm (i : Nat) : Term := .string RX4 (gx_stk.getD i 0)
def gw_wl (i : Nat) : List Cond := [Cond.exactly (gw_tm i) "java/lang/String", Cond.eq (.field (gw_tm i) "java/lang/String" "coder" "B") (.int 0), Cond.arrayOf (.field (gw_tm i) "java/lang/String" "value" "[B") .byte, Cond.eq (.length (.field (gw_tm i) "java/lang/String" "value" "[B")) (.int (Int32.ofNat (gx_stl.getD i 0)))] ++ (List.range (gx_stl.getD i 0)).map (fun j => Cond.eq (.elem (.field (gw_tm i) "java/lang/String" "value" "[B") (.int (Int32.ofNat j))) (.int ((gx_stb.getD i []).getD j 0)))
theorem gw_strw : ∀ i : Nat, i < 28 → (gw_fl.drop (gw_ps.getD i 0)).take (4 + gx_stl.getD i 0) = gw_wl i := by decide +kernel
theorem gw_strm {i : Nat} (hi : i < 28) {w : Cond} (h : w ∈ gw_wl i) : w ∈ gw_fl := by
  rw [← gw_strw i hi] at h
  exact List.mem_of_mem_drop (List.mem_of_mem_take h)
theorem gw_str {s : State} {args : Array Value} {B0 : Nat} (hfl : ∀ w ∈ gw_fl, w.before args s = true) (hts : ∀ w ∈ lw_tbl, w.before args s = true) (hB : B0 = s.heap.size) : ∃ adK adV : Nat → Nat, (∀ i : Nat, i < 28 → vk_S 1 [gx_stl.getD i 0] [gx_stb.getD i []] (fun _ => adK i) (fun _ => adV i) (fun q => B0 ≤ q) s s.heap) ∧ (∀ i : Nat, i < 28 → vk_R RX4 (gx_stk.getD i 0) (gx_stt.getD i "") (adK i) s) := by
  have h : ∀ i : Nat, ∃ p : Nat × Nat, i < 28 → vk_S 1 [gx_stl.getD i 0] [gx_stb.getD i []] (fun _ => p.1) (fun _ => p.2) (fun q => B0 ≤ q) s s.heap ∧ vk_R RX4 (gx_stk.getD i 0) (gx_stt.getD i "") p.1 s := by
    intro i
    by_cases hi : i < 28
    · have hw : ∀ w ∈ gw_wl i, w.before args s = true := fun w hw => hfl w (gw_strm hi hw)
      have hlen : gx_stl.getD i 0 < 2 ^ 31 := by
        have h1 : ∀ i : Nat, i < 28 → gx_stl.getD i 0 < 2 ^ 31 := by decide
        exact h1 i hi
      obtain ⟨aK, aV, h1, h2⟩ := vk_Sof (args := args) (s := s) (N := 1) (tm := fun _ => gw_tm i) (len := [gx_stl.getD i 0]) (byt := [gx_stb.getD i []]) (A := fun q => B0 ≤ q)
        (fun k hk => by obtain rfl : k = 0 := by omega
                        exact hlen)
        (fun k hk => hw _ (List.mem_append_left _ List.mem_cons_self))
        (fun k hk => hw _ (List.mem_append_left _ (List.mem_cons_of_mem _ List.mem_cons_self)))
        (fun k hk => hw _ (List.mem_append_left _ (List.mem_cons_of_mem _ (List.mem_cons_of_mem _ List.mem_cons_self))))
        (fun k hk => by obtain rfl : k = 0 := by omega
                        exact hw _ (List.mem_append_left _ (List.mem_cons_of_mem _ (List.mem_cons_of_mem _ (List.mem_cons_of_mem _ List.mem_cons_self)))))
        (fun k hk j hj => by obtain rfl : k = 0 := by omega
                             exact hw _ (List.mem_append_right _ (List.mem_map.mpr ⟨j, List.mem_range.mpr hj, rfl⟩)))
        (fun i j hi hj hij => absurd (show i = j by omega) hij)
        (fun a ha hn => by omega)
      refine ⟨(aK 0, aV 0), fun _ => ⟨?_, vk_R.of (hts _ (gw_sr i hi)) (h2 0 (by decide))⟩⟩
      refine ⟨fun k hk => ?_, fun k k' hk hk' _ => by omega⟩
      obtain rfl : k = 0 := by omega
      exact h1.1 0 hk
    · exact ⟨(0, 0), fun h => absurd h hi⟩
  obtain ⟨f, hf⟩ := Classical.axiomOfChoice h
  exact ⟨fun i => (f i).1, fun i => (f i).2, fun i hi => (hf i hi).1, fun i hi => (hf i hi).2⟩
theorem gw_Xof {s : State} {b Ln : Nat} {xs : Nat → Int32} (hgv : (Jvm.Cond.and given_1 narrow_1).before #[Value.ref b] s = true) (hts : ∀ w ∈ lw_tbl, w.before #[Value.ref b] s = true) (hX : va_X b Ln xs s s.heap) (hb : b < s.heap.size) : ∃ (fk : Nat) (uq : Option Nat) (adK adV : Nat → Nat), gw_X s.heap.size b Ln xs fk uq adK adV s s.heap := by
  have hfl : ∀ w ∈ gw_fl, w.before #[Value.ref b] s = true := flat_of_before _ hgv
  have hA : ∀ a : Nat, a < s.heap.size → ¬ (fun q => s.heap.size ≤ q) a := fun a ha hn => by
    have hn' : s.heap.size ≤ a := hn
    omega
  have hm : ∀ (n : Nat) (w : Cond), gw_fl[n]? = some w → w.before #[Value.ref b] s = true := fun n w h => hfl w (List.mem_of_getElem? h)
  obtain ⟨fk, hf1, hf2⟩ := va_Tof (args := #[Value.ref b]) (s := s) (tm := .static RX4 "FIRST_KIND" "[I") (ty := .int) (N := 5) (f := fun j => .int (gx_fk j)) (A := fun q => s.heap.size ≤ q) (by decide) (hm 5 _ (by decide +kernel)) (va_eqt (hm 6 _ (by decide +kernel)))
    (fun j hj => by
      match j, hj with
      | 0, _ => exact va_eqt (hm 7 _ (by decide +kernel))
      | 1, _ => exact va_eqt (hm 8 _ (by decide +kernel))
      | 2, _ => exact va_eqt (hm 9 _ (by decide +kernel))
      | 3, _ => exact va_eqt (hm 10 _ (by decide +kernel))
      | 4, _ => exact va_eqt (hm 11 _ (by decide +kernel))
      | n + 5, h => omega) hA
  have hfz := va_Zof (args := #[Value.ref b]) (s := s) (hts _ (gw_t3 43 rfl)) (hts _ (gw_t1 6 rfl)) hf1 hA
  have hcz := va_Zof (args := #[Value.ref b]) (s := s) (hts _ (gw_t3 77 rfl)) (hts _ (gw_t1 16 rfl)) (va_eqi (z := 1) (hm 12 _ (by decide +kernel))) hA
  have huz0 := va_Zqof (args := #[Value.ref b]) (s := s) (hts _ (gw_t3 93 rfl)) (hts _ (gw_t1 18 rfl)) (hm 13 _ (by decide +kernel)) hA
  have huz1 : ∃ uq : Option Nat, va_Z RJ3 "SIOOBE_FORMATTER" "Ljava/util/function/BiFunction;" (va_rf uq) (fun q => s.heap.size ≤ q) s s.heap := by
    rcases huz0 with h | ⟨t, h⟩
    · exact ⟨none, h⟩
    · exact ⟨some t, h⟩
  obtain ⟨uq, huz⟩ := huz1
  obtain ⟨adK, adV, hS, hR⟩ := gw_str hfl hts rfl
  exact ⟨fk, uq, adK, adV, ⟨⟨hS, hR, hfz, hf2, hcz, huz, fun q hq => va_Nw.of rfl (hts _ (gw_nests q hq))⟩,
    va_AO.of (hts _ (List.mem_of_getElem? (i := 183) (by decide +kernel))), va_AO.of (hts _ (List.mem_of_getElem? (i := 185) (by decide +kernel))), va_AO.of (hts _ (List.mem_of_getElem? (i := 187) (by decide +kernel))), va_AO.of (hts _ (List.mem_of_getElem? (i := 342) (by decide +kernel)))⟩, hX, by omega⟩

