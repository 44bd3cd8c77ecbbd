/-! calls, ends -/
/-- a link to a method that the tables have -/
def gx_LB (own : String) (idx : Nat) (y' : gx_Y) (n : Nat) : Prop := Jvm.Cond.initialized y'.1.cls ∈ gx_T ∧ Jvm.Cond.code y'.1 y'.2.1 y'.2.2.1 y'.2.2.2 ∈ gx_T ∧ (y'.1.cls ≠ "java/lang/invoke/MethodHandle" ∧ y'.1.cls ≠ "java/lang/invoke/VarHandle" ∧ (parseMethodDescriptor y'.1.desc).map (fun d => d.parameters.length) = some n) ∧ y'.2.2.1 ≤ 40
def gx_LV (own : String) (idx : Nat) (y' : gx_Y) (n : Nat) : Prop := gx_LB own idx y' n ∧ Jvm.Cond.methodLink own idx y'.1 ∈ gx_T ∧ Jvm.Cond.instanceMethod y'.1 ∈ gx_T ∧ Jvm.Cond.selects y'.1.cls y'.1 y'.1 ∈ gx_T
def gx_LS (own : String) (idx : Nat) (y' : gx_Y) (n : Nat) : Prop := gx_LB own idx y' n ∧ Jvm.Cond.methodLink own idx y'.1 ∈ gx_T ∧ Jvm.Cond.static y'.1 ∈ gx_T
def gx_LI (own : String) (idx : Nat) (y' : gx_Y) (n : Nat) : Prop := gx_LB own idx y' n ∧ Jvm.Cond.methodLink own idx y'.1 ∈ gx_T ∧ Jvm.Cond.instanceMethod y'.1 ∈ gx_T ∧ y'.1.name = "<init>" ∧ y'.2.2.2 = none
theorem gx_gd {y : gx_Y} {ws : List Cond} (h : ∀ w ∈ ws, w ∈ gx_T) : GoodIn (gx_w y) ws := fun w hw => ⟨List.mem_cons_of_mem _ (h w hw), good_of_word (gx_Tg w (h w hw))⟩
theorem gx_gw {y' : gx_Y} (h : Jvm.Cond.code y'.1 y'.2.1 y'.2.2.1 y'.2.2.2 ∈ gx_T) : ∀ w ∈ gx_w y', w ∈ gx_T := fun w hw => by
  rcases List.mem_cons.mp hw with e | e
  · rw [e]; exact h
  · exact e
theorem gx_blind {E : gx_E} {as : List Value} {G : gx_G} {μ : gx_M} (hX : gx_Xo E) : FrameBlind (va_Pc as (gx_Pre E G μ)) := fun a U g mk q => by
  obtain ⟨q0, q1, q2, q3, q4⟩ := q
  exact ⟨q0, q1, va_K.moved (u := U) (U := U.calling g mk a) (Vm.Alike.refl U.vm) q2, hX.2.1 U (U.calling g mk a) U.heap rfl q3, q4⟩
theorem gx_callK {E : gx_E} {p : Program} {l : Launch} {e : Env} {R : Room} {s : State} {m : MethodId} {args : Array Value} {below : List Frame} {meth : Method} {c : Code} {H : Heap} {locs : List Loc} {cells slots mc ms : Nat} {Q : State → Prop} {pc : Nat} {arr : Array Slot} {st0 rest : List Value} {a : Array Value} {r : Option Value} {G' : gx_G} {μ' : gx_M}
    (hr : va_Run p l e R s m args below meth c H locs cells slots mc ms (F0 m pc arr st0) rest (gx_Post E r G' μ' a) (fun q => E.2.2.1 ≤ q)) (hS : va_S (fun q => E.2.2.1 ≤ q) s.heap H locs)
    (kk : ∀ (H1 : Heap) (locs1 : List Loc), gx_R E G' μ' H1 → va_S (fun q => E.2.2.1 ≤ q) s.heap H1 locs1 → W p l e R s m args below meth c H1 locs1 (cells + mc) (slots + ms) Q (F0 m (pc + 3) arr (r.toList ++ rest))) : W p l e R s m args below meth c H locs cells slots Q (F0 m pc arr st0) := by
  intro T hT X
  obtain ⟨v, st₀, t, T', L, h0, X', hL, e1, -, ⟨hv, hR1, hz, hk⟩, st⟩ := hr T hT X
  cases hv
  rw [h0] at hz hk
  obtain ⟨t2, a1, b1⟩ := kk T'.heap (locs ++ L) (by rw [e1]; exact hR1) ⟨Nat.le_trans hS.1 (by rw [e1]; exact hz), fun q h1 h2 => by rw [e1, hk q (Nat.lt_of_lt_of_le h1 hS.1) h2]; exact hS.2.1 q h1 h2, fun q hq => by
      rcases List.mem_append.mp hq with h | h
      · exact hS.2.2 q h
      · exact hL q h⟩ T' rfl X'
  exact ⟨t2, st t2 a1, b1⟩
theorem gx_pre {E : gx_E} {y : gx_Y} {d n0 : Nat} {p : Program} {R : Room} {s : State} {m : MethodId} {args : Array Value} {meth : Method} {c : Code} {H : Heap} {locs : List Loc} {G : gx_G} {μ : gx_M} {as : List Value} (C : gx_C E y d n0 p R s m args meth c) (hR : gx_R E G μ H) (hS : va_S (fun q => E.2.2.1 ≤ q) s.heap H locs) (hz : H.size = E.2.2.1 + G.length) :
    ∀ U : State, U.heap = H → s.WarmedH U.vm → va_Pc as (gx_Pre E G μ) as.toArray U := by
  obtain ⟨-, -, -, -, -, -, -, -, -, -, hK, hX, -, hXo⟩ := C
  intro U hU hW
  refine ⟨rfl, by rw [hU]; exact hR, va_K.moved hW.alike hK, ?_, by rw [hU]; exact hz⟩
  rw [hU]
  exact hXo.1 s U H hW (hXo.2.2 s s.heap H hX (fun q h1 h2 => hS.2.1 q h1 h2))
/-- a call, of whatever kind: the run of it, and the room -/
theorem gx_callG {E : gx_E} {l : Launch} {y y' : gx_Y} {d d' pc : Nat} {ls : List (Option Value)} {st st0 : List Value} {as : List Value} {G G' : gx_G} {μ μ' : gx_M} {r : Option Value} (he : gEv E l d' y' as G μ r G' μ') (hd' : d' + 1 ≤ d) (hml : y'.2.2.1 ≤ 40)
    (h : ∀ (p : Program) (e : Env) (R : Room) (s : State) (m : MethodId) (args : Array Value) (below : List Frame) (meth : Method) (c : Code) (n0 cells slots : Nat) (H : Heap) (arr : Array Slot) (locs : List Loc), gx_C E y d n0 p R s m args meth c → gx_L ls arr y.2.2.1 → gx_R E G μ H → va_S (fun q => E.2.2.1 ≤ q) s.heap H locs → H.size = E.2.2.1 + G.length →
      ((gx_rm d' (G'.length - G.length) (gx_sz G' - gx_sz G)).frames + 1 ≤ R.frames ∧ 8 + (y'.2.2.1 + 11) + (gx_rm d' (G'.length - G.length) (gx_sz G' - gx_sz G)).locals ≤ R.locals) → cells + (G'.length - G.length) ≤ R.cells ∧ slots + (gx_sz G' - gx_sz G) ≤ R.slots → Met l y'.1 (gx_w y') (gx_rm d' (G'.length - G.length) (gx_sz G' - gx_sz G)) (va_Pc as (gx_Pre E G μ)) (gx_Post E r G' μ') (G'.length - G.length) (gx_sz G' - gx_sz G) (fun q => E.2.2.1 ≤ q) →
      va_Run p l e R s m args below meth c H locs cells slots (G'.length - G.length) (gx_sz G' - gx_sz G) (F0 m pc arr st0) st (gx_Post E r G' μ' as.toArray) (fun q => E.2.2.1 ≤ q)) :
    gS E l y d (pc, ls, st0, G, μ) (pc + 3, ls, r.toList ++ st, G', μ') := by
  refine ⟨he.1, fun p e R s m args below meth c n0 z0 Q C a1 a2 a3 a4 w H arr locs hl hR hS => ?_⟩
  dsimp only at a1 a2 a3 a4 hl hR ⊢
  have C' := C
  obtain ⟨-, -, -, -, -, -, -, -, hfr, hlo, -, -, hz0, hXo⟩ := C'
  refine gx_sized (fun hsz => ?_)
  have hlb := gx_lb hR hS (by omega)
  have hz : H.size = E.2.2.1 + G.length := by omega
  have hm := he.1
  refine gx_callK (h p e R s m args below meth c n0 (G.length - n0) (gx_sz G - z0) H arr locs C hl hR hS hz ⟨?_, ?_⟩ ⟨by omega, by omega⟩ (he.2 hXo)) hS (fun H1 locs1 hR1 hS1 => ?_)
  · show d' + 1 ≤ R.frames
    omega
  · show 8 + (y'.2.2.1 + 11) + 100 * d' ≤ R.locals
    omega
  · have k := w H1 arr locs1 hl hR1 hS1
    dsimp only at k
    rw [show G.length - n0 + (G'.length - G.length) = G'.length - n0 by omega, show gx_sz G - z0 + (gx_sz G' - gx_sz G) = gx_sz G' - z0 by omega]
    exact k
section GXC
variable {E : gx_E} {l : Launch} {y : gx_Y} {d : Nat} {pc : Nat} {ls : List (Option Value)} {st : List Value} {G : gx_G} {μ : gx_M}
theorem s_callV {y' : gx_Y} {d' idx n a ci : Nat} {As : List Value} {refs : List (Option Nat)} {r : Option Value} {G' : gx_G} {μ' : gx_M} (hd : decode y.2.1 pc = .ok (.invokevirtual idx, 3)) (L : gx_LV y.1.cls idx y' n) (hn : As.length = n) (hG : G[a]? = some (ci, gx_NX ci, refs)) (hci : ci < 13) (hcl : gx_RX ci = y'.1.cls) (hd' : d' + 1 ≤ d) (hr : (st.map fun v => v.category).sum ≤ 8) (he : gEv E l d' y' (.ref (E.2.2.1 + a) :: As) G μ r G' μ') :
    gS E l y d (pc, ls, As.reverse ++ .ref (E.2.2.1 + a) :: st, G, μ) (pc + 3, ls, r.toList ++ st, G', μ') := by
  obtain ⟨⟨L1, L2, L3, L4⟩, L5, L6, L7⟩ := L
  refine gx_callG he hd' L4 fun p e R s m args below meth c n0 cells slots H arr locs C hl hR hS hz hrm hcs hM => ?_
  have C' := C
  obtain ⟨hx, hb, hmL, -, hown, hts, -, -, -, -, hK, -, -, hXo⟩ := C'
  exact va_runV (As := As) (C := y'.1.cls) ⟨hx, hb, hmL, hown, hts⟩ hM
    (cwV n hts (gx_gd (fun w hw => by
      rcases List.mem_append.mp hw with h | h
      · simp only [List.mem_cons, List.not_mem_nil, or_false] at h
        rcases h with rfl | rfl | rfl | rfl <;> assumption
      · exact gx_gw L2 w h)) rfl rfl rfl ⟨rfl, L3⟩ hrm)
    ⟨gx_blind hXo, by
      have := va_recv hK hR (gx_cli ci hci) ((gx_at E μ hG).trans (by rw [gx_entO E μ a hci]))
      rw [hcl] at this; exact this, gx_pre C hR hS hz⟩ rfl hn hl.1 rfl (lv_room hr) hd hcs
theorem s_callS {y' : gx_Y} {d' idx n : Nat} {As : List Value} {r : Option Value} {G' : gx_G} {μ' : gx_M} (hd : decode y.2.1 pc = .ok (.invokestatic idx, 3)) (L : gx_LS y.1.cls idx y' n) (hn : As.length = n) (hd' : d' + 1 ≤ d) (hr : (st.map fun v => v.category).sum ≤ 8) (he : gEv E l d' y' As G μ r G' μ') :
    gS E l y d (pc, ls, As.reverse ++ st, G, μ) (pc + 3, ls, r.toList ++ st, G', μ') := by
  obtain ⟨⟨L1, L2, L3, L4⟩, L5, L6⟩ := L
  refine gx_callG he hd' L4 fun p e R s m args below meth c n0 cells slots H arr locs C hl hR hS hz hrm hcs hM => ?_
  have C' := C
  obtain ⟨hx, hb, hmL, -, hown, hts, -, -, -, -, hK, -, -, hXo⟩ := C'
  exact va_runS (As := As) ⟨hx, hb, hmL, hown, hts⟩ hM
    (va_cwS n hts (gx_gd (fun w hw => by
      rcases List.mem_append.mp hw with h | h
      · simp only [List.mem_cons, List.not_mem_nil, or_false] at h
        rcases h with rfl | rfl | rfl <;> assumption
      · exact gx_gw L2 w h)) rfl rfl rfl L3 hrm)
    ⟨gx_blind hXo, gx_pre C hR hS hz⟩ rfl hn hl.1 rfl (lv_room hr) hd hcs
theorem s_callI {y' : gx_Y} {d' idx n a : Nat} {As : List Value} {r : Option Value} {G' : gx_G} {μ' : gx_M} (hd : decode y.2.1 pc = .ok (.invokespecial idx, 3)) (L : gx_LI y.1.cls idx y' n) (hn : As.length = n) (hd' : d' + 1 ≤ d) (hr : (st.map fun v => v.category).sum ≤ 8) (he : gEv E l d' y' (.ref (E.2.2.1 + a) :: As) G μ r G' μ') :
    gS E l y d (pc, ls, As.reverse ++ .ref (E.2.2.1 + a) :: st, G, μ) (pc + 3, ls, r.toList ++ st, G', μ') := by
  obtain ⟨⟨L1, L2, L3, L4⟩, L5, L6, L7, L8⟩ := L
  refine gx_callG he hd' L4 fun p e R s m args below meth c n0 cells slots H arr locs C hl hR hS hz hrm hcs hM => ?_
  have C' := C
  obtain ⟨hx, hb, hmL, -, hown, hts, -, -, -, -, hK, -, -, hXo⟩ := C'
  have ht := fun (w : Cond) (h : w ∈ gx_T) => hts w (List.mem_cons_of_mem _ h)
  exact va_runI (As := As) ⟨hx, hb, hmL, hown, hts⟩ hM
    (cwI n hts (gx_gd (gx_gw L2)) (by rw [← L8]; rfl) rfl rfl (ht _ L1) (ht _ L5) (ht _ L6) L7 L3 hrm)
    ⟨gx_blind hXo, gx_pre C hR hS hz⟩ rfl hn hl.1 rfl (lv_room hr) hd hcs
theorem s_objI {idx a : Nat} (hd : decode y.2.1 pc = .ok (.invokespecial idx, 3)) (h1 : Jvm.Cond.methodLink y.1.cls idx objectInit ∈ gx_T) (h2 : Jvm.Cond.instanceMethod objectInit ∈ gx_T) (h3 : Jvm.Cond.code objectInit ⟨#[0xb1]⟩ 1 none ∈ gx_T) (hd1 : 1 ≤ d) (hr : (st.map fun v => v.category).sum ≤ 8) : gS E l y d (pc, ls, .ref a :: st, G, μ) (pc + 3, ls, st, G, μ) := by
  refine stp_g fun _ _ _ _ _ _ _ _ _ _ _ _ _ C _ H arr locs hl hR hS kk => ?_
  have kk' := kk H arr locs hl hR hS
  obtain ⟨hx, hb, hmL, -, hown, hts, -, -, hfr, hlo, -, -, -, -⟩ := C
  have ht := fun (w : Cond) (h : w ∈ gx_T) => hts w (List.mem_cons_of_mem _ h)
  refine W.objInit hx hb hown (ht _ h1) (ht _ h2) (ht _ h3) rfl (by rw [hmL]; exact hl.1) rfl hd (by omega) ?_ kk'
  have := lv_room (m := default) (pc := 0) (ls := #[]) (rest := []) hr
  have e0 : (F0 (default : MethodId) 0 #[] []).monitorRoom = 0 := rfl
  show 2 * 0 + (st.map fun v => v.category).sum + 12 ≤ _
  omega
end GXC
/-! ends -/
def gx_rt (y : gx_Y) (pc : Nat) (r : Option Value) (st : List Value) : Prop :=
  (∃ x : Int32, r = some (.int x) ∧ st = [.int x] ∧ ∃ ty, y.2.2.2 = some ty ∧ narrow ty (.int x) = .int x ∧ decode y.2.1 pc = .ok (.ireturn, 1)) ∨
  (∃ x : Int64, r = some (.long x) ∧ st = [.long x] ∧ y.2.2.2 = some .long ∧ decode y.2.1 pc = .ok (.lreturn, 1)) ∨
  (∃ v : Nat, r = some (.ref v) ∧ st = [.ref v] ∧ (∃ rt, y.2.2.2 = some rt ∧ ((∃ n, rt = .object n) ∨ ∃ t, rt = .array t)) ∧ decode y.2.1 pc = .ok (.areturn, 1)) ∨
  (r = none ∧ st = [] ∧ y.2.2.2 = none ∧ decode y.2.1 pc = .ok (.return_, 1))
def gF (E : gx_E) (l : Launch) (y : gx_Y) (d : Nat) (k : gx_K) (r : Option Value) (G' : gx_G) (μ' : gx_M) : Prop :=
  ∃ (pc : Nat) (ls : List (Option Value)) (st : List Value), gS E l y d k (pc, ls, st, G', μ') ∧ gx_rt y pc r st
theorem gf_s {E : gx_E} {l : Launch} {y : gx_Y} {d : Nat} {k k' : gx_K} {r : Option Value} {G' : gx_G} {μ' : gx_M} (h : gS E l y d k k') (f : gF E l y d k' r G' μ') : gF E l y d k r G' μ' := by
  obtain ⟨pc, ls, st, h1, h2⟩ := f
  exact ⟨pc, ls, st, stp_tr h h1, h2⟩
section GXE
variable {E : gx_E} {l : Launch} {y : gx_Y} {d : Nat} {pc : Nat} {ls : List (Option Value)} {G : gx_G} {μ : gx_M}
theorem f_int {x : Int32} {ty : FieldType} (hd : decode y.2.1 pc = .ok (.ireturn, 1)) (hr : y.2.2.2 = some ty) (hn : narrow ty (.int x) = .int x) : gF E l y d (pc, ls, [.int x], G, μ) (some (.int x)) G μ := ⟨pc, ls, _, stp_rf, Or.inl ⟨x, rfl, rfl, ty, hr, hn, hd⟩⟩
theorem f_long {x : Int64} (hd : decode y.2.1 pc = .ok (.lreturn, 1)) (hr : y.2.2.2 = some .long) : gF E l y d (pc, ls, [.long x], G, μ) (some (.long x)) G μ := ⟨pc, ls, _, stp_rf, Or.inr (Or.inl ⟨x, rfl, rfl, hr, hd⟩)⟩
theorem f_ref {v : Nat} {rt : FieldType} (hd : decode y.2.1 pc = .ok (.areturn, 1)) (hr : y.2.2.2 = some rt) (ht : (∃ n, rt = .object n) ∨ ∃ t, rt = .array t) : gF E l y d (pc, ls, [.ref v], G, μ) (some (.ref v)) G μ := ⟨pc, ls, _, stp_rf, Or.inr (Or.inr (Or.inl ⟨v, rfl, rfl, ⟨rt, hr, ht⟩, hd⟩))⟩
theorem f_void (hd : decode y.2.1 pc = .ok (.return_, 1)) (hr : y.2.2.2 = none) : gF E l y d (pc, ls, [], G, μ) none G μ := ⟨pc, ls, _, stp_rf, Or.inr (Or.inr (Or.inr ⟨rfl, rfl, hr, hd⟩))⟩
end GXE
/-- a contract out of a run from the entry -/
theorem gev_of {E : gx_E} {l : Launch} {y : gx_Y} {d : Nat} {as : List Value} {G G' : gx_G} {μ μ' : gx_M} {r : Option Value} (hp : plainName y.1.cls = true) (hn : (lg_sl as).length ≤ y.2.2.1) (f : gF E l y d (0, gx_el as, [], G, μ) r G' μ') : gEv E l d y as G μ r G' μ' := by
  obtain ⟨pc, ls, st, h, hrt⟩ := f
  refine ⟨h.1, fun hXo => ?_⟩
  refine Met.ofW (cc := y.2.1) (maxL := y.2.2.1) (ret := y.2.2.2) hp rfl ?_
  intro p e s m args below meth c s₁ B hml hv
  obtain ⟨rfl, hR, hK, hX, hz⟩ := hv
  have hS : va_S (fun q => E.2.2.1 ≤ q) s.heap s.heap [] := va_S.rf
  have hl := lv_entry as (n := y.2.2.1) hn
  rw [lg_entry_eq]
  have C : gx_C E y d G.length p (headSpec (gx_w y) (gx_rm d (G'.length - G.length) (gx_sz G' - gx_sz G))).room s m as.toArray meth c :=
    ⟨B.exec, B.bytes, hml, B.returns, findClass_of_methodNamed B.named, atoms_spec (ws := gx_w y) B.pre, B.notSynchronized, (name_of_methodNamed B.named B.method).1, Nat.le_refl _, Nat.le_refl _, hK, hX, hz, hXo⟩
  have k := h.2 p e _ s m as.toArray below meth c G.length (gx_sz G) (MQ below (gx_Post E r G' μ') as.toArray s (G'.length - G.length) (gx_sz G' - gx_sz G) (fun q => E.2.2.1 ≤ q)) C (Nat.le_refl _) (Nat.le_refl _) (Nat.le_refl _) (Nat.le_refl _) ?_ s.heap _ [] (gx_el_L hl) hR hS
  · dsimp only at k
    rw [Nat.sub_self, Nat.sub_self] at k
    exact k
  · intro H arr locs hl2 hR2 hS2
    dsimp only at hl2 hR2 ⊢
    have hq : ∀ t : State, t.heap = H → gx_Post E r G' μ' as.toArray s (.returned r) t := fun t ht => ⟨rfl, by rw [ht]; exact hR2, hS2.F ht⟩
    rcases hrt with ⟨x, rfl, rfl, ty, hr, hnw, hd⟩ | ⟨x, rfl, rfl, hr, hd⟩ | ⟨v, rfl, rfl, ⟨rt, hr, ht⟩, hd⟩ | ⟨rfl, rfl, hr, hd⟩
    · exact W.zret B.exec B.bytes (B.returns.trans hr) hnw (fun t h1 _ => hq t h1) hS2.2.2 hd
    · exact W.lret B.exec B.bytes (B.returns.trans hr) (fun t h1 _ => hq t h1) hS2.2.2 hd
    · exact W.aret B.exec B.bytes (B.returns.trans hr) ht (Or.inr ⟨v, rfl⟩) (fun t h1 _ => hq t h1) hS2.2.2 hd
    · exact W.vret B.exec B.bytes (B.returns.trans hr) (fun t h1 _ => hq t h1) hS2.2.2 hd
