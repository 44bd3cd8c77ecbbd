/-! making: objects and rows -/
def gx_Z (n : Nat) (μ : gx_M) : Prop := ∀ a : Nat, n ≤ a → ∀ k : Nat, μ.1 a k = 0 ∧ μ.2 a k = 0
theorem gx_Zu {n a k : Nat} {x : Int32} {μ : gx_M} (h : gx_Z n μ) (ha : a < n) : gx_Z n (gx_uI μ a k x) := fun b hb j => by
  have hn : ¬ (b = a ∧ j = k) := fun e => by omega
  refine ⟨?_, (h b hb j).2⟩
  show (if b = a ∧ j = k then x else μ.1 b j) = 0
  rw [if_neg hn]
  exact (h b hb j).1
theorem gx_Zm {n m : Nat} {μ : gx_M} (h : gx_Z n μ) (hm : n ≤ m) : gx_Z m μ := fun a ha k => h a (Nat.le_trans hm ha) k
def gx_EO (E : gx_E) : Prop := ∀ (U : State) (H : Heap), E.2.2.2 U H → va_AO RX5 U ∧ va_AO RX2 U ∧ va_AO RX6 U ∧ va_AO RX9 U
theorem gx_ws_app (E : gx_E) (G : gx_G) (kd : Nat × Nat × List (Option Nat)) (μ : gx_M) : gx_ws E (G ++ [kd]) μ = gx_ws E G μ ++ [(E.2.2.1 + G.length, gx_ent E μ G.length kd)] := by
  simp [gx_ws, List.zipIdx_append]
theorem gx_sz_app (G T : gx_G) : gx_sz (G ++ T) = gx_sz G + gx_sz T := by
  induction G with
  | nil => simp [gx_sz]
  | cons k g ih => simp [gx_sz, ih]; omega
/-- where a new cell lies -/
theorem gx_newat {E : gx_E} {G : gx_G} {μ : gx_M} {q : Nat} {e : va_E} {H1 : Heap} (hP : va_P E.1 gx_cl (gx_ws E G μ ++ [(q, e)]) H1) (hD : va_D (fun q => E.2.2.1 ≤ q) (gx_ws E G μ ++ [(q, e)])) (hz : H1.size ≤ E.2.2.1 + G.length + 1) : q = E.2.2.1 + G.length := by
  have hlen : (gx_ws E G μ).length = G.length := by simp [gx_ws]
  have hk : (gx_ws E G μ ++ [(q, e)])[G.length]? = some (q, e) := by rw [← hlen]; simp
  have h1 : q < H1.size := (hP _ _ hk).lt
  have h2 : E.2.2.1 ≤ q := hD.2 _ _ hk
  rcases Nat.lt_or_ge q (E.2.2.1 + G.length) with h | h
  · obtain ⟨a, ha⟩ : ∃ a, q = E.2.2.1 + a := ⟨q - E.2.2.1, by omega⟩
    have hal : a < G.length := by omega
    have h3 := gx_at E μ (List.getElem?_eq_getElem hal)
    have h4 : (gx_ws E G μ ++ [(q, e)])[a]? = some (E.2.2.1 + a, gx_ent E μ a G[a]) := by
      rw [List.getElem?_append_left (by rw [hlen]; exact hal)]; exact h3
    have := hD.1 a G.length _ _ h4 hk ha.symm
    omega
  · omega
/-- a step that makes one cell -/
theorem stp_a {E : gx_E} {l : Launch} {y : gx_Y} {d : Nat} {pc pc' : Nat} {ls : List (Option Value)} {st st' : List Value} {G : gx_G} {μ : gx_M} {kd : Nat × Nat × List (Option Nat)}
    (h : ∀ (p : Program) (e : Env) (R : Room) (s : State) (m : MethodId) (args : Array Value) (below : List Frame) (meth : Method) (c : Code) (Q : State → Prop) (n0 cells slots : Nat), gx_C E y d n0 p R s m args meth c → cells + 1 ≤ R.cells → slots + kd.2.1 ≤ R.slots → ∀ (H : Heap) (arr : Array Slot) (locs : List Loc), gx_R E G μ H → va_S (fun q => E.2.2.1 ≤ q) s.heap H locs → (∀ q, s.heap.size ≤ q → E.2.2.1 ≤ q) →
      (∀ (q : Nat) (H1 : Heap) (e1 : va_E), e1 = gx_ent E μ G.length kd → va_P E.1 gx_cl (gx_ws E G μ ++ [(q, e1)]) H1 → va_D (fun q => E.2.2.1 ≤ q) (gx_ws E G μ ++ [(q, e1)]) → va_S (fun q => E.2.2.1 ≤ q) s.heap H1 locs → W p l e R s m args below meth c H1 locs (cells + 1) (slots + kd.2.1) Q (F0 m pc' arr (.ref q :: st'))) → W p l e R s m args below meth c H locs cells slots Q (F0 m pc arr st)) :
    gS E l y d (pc, ls, st, G, μ) (pc', ls, .ref (E.2.2.1 + G.length) :: st', G ++ [kd], μ) := by
  refine ⟨⟨by simp, by show gx_sz G ≤ gx_sz (G ++ [kd]); rw [gx_sz_app]; omega⟩, fun p e R s m args below meth c n0 z0 Q C a1 a2 a3 a4 w H arr locs hl hR hS => ?_⟩
  dsimp only at a1 a2 a3 a4 hl hR ⊢
  have hsz : gx_sz (G ++ [kd]) = gx_sz G + kd.2.1 := by rw [gx_sz_app]; simp [gx_sz]
  have hln : (G ++ [kd]).length = G.length + 1 := by simp
  rw [hsz] at a4
  rw [hln] at a3
  have hz0 := C.2.2.2.2.2.2.2.2.2.2.2.2.1
  refine h p e R s m args below meth c Q n0 _ _ C (by omega) (by omega) H arr locs hR hS (fun q hq => by omega) (fun q H1 e1 he1 hP1 hD1 hS1 => ?_)
  subst he1
  refine gx_sized (fun hz1 => ?_)
  have hq := gx_newat hP1 hD1 (by omega)
  subst hq
  have k := w H1 arr locs hl (by show va_P E.1 gx_cl (gx_ws E (G ++ [kd]) μ) H1; rw [gx_ws_app]; exact hP1) hS1
  dsimp only at k
  rw [hsz, hln] at k
  rw [show G.length - n0 + 1 = G.length + 1 - n0 by omega, show gx_sz G - z0 + kd.2.1 = gx_sz G + kd.2.1 - z0 by omega]
  exact k
theorem gx_dflt : ∀ ci, ci < 13 → ∀ k, k < gx_NX ci → defaultValue (gx_tyf ci k) = (if gx_ft ci k = 4 then .null else if gx_ft ci k = 3 then .long 0 else .int 0) := by decide +kernel
section GXN
variable {E : gx_E} {l : Launch} {y : gx_Y} {d : Nat} {pc : Nat} {ls : List (Option Value)} {st : List Value} {G : gx_G} {μ : gx_M}
theorem s_new {ci idx : Nat} (hd : decode y.2.1 pc = .ok (.new idx, 3)) (hc : ci < 13) (h1 : Jvm.Cond.classLink y.1.cls idx (gx_RX ci) ∈ gx_T) (h2 : Jvm.Cond.instantiable (gx_RX ci) (gx_NX ci) ∈ gx_T) (h3 : Jvm.Cond.initialized (gx_RX ci) ∈ gx_T) (hz : gx_Z G.length μ) :
    gS E l y d (pc, ls, st, G, μ) (pc + 3, ls, .ref (E.2.2.1 + G.length) :: st, G ++ [(ci, gx_NX ci, List.replicate (gx_NX ci) none)], μ) := by
  refine stp_a fun p e R s m args below meth c Q n0 cells slots C b1 b2 H arr locs hR hS hA kk => ?_
  obtain ⟨hx, hb, -, -, hown, hts, -, -, -, -, hK, -, -, -⟩ := C
  have ht := fun (w : Cond) (h : w ∈ gx_T) => hts w (List.mem_cons_of_mem _ h)
  refine va_new hx hb hts (fun w h => List.mem_cons_of_mem _ (gx_wsi ci hc w h)) (gx_tyf ci) (gx_tyi ci hc) hown (ht _ h1) (ht _ h2) (ht _ h3) hK hR (gx_D E G μ) hS hA (gx_cli ci hc) (fs := (List.range (gx_NX ci)).map (gx_fv E ci (List.replicate (gx_NX ci) none) μ G.length)) ?_ b1 b2 hd (fun q H1 hP1 hD1 hS1 => kk q H1 _ (gx_entO E μ _ hc _ _).symm hP1 hD1 hS1)
  intro j hj
  rw [gx_dflt ci hc j hj]
  unfold vp_V
  rw [List.getD_eq_getElem?_getD, gx_rg hj]
  unfold gx_fv
  have h9 := hz G.length (Nat.le_refl _) j
  have h8 : (List.replicate (gx_NX ci) (none : Option Nat)).getD j none = none := by
    rw [List.getD_eq_getElem?_getD]
    simp [List.getElem?_replicate]
    split <;> rfl
  rw [h9.1, h9.2, h8]
  rfl
theorem s_newaI {idx : ArrayType} {t : Nat} {ty : FieldType} {n : Int32} {N : Nat} (hd : decode y.2.1 pc = .ok (.newarray idx, 2)) (hw : Jvm.Cond.arrayClass (newarray.typeOf idx) ∈ gx_T) (hty : newarray.typeOf idx = ty) (ht : (t = 50 ∧ ty = .int) ∨ (t = 51 ∧ ty = .byte) ∨ (t = 52 ∧ ty = .boolean)) (hn : ¬ n < 0) (hN : n.toNatClampNeg = N) (hN2 : N ≤ 60000000) (hz : gx_Z G.length μ) :
    gS E l y d (pc, ls, .int n :: st, G, μ) (pc + 2, ls, .ref (E.2.2.1 + G.length) :: st, G ++ [(t, N, [])], μ) := by
  refine stp_a fun p e R s m args below meth c Q n0 cells slots C b1 b2 H arr locs hR hS hA kk => ?_
  obtain ⟨hx, hb, -, -, hown, hts, -, -, -, -, hK, -, -, -⟩ := C
  have hti := fun (w : Cond) (h : w ∈ gx_T) => hts w (List.mem_cons_of_mem _ h)
  have hf0 : μ.1 G.length = fun _ => 0 := by funext k; exact (hz _ (Nat.le_refl _) k).1
  refine va_newa hx hb (hti _ hw) hty hK hR (gx_D E G μ) hS hA (a0 := (N, .inl (fun _ => 0))) ?_ hn hN ?_ b1 b2 hd (fun q cA H1 hK1 hP1 hD1 hS1 => kk q H1 _ ?_ hP1 hD1 hS1)
  · intro cA
    rcases ht with ⟨-, rfl⟩ | ⟨-, rfl⟩ | ⟨-, rfl⟩ <;> rfl
  · rcases ht with ⟨-, rfl⟩ | ⟨-, rfl⟩ | ⟨-, rfl⟩ <;> (simp only [componentBytes]; omega)
  · have hr := (hK1.2 8 (cA, ty) rfl).2
    rcases ht with ⟨rfl, rfl⟩ | ⟨rfl, rfl⟩ | ⟨rfl, rfl⟩
    · have h0 := (hK.2 0 (E.2.1 0, .int) rfl).2
      have : cA = E.2.1 0 := Option.some.inj (hr.symm.trans h0)
      subst this
      unfold gx_ent
      rw [hf0]
      rfl
    · have h0 := (hK.2 1 (E.2.1 1, .byte) rfl).2
      have : cA = E.2.1 1 := Option.some.inj (hr.symm.trans h0)
      subst this
      unfold gx_ent
      rw [hf0]
      rfl
    · have h0 := (hK.2 2 (E.2.1 2, .boolean) rfl).2
      have : cA = E.2.1 2 := Option.some.inj (hr.symm.trans h0)
      subst this
      unfold gx_ent
      rw [hf0]
      rfl
theorem s_newaL {n : Int32} {N : Nat} (hd : decode y.2.1 pc = .ok (.newarray .long, 2)) (hw : Jvm.Cond.arrayClass .long ∈ gx_T) (hn : ¬ n < 0) (hN : n.toNatClampNeg = N) (hN2 : N ≤ 60000000) (hz : gx_Z G.length μ) :
    gS E l y d (pc, ls, .int n :: st, G, μ) (pc + 2, ls, .ref (E.2.2.1 + G.length) :: st, G ++ [(53, N, [])], μ) := by
  refine stp_a fun p e R s m args below meth c Q n0 cells slots C b1 b2 H arr locs hR hS hA kk => ?_
  obtain ⟨hx, hb, -, -, hown, hts, -, -, -, -, hK, -, -, -⟩ := C
  have hti := fun (w : Cond) (h : w ∈ gx_T) => hts w (List.mem_cons_of_mem _ h)
  have hf0 : μ.2 G.length = fun _ => 0 := by funext k; exact (hz _ (Nat.le_refl _) k).2
  refine va_newa (atype := .long) hx hb (hti _ hw) (ty := .long) rfl hK hR (gx_D E G μ) hS hA (a0 := (N, .inr (.inl (fun _ => 0)))) (fun cA => rfl) hn hN (by simp only [componentBytes]; omega) b1 b2 hd (fun q cA H1 hK1 hP1 hD1 hS1 => kk q H1 _ ?_ hP1 hD1 hS1)
  have hr := (hK1.2 8 (cA, .long) rfl).2
  have h0 := (hK.2 3 (E.2.1 3, .long) rfl).2
  have : cA = E.2.1 3 := Option.some.inj (hr.symm.trans h0)
  subst this
  unfold gx_ent
  rw [hf0]
  rfl
theorem s_anew {idx t : Nat} {C : String} {n : Int32} {N : Nat} (hO : gx_EO E) (hd : decode y.2.1 pc = .ok (.anewarray idx, 3)) (h1 : Jvm.Cond.classLink y.1.cls idx C ∈ gx_T) (ht : (t = 54 ∧ C = RX5) ∨ (t = 55 ∧ C = RX2) ∨ (t = 56 ∧ C = RX6) ∨ (t = 57 ∧ C = RX9)) (hn : ¬ n < 0) (hN : n.toNatClampNeg = N) (hN2 : N ≤ 60000000) :
    gS E l y d (pc, ls, .int n :: st, G, μ) (pc + 3, ls, .ref (E.2.2.1 + G.length) :: st, G ++ [(t, N, [])], μ) := by
  refine stp_a fun p e R s m args below meth c Q n0 cells slots C' b1 b2 H arr locs hR hS hA kk => ?_
  obtain ⟨hx, hb, -, -, hown, hts, -, -, -, -, hK, hX, -, -⟩ := C'
  have hti := fun (w : Cond) (h : w ∈ gx_T) => hts w (List.mem_cons_of_mem _ h)
  obtain ⟨o5, o2, o6, o9⟩ := hO s s.heap hX
  have hAO : va_AO C s := by rcases ht with ⟨-, rfl⟩ | ⟨-, rfl⟩ | ⟨-, rfl⟩ | ⟨-, rfl⟩ <;> assumption
  refine va_newq hx hb hown (hti _ h1) hAO hK hR (gx_D E G μ) hS hA hn hN (by omega) b1 b2 hd (fun q cA H1 hK1 hP1 hD1 hS1 => kk q H1 _ ?_ hP1 hD1 hS1)
  obtain ⟨-, -, -, -, -, hr⟩ := (hK1.2 8 (cA, .object C) rfl).2
  rcases ht with ⟨rfl, rfl⟩ | ⟨rfl, rfl⟩ | ⟨rfl, rfl⟩ | ⟨rfl, rfl⟩
  · obtain ⟨-, -, -, -, -, h0⟩ := (hK.2 4 (E.2.1 4, .object RX5) rfl).2
    have : cA = E.2.1 4 := Option.some.inj (hr.symm.trans h0)
    subst this
    rfl
  · obtain ⟨-, -, -, -, -, h0⟩ := (hK.2 5 (E.2.1 5, .object RX2) rfl).2
    have : cA = E.2.1 5 := Option.some.inj (hr.symm.trans h0)
    subst this
    rfl
  · obtain ⟨-, -, -, -, -, h0⟩ := (hK.2 6 (E.2.1 6, .object RX6) rfl).2
    have : cA = E.2.1 6 := Option.some.inj (hr.symm.trans h0)
    subst this
    rfl
  · obtain ⟨-, -, -, -, -, h0⟩ := (hK.2 7 (E.2.1 7, .object RX9) rfl).2
    have : cA = E.2.1 7 := Option.some.inj (hr.symm.trans h0)
    subst this
    rfl
end GXN
def gx_lsn : List (Option Nat) → Nat → Option Nat → List (Option Nat)
  | [], 0, v => [v]
  | [], n + 1, v => none :: gx_lsn [] n v
  | _ :: t, 0, v => v :: t
  | x :: t, n + 1, v => x :: gx_lsn t n v
theorem gx_lsn_get (ls : List (Option Nat)) (i : Nat) (v : Option Nat) (j : Nat) : (gx_lsn ls i v).getD j none = if j = i then v else ls.getD j none := by
  induction ls generalizing i j with
  | nil =>
    induction i generalizing j with
    | zero => cases j <;> simp [gx_lsn]
    | succ i ih =>
      cases j with
      | zero => simp [gx_lsn]
      | succ j => simpa [gx_lsn] using ih j
  | cons x t ih =>
    cases i with
    | zero => cases j <;> simp [gx_lsn]
    | succ i =>
      cases j with
      | zero => simp [gx_lsn]
      | succ j => simpa [gx_lsn] using ih i j
section GXP
variable {E : gx_E} {l : Launch} {y : gx_Y} {d : Nat} {pc : Nat} {ls : List (Option Value)} {st : List Value} {G : gx_G} {μ : gx_M}
/-- a step that changes one cell's shape -/
theorem stp_h {pc' : Nat} {st' : List Value} {a : Nat} {kd kd' : Nat × Nat × List (Option Nat)} {μ' : gx_M} (hG : G[a]? = some kd) (hsz : kd'.2.1 = kd.2.1)
    (h : ∀ (p : Program) (e : Env) (R : Room) (s : State) (m : MethodId) (args : Array Value) (below : List Frame) (meth : Method) (c : Code) (Q : State → Prop) (n0 cells slots : Nat), gx_C E y d n0 p R s m args meth c → ∀ (H : Heap) (arr : Array Slot) (locs : List Loc), gx_R E G μ H → va_S (fun q => E.2.2.1 ≤ q) s.heap H locs →
      (∀ (H' : Heap) (locs' : List Loc), gx_R E (G.set a kd') μ' H' → va_S (fun q => E.2.2.1 ≤ q) s.heap H' locs' → W p l e R s m args below meth c H' locs' cells slots Q (F0 m pc' arr st')) → W p l e R s m args below meth c H locs cells slots Q (F0 m pc arr st)) :
    gS E l y d (pc, ls, st, G, μ) (pc', ls, st', G.set a kd', μ') := by
  have hl : (G.set a kd').length = G.length := by simp
  have hs : gx_sz (G.set a kd') = gx_sz G := by
    have key : ∀ (G : gx_G) (a : Nat), G[a]? = some kd → gx_sz (G.set a kd') = gx_sz G := by
      intro G
      induction G with
      | nil => intro a ha; simp at ha
      | cons k g ih =>
        intro a ha
        cases a with
        | zero => simp at ha; subst ha; simp [gx_sz, hsz]
        | succ a => simp at ha; simp [gx_sz, ih a ha]
    exact key G a hG
  refine ⟨⟨by show G.length ≤ (G.set a kd').length; omega, by show gx_sz G ≤ gx_sz (G.set a kd'); omega⟩, fun p e R s m args below meth c n0 z0 Q C a1 a2 a3 a4 w H arr locs hlo hR hS => ?_⟩
  dsimp only at a1 a2 a3 a4 hlo hR ⊢
  refine h p e R s m args below meth c Q n0 _ _ C H arr locs hR hS (fun H' locs' hR' hS' => ?_)
  have k := w H' arr locs' hlo hR' hS'
  dsimp only at k
  rw [hl, hs] at k
  exact k
theorem s_putR {a ci k idx b : Nat} {refs : List (Option Nat)} (hd : decode y.2.1 pc = .ok (.putfield idx, 3)) (F : gx_FI y.1.cls idx ci k 4) (hf : (gx_TX ci k).2.2.2 = true) (hy : y.1.name = "<init>") (hdc : (gx_TX ci k).1 = y.1.cls) (hn : ∀ v, narrow (gx_tyf ci k) (.ref v) = .ref v) (hfit : ∀ v, fits (gx_tyf ci k) (.ref v) = true) (hG : G[a]? = some (ci, gx_NX ci, refs)) (hr : k < refs.length) :
    gS E l y d (pc, ls, .ref (E.2.2.1 + b) :: .ref (E.2.2.1 + a) :: st, G, μ) (pc + 3, ls, st, G.set a (ci, gx_NX ci, refs.set k (some b)), μ) := by
  obtain ⟨hc, hk, hw, hft⟩ := F
  refine stp_h hG rfl fun _ _ _ _ _ _ _ _ _ _ _ _ _ C H arr locs hR hS kk => ?_
  obtain ⟨hx, hb, -, -, hown, hts, -, hin, -, -, hK, -, -, -⟩ := C
  refine va_putF hx hb hts (fun w h => List.mem_cons_of_mem _ (gx_wsi ci hc w h)) (gx_tyf ci) (gx_tyi ci hc) (gx_nmi ci hc) hown hK hR (gx_D E G μ) hS a ((gx_at E μ hG).trans (by rw [gx_entO E μ a hc])) (gx_cli ci hc) k hk (hts _ (List.mem_cons_of_mem _ hw)) (fun _ h => h) hf (hin.trans hy) hdc (ty := gx_tyf ci k) (v := .ref (E.2.2.1 + b)) (gx_tyi ci hc k hk) (hn _) (hfit _) (by simpa using hk) hd (fun H1 locs1 hP1 _ hS1 => kk H1 locs1 ?_ hS1)
  show va_P E.1 gx_cl (gx_ws E (G.set a (ci, gx_NX ci, refs.set k (some b))) μ) H1
  rw [gx_set hG rfl (fun b kb hb _ => rfl), gx_entO E _ a hc, ← gx_rset (f := gx_fv E ci refs μ a) (k := k) (.ref (E.2.2.1 + b)) ?_]
  · exact hP1
  · intro j hj
    unfold gx_fv
    by_cases e : j = k
    · subst e
      rw [if_pos rfl, hft, if_pos rfl]
      simp [hr, va_rf]
    · rw [if_neg e]
      have : (refs.set k (some b)).getD j none = refs.getD j none := by
        simp [List.getD_eq_getElem?_getD, List.getElem?_set_ne (Ne.symm e)]
      rw [this]
theorem s_putFI {a ci k idx t : Nat} {refs : List (Option Nat)} {x : Int32} (hd : decode y.2.1 pc = .ok (.putfield idx, 3)) (F : gx_FI y.1.cls idx ci k t) (ht : t < 3) (hf : (gx_TX ci k).2.2.2 = true) (hy : y.1.name = "<init>") (hdc : (gx_TX ci k).1 = y.1.cls) (hty : gx_tyf ci k = .int) (hG : G[a]? = some (ci, gx_NX ci, refs)) :
    gS E l y d (pc, ls, .int x :: .ref (E.2.2.1 + a) :: st, G, μ) (pc + 3, ls, st, G, gx_uI μ a k x) := by
  obtain ⟨hc, hk, hw, hft⟩ := F
  refine stp_g fun _ _ _ _ _ _ _ _ _ _ _ _ _ C _ H arr locs hl hR hS kk => ?_
  obtain ⟨hx, hb, -, -, hown, hts, -, hin, -, -, hK, -, -, -⟩ := C
  refine va_putF hx hb hts (fun w h => List.mem_cons_of_mem _ (gx_wsi ci hc w h)) (gx_tyf ci) (gx_tyi ci hc) (gx_nmi ci hc) hown hK hR (gx_D E G μ) hS a ((gx_at E μ hG).trans (by rw [gx_entO E μ a hc])) (gx_cli ci hc) k hk (hts _ (List.mem_cons_of_mem _ hw)) (fun _ h => h) hf (hin.trans hy) hdc (ty := .int) (v := .int x) (by rw [gx_tyi ci hc k hk, hty]) rfl rfl (by simpa using hk) hd (fun H1 locs1 hP1 _ hS1 => kk H1 arr locs1 hl ?_ hS1)
  show va_P E.1 gx_cl (gx_ws E G (gx_uI μ a k x)) H1
  rw [gx_set hG (gx_set0 hG) (fun b kb hb _ => gx_otherI E μ x hb kb), gx_entO E _ a hc, ← gx_rset (f := gx_fv E ci refs μ a) (k := k) (.int x) ?_]
  · exact hP1
  · intro j hj
    unfold gx_fv gx_uI
    by_cases e : j = k
    · subst e
      rw [if_pos rfl, hft, if_neg (by omega), if_neg (by omega)]
      simp
    · simp [e]
theorem s_aast {a t n v ci : Nat} {refs rv : List (Option Nat)} {j : Int32} (hd : decode y.2.1 pc = .ok (.aastore, 1)) (hG : G[a]? = some (t, n, refs)) (hv : G[v]? = some (ci, gx_NX ci, rv)) (ht : (t = 54 ∧ ci = 5) ∨ (t = 55 ∧ ci = 2) ∨ (t = 56 ∧ ci = 6) ∨ (t = 57 ∧ ci = 9)) (hj : vp_in j n) :
    gS E l y d (pc, ls, .ref (E.2.2.1 + v) :: .int j :: .ref (E.2.2.1 + a) :: st, G, μ) (pc + 1, ls, st, G.set a (t, n, gx_lsn refs j.toNatClampNeg (some v)), μ) := by
  have hc : ci < 13 := by rcases ht with ⟨-, rfl⟩ | ⟨-, rfl⟩ | ⟨-, rfl⟩ | ⟨-, rfl⟩ <;> decide
  refine stp_h hG rfl fun _ _ _ _ _ _ _ _ _ _ _ _ _ C H arr locs hR hS kk => ?_
  obtain ⟨hx, hb, -, -, hown, hts, -, hin, -, -, hK, -, -, -⟩ := C
  have hvv := (gx_at E μ hv).trans (by rw [gx_entO E μ v hc])
  have key : ∀ (H1 : Heap), va_P E.1 gx_cl ((gx_ws E G μ).set a (E.2.2.1 + a, .inl (E.2.1 (t - 50), n, .inr (.inr (.inr (.inr (va_up (fun j => (refs.getD j none).map (fun q => E.2.2.1 + q)) j.toNatClampNeg (some (E.2.2.1 + v))))))))) H1 → gx_R E (G.set a (t, n, gx_lsn refs j.toNatClampNeg (some v))) μ H1 := by
    intro H1 hP1
    show va_P E.1 gx_cl (gx_ws E (G.set a (t, n, gx_lsn refs j.toNatClampNeg (some v))) μ) H1
    rw [gx_set hG rfl (fun b kb hb _ => rfl)]
    have e : gx_ent E μ a (t, n, gx_lsn refs j.toNatClampNeg (some v)) = .inl (E.2.1 (t - 50), n, .inr (.inr (.inr (.inr (va_up (fun j => (refs.getD j none).map (fun q => E.2.2.1 + q)) j.toNatClampNeg (some (E.2.2.1 + v))))))) := by
      unfold gx_ent
      rw [if_neg (by omega), if_neg (by omega), if_neg (by omega)]
      congr 7
      funext i
      rw [gx_lsn_get]
      unfold va_up
      by_cases e : i = j.toNatClampNeg
      · rw [if_pos e, if_pos e]; rfl
      · rw [if_neg e, if_neg e]
    rw [e]
    exact hP1
  rcases ht with ⟨rfl, rfl⟩ | ⟨rfl, rfl⟩ | ⟨rfl, rfl⟩ | ⟨rfl, rfl⟩
  · exact va_astq hx hb hK hR (gx_D E G μ) hS a 4 v 5 (f := fun j => (refs.getD j none).map (fun q => E.2.2.1 + q)) (gx_at E μ hG) rfl hvv (gx_cli 5 hc) hj hd (fun H1 locs1 hP1 _ hS1 => kk H1 locs1 (key H1 hP1) hS1)
  · exact va_astq hx hb hK hR (gx_D E G μ) hS a 5 v 2 (f := fun j => (refs.getD j none).map (fun q => E.2.2.1 + q)) (gx_at E μ hG) rfl hvv (gx_cli 2 hc) hj hd (fun H1 locs1 hP1 _ hS1 => kk H1 locs1 (key H1 hP1) hS1)
  · exact va_astq hx hb hK hR (gx_D E G μ) hS a 6 v 6 (f := fun j => (refs.getD j none).map (fun q => E.2.2.1 + q)) (gx_at E μ hG) rfl hvv (gx_cli 6 hc) hj hd (fun H1 locs1 hP1 _ hS1 => kk H1 locs1 (key H1 hP1) hS1)
  · exact va_astq hx hb hK hR (gx_D E G μ) hS a 7 v 9 (f := fun j => (refs.getD j none).map (fun q => E.2.2.1 + q)) (gx_at E μ hG) rfl hvv (gx_cli 9 hc) hj hd (fun H1 locs1 hP1 _ hS1 => kk H1 locs1 (key H1 hP1) hS1)
end GXP
