/-! the law's own script -/
def Y_law : gx_Y := (x, code, 4, some .boolean)
def gx_EB (E : gx_E) (b Ln : Nat) (xs : Nat → Int32) : Prop := ∀ (U : State) (H : Heap), E.2.2.2 U H → va_X b Ln xs U H ∧ ¬ E.2.2.1 ≤ b
section GXL
variable {E : gx_E} {l : Launch} {y : gx_Y} {d : Nat} {pc : Nat} {ls : List (Option Value)} {st : List Value} {G : gx_G} {μ : gx_M} {b Ln : Nat} {xs : Nat → Int32}
theorem s_sld (hB : gx_EB E b Ln xs) {j : Int32} (hd : decode y.2.1 pc = .ok (.iaload, 1)) (hj : vp_in j Ln) : gS E l y d (pc, ls, .int j :: .ref b :: st, G, μ) (pc + 1, ls, .int (xs j.toNatClampNeg) :: st, G, μ) := by
  refine stp_g fun _ _ _ s _ _ _ _ _ _ _ _ _ C _ H arr locs hl hR hS kk => ?_
  have kk' := kk H arr locs hl hR hS
  obtain ⟨hx, hb, -, -, hown, hts, -, -, -, -, -, hX, -, -⟩ := C
  obtain ⟨h1, h2⟩ := hB s s.heap hX
  obtain ⟨scr, h3, -⟩ := id h1
  exact va_sld hx hb h1 (Array.getElem?_eq_some_iff.mp h3).1 h2 hS hj hd kk'
theorem s_slen (hB : gx_EB E b Ln xs) (hd : decode y.2.1 pc = .ok (.arraylength, 1)) : gS E l y d (pc, ls, .ref b :: st, G, μ) (pc + 1, ls, .int (Int32.ofNat Ln) :: st, G, μ) := by
  refine stp_g fun _ _ _ s _ _ _ _ _ _ _ _ _ C _ H arr locs hl hR hS kk => ?_
  have kk' := kk H arr locs hl hR hS
  obtain ⟨hx, hb, -, -, hown, hts, -, -, -, -, -, hX, -, -⟩ := C
  obtain ⟨h1, h2⟩ := hB s s.heap hX
  obtain ⟨scr, h3, -⟩ := id h1
  exact va_slen hx hb h1 (Array.getElem?_eq_some_iff.mp h3).1 h2 hS hd kk'
end GXL
theorem gx_out_0_35 {x : Int32} (h0 : ¬ x = 0) (h1 : ¬ x = 1) (h2 : ¬ x = 2) (h3 : ¬ x = 3) (h4 : ¬ x = 4) (h5 : ¬ x = 5) (h6 : ¬ x = 6) (h7 : ¬ x = 7) (h8 : ¬ x = 8) (h9 : ¬ x = 9) (h10 : ¬ x = 10) (h11 : ¬ x = 11) (h12 : ¬ x = 12) (h13 : ¬ x = 13) (h14 : ¬ x = 14) (h15 : ¬ x = 15) (h16 : ¬ x = 16) (h17 : ¬ x = 17) (h18 : ¬ x = 18) (h19 : ¬ x = 19) (h20 : ¬ x = 20) (h21 : ¬ x = 21) (h22 : ¬ x = 22) (h23 : ¬ x = 23) (h24 : ¬ x = 24) (h25 : ¬ x = 25) (h26 : ¬ x = 26) (h27 : ¬ x = 27) (h28 : ¬ x = 28) (h29 : ¬ x = 29) (h30 : ¬ x = 30) (h31 : ¬ x = 31) (h32 : ¬ x = 32) (h33 : ¬ x = 33) (h34 : ¬ x = 34) : x.toInt < 0 ∨ 34 < x.toInt := by
  have g0 := lv_neT h0 (a := 0) (by decide)
  have g1 := lv_neT h1 (a := 1) (by decide)
  have g2 := lv_neT h2 (a := 2) (by decide)
  have g3 := lv_neT h3 (a := 3) (by decide)
  have g4 := lv_neT h4 (a := 4) (by decide)
  have g5 := lv_neT h5 (a := 5) (by decide)
  have g6 := lv_neT h6 (a := 6) (by decide)
  have g7 := lv_neT h7 (a := 7) (by decide)
  have g8 := lv_neT h8 (a := 8) (by decide)
  have g9 := lv_neT h9 (a := 9) (by decide)
  have g10 := lv_neT h10 (a := 10) (by decide)
  have g11 := lv_neT h11 (a := 11) (by decide)
  have g12 := lv_neT h12 (a := 12) (by decide)
  have g13 := lv_neT h13 (a := 13) (by decide)
  have g14 := lv_neT h14 (a := 14) (by decide)
  have g15 := lv_neT h15 (a := 15) (by decide)
  have g16 := lv_neT h16 (a := 16) (by decide)
  have g17 := lv_neT h17 (a := 17) (by decide)
  have g18 := lv_neT h18 (a := 18) (by decide)
  have g19 := lv_neT h19 (a := 19) (by decide)
  have g20 := lv_neT h20 (a := 20) (by decide)
  have g21 := lv_neT h21 (a := 21) (by decide)
  have g22 := lv_neT h22 (a := 22) (by decide)
  have g23 := lv_neT h23 (a := 23) (by decide)
  have g24 := lv_neT h24 (a := 24) (by decide)
  have g25 := lv_neT h25 (a := 25) (by decide)
  have g26 := lv_neT h26 (a := 26) (by decide)
  have g27 := lv_neT h27 (a := 27) (by decide)
  have g28 := lv_neT h28 (a := 28) (by decide)
  have g29 := lv_neT h29 (a := 29) (by decide)
  have g30 := lv_neT h30 (a := 30) (by decide)
  have g31 := lv_neT h31 (a := 31) (by decide)
  have g32 := lv_neT h32 (a := 32) (by decide)
  have g33 := lv_neT h33 (a := 33) (by decide)
  have g34 := lv_neT h34 (a := 34) (by decide)
  omega
theorem kci_6 : Int32.ofInt 6 = 6 := by decide
theorem kinc_6 (x : Int32) : x + Int32.ofInt 6 = x + 6 := by rw [kci_6]
theorem LB_X11_feed (own : String) (idx : Nat) : gx_LB own idx Y_X11_feed 5 := ⟨gx_in1 1 rfl rfl, gx_in2 212 rfl rfl, ⟨by decide +kernel, by decide +kernel, by decide +kernel⟩, by decide⟩
theorem Lk_RL_13 : gx_LV RL 13 Y_X11_feed 5 := ⟨LB_X11_feed _ _, gx_in2 209 rfl rfl, gx_in2 210 rfl rfl, gx_in2 211 rfl rfl⟩
theorem LB_X12_feed (own : String) (idx : Nat) : gx_LB own idx Y_X12_feed 5 := ⟨gx_in1 13 rfl rfl, gx_in7 26 rfl rfl, ⟨by decide +kernel, by decide +kernel, by decide +kernel⟩, by decide⟩
theorem Lk_RL_17 : gx_LV RL 17 Y_X12_feed 5 := ⟨LB_X12_feed _ _, gx_in7 23 rfl rfl, gx_in7 24 rfl rfl, gx_in7 25 rfl rfl⟩
theorem LB_X11_end (own : String) (idx : Nat) : gx_LB own idx Y_X11_end 1 := ⟨gx_in1 1 rfl rfl, gx_in2 220 rfl rfl, ⟨by decide +kernel, by decide +kernel, by decide +kernel⟩, by decide⟩
theorem Lk_RL_18 : gx_LV RL 18 Y_X11_end 1 := ⟨LB_X11_end _ _, gx_in2 217 rfl rfl, gx_in2 218 rfl rfl, gx_in2 219 rfl rfl⟩
theorem LB_X12_end (own : String) (idx : Nat) : gx_LB own idx Y_X12_end 1 := ⟨gx_in1 13 rfl rfl, gx_in7 34 rfl rfl, ⟨by decide +kernel, by decide +kernel, by decide +kernel⟩, by decide⟩
theorem Lk_RL_22 : gx_LV RL 22 Y_X12_end 1 := ⟨LB_X12_end _ _, gx_in7 31 rfl rfl, gx_in7 32 rfl rfl, gx_in7 33 rfl rfl⟩
theorem LB_X11_text (own : String) (idx : Nat) : gx_LB own idx Y_X11_text 2 := ⟨gx_in1 1 rfl rfl, gx_in2 224 rfl rfl, ⟨by decide +kernel, by decide +kernel, by decide +kernel⟩, by decide⟩
theorem Lk_RL_23 : gx_LV RL 23 Y_X11_text 2 := ⟨LB_X11_text _ _, gx_in2 221 rfl rfl, gx_in2 222 rfl rfl, gx_in2 223 rfl rfl⟩
theorem LB_X12_text (own : String) (idx : Nat) : gx_LB own idx Y_X12_text 2 := ⟨gx_in1 13 rfl rfl, gx_in7 41 rfl rfl, ⟨by decide +kernel, by decide +kernel, by decide +kernel⟩, by decide⟩
theorem Lk_RL_27 : gx_LV RL 27 Y_X12_text 2 := ⟨LB_X12_text _ _, gx_in7 38 rfl rfl, gx_in7 39 rfl rfl, gx_in7 40 rfl rfl⟩
theorem LB_X11_fault (own : String) (idx : Nat) : gx_LB own idx Y_X11_fault 1 := ⟨gx_in1 1 rfl rfl, gx_in3 220 rfl rfl, ⟨by decide +kernel, by decide +kernel, by decide +kernel⟩, by decide⟩
theorem Lk_RL_28 : gx_LV RL 28 Y_X11_fault 1 := ⟨LB_X11_fault _ _, gx_in3 217 rfl rfl, gx_in3 218 rfl rfl, gx_in3 219 rfl rfl⟩
theorem LB_X12_fault (own : String) (idx : Nat) : gx_LB own idx Y_X12_fault 1 := ⟨gx_in1 13 rfl rfl, gx_in7 156 rfl rfl, ⟨by decide +kernel, by decide +kernel, by decide +kernel⟩, by decide⟩
theorem Lk_RL_31 : gx_LV RL 31 Y_X12_fault 1 := ⟨LB_X12_fault _ _, gx_in7 153 rfl rfl, gx_in7 154 rfl rfl, gx_in7 155 rfl rfl⟩
theorem LB_X11_street (own : String) (idx : Nat) : gx_LB own idx Y_X11_street 2 := ⟨gx_in1 1 rfl rfl, gx_in4 1 rfl rfl, ⟨by decide +kernel, by decide +kernel, by decide +kernel⟩, by decide⟩
theorem Lk_RL_32 : gx_LV RL 32 Y_X11_street 2 := ⟨LB_X11_street _ _, gx_in3 238 rfl rfl, gx_in3 239 rfl rfl, gx_in4 0 rfl rfl⟩
theorem LB_X12_street (own : String) (idx : Nat) : gx_LB own idx Y_X12_street 2 := ⟨gx_in1 13 rfl rfl, gx_in7 160 rfl rfl, ⟨by decide +kernel, by decide +kernel, by decide +kernel⟩, by decide⟩
theorem Lk_RL_35 : gx_LV RL 35 Y_X12_street 2 := ⟨LB_X12_street _ _, gx_in7 157 rfl rfl, gx_in7 158 rfl rfl, gx_in7 159 rfl rfl⟩
theorem LB_X11_deed (own : String) (idx : Nat) : gx_LB own idx Y_X11_deed 3 := ⟨gx_in1 1 rfl rfl, gx_in4 15 rfl rfl, ⟨by decide +kernel, by decide +kernel, by decide +kernel⟩, by decide⟩
theorem Lk_RL_36 : gx_LV RL 36 Y_X11_deed 3 := ⟨LB_X11_deed _ _, gx_in4 12 rfl rfl, gx_in4 13 rfl rfl, gx_in4 14 rfl rfl⟩
theorem LB_X12_deed (own : String) (idx : Nat) : gx_LB own idx Y_X12_deed 3 := ⟨gx_in1 13 rfl rfl, gx_in7 172 rfl rfl, ⟨by decide +kernel, by decide +kernel, by decide +kernel⟩, by decide⟩
theorem Lk_RL_40 : gx_LV RL 40 Y_X12_deed 3 := ⟨LB_X12_deed _ _, gx_in7 169 rfl rfl, gx_in7 170 rfl rfl, gx_in7 171 rfl rfl⟩
theorem Lk_RL_41 : gx_LV RL 41 Y_X11_till 2 := ⟨LB_X11_till _ _, gx_in4 24 rfl rfl, gx_in4 25 rfl rfl, gx_in4 26 rfl rfl⟩
theorem LB_X12_till (own : String) (idx : Nat) : gx_LB own idx Y_X12_till 2 := ⟨gx_in1 13 rfl rfl, gx_in7 188 rfl rfl, ⟨by decide +kernel, by decide +kernel, by decide +kernel⟩, by decide⟩
theorem Lk_RL_44 : gx_LV RL 44 Y_X12_till 2 := ⟨LB_X12_till _ _, gx_in7 185 rfl rfl, gx_in7 186 rfl rfl, gx_in7 187 rfl rfl⟩
theorem LB_X11_state (own : String) (idx : Nat) : gx_LB own idx Y_X11_state 4 := ⟨gx_in1 1 rfl rfl, gx_in4 103 rfl rfl, ⟨by decide +kernel, by decide +kernel, by decide +kernel⟩, by decide⟩
theorem Lk_RL_45 : gx_LV RL 45 Y_X11_state 4 := ⟨LB_X11_state _ _, gx_in4 100 rfl rfl, gx_in4 101 rfl rfl, gx_in4 102 rfl rfl⟩
theorem LB_X12_state (own : String) (idx : Nat) : gx_LB own idx Y_X12_state 4 := ⟨gx_in1 13 rfl rfl, gx_in8 16 rfl rfl, ⟨by decide +kernel, by decide +kernel, by decide +kernel⟩, by decide⟩
theorem Lk_RL_49 : gx_LV RL 49 Y_X12_state 4 := ⟨LB_X12_state _ _, gx_in8 13 rfl rfl, gx_in8 14 rfl rfl, gx_in8 15 rfl rfl⟩
theorem LB_X11_run (own : String) (idx : Nat) : gx_LB own idx Y_X11_run 4 := ⟨gx_in1 1 rfl rfl, gx_in4 183 rfl rfl, ⟨by decide +kernel, by decide +kernel, by decide +kernel⟩, by decide⟩
theorem Lk_RL_50 : gx_LV RL 50 Y_X11_run 4 := ⟨LB_X11_run _ _, gx_in4 180 rfl rfl, gx_in4 181 rfl rfl, gx_in4 182 rfl rfl⟩
theorem LB_X12_run (own : String) (idx : Nat) : gx_LB own idx Y_X12_run 4 := ⟨gx_in1 13 rfl rfl, gx_in8 32 rfl rfl, ⟨by decide +kernel, by decide +kernel, by decide +kernel⟩, by decide⟩
theorem Lk_RL_54 : gx_LV RL 54 Y_X12_run 4 := ⟨LB_X12_run _ _, gx_in8 29 rfl rfl, gx_in8 30 rfl rfl, gx_in8 31 rfl rfl⟩
theorem LB_X11_errands (own : String) (idx : Nat) : gx_LB own idx Y_X11_errands 4 := ⟨gx_in1 1 rfl rfl, gx_in4 228 rfl rfl, ⟨by decide +kernel, by decide +kernel, by decide +kernel⟩, by decide⟩
theorem Lk_RL_55 : gx_LV RL 55 Y_X11_errands 4 := ⟨LB_X11_errands _ _, gx_in4 225 rfl rfl, gx_in4 226 rfl rfl, gx_in4 227 rfl rfl⟩
theorem LB_X12_errands (own : String) (idx : Nat) : gx_LB own idx Y_X12_errands 4 := ⟨gx_in1 13 rfl rfl, gx_in8 52 rfl rfl, ⟨by decide +kernel, by decide +kernel, by decide +kernel⟩, by decide⟩
theorem Lk_RL_58 : gx_LV RL 58 Y_X12_errands 4 := ⟨LB_X12_errands _ _, gx_in8 49 rfl rfl, gx_in8 50 rfl rfl, gx_in8 51 rfl rfl⟩
theorem LB_X11_plan (own : String) (idx : Nat) : gx_LB own idx Y_X11_plan 3 := ⟨gx_in1 1 rfl rfl, gx_in5 31 rfl rfl, ⟨by decide +kernel, by decide +kernel, by decide +kernel⟩, by decide⟩
theorem Lk_RL_59 : gx_LV RL 59 Y_X11_plan 3 := ⟨LB_X11_plan _ _, gx_in5 28 rfl rfl, gx_in5 29 rfl rfl, gx_in5 30 rfl rfl⟩
theorem LB_X12_plan (own : String) (idx : Nat) : gx_LB own idx Y_X12_plan 3 := ⟨gx_in1 13 rfl rfl, gx_in8 75 rfl rfl, ⟨by decide +kernel, by decide +kernel, by decide +kernel⟩, by decide⟩
theorem Lk_RL_63 : gx_LV RL 63 Y_X12_plan 3 := ⟨LB_X12_plan _ _, gx_in8 72 rfl rfl, gx_in8 73 rfl rfl, gx_in8 74 rfl rfl⟩
theorem LB_X11_halves (own : String) (idx : Nat) : gx_LB own idx Y_X11_halves 2 := ⟨gx_in1 1 rfl rfl, gx_in5 129 rfl rfl, ⟨by decide +kernel, by decide +kernel, by decide +kernel⟩, by decide⟩
theorem Lk_RL_64 : gx_LV RL 64 Y_X11_halves 2 := ⟨LB_X11_halves _ _, gx_in5 126 rfl rfl, gx_in5 127 rfl rfl, gx_in5 128 rfl rfl⟩
theorem LB_X12_halves (own : String) (idx : Nat) : gx_LB own idx Y_X12_halves 2 := ⟨gx_in1 13 rfl rfl, gx_in8 90 rfl rfl, ⟨by decide +kernel, by decide +kernel, by decide +kernel⟩, by decide⟩
theorem Lk_RL_68 : gx_LV RL 68 Y_X12_halves 2 := ⟨LB_X12_halves _ _, gx_in8 87 rfl rfl, gx_in8 88 rfl rfl, gx_in8 89 rfl rfl⟩
theorem LB_X11_free (own : String) (idx : Nat) : gx_LB own idx Y_X11_free 3 := ⟨gx_in1 1 rfl rfl, gx_in5 141 rfl rfl, ⟨by decide +kernel, by decide +kernel, by decide +kernel⟩, by decide⟩
theorem Lk_RL_69 : gx_LV RL 69 Y_X11_free 3 := ⟨LB_X11_free _ _, gx_in5 138 rfl rfl, gx_in5 139 rfl rfl, gx_in5 140 rfl rfl⟩
theorem LB_X12_free (own : String) (idx : Nat) : gx_LB own idx Y_X12_free 3 := ⟨gx_in1 13 rfl rfl, gx_in8 98 rfl rfl, ⟨by decide +kernel, by decide +kernel, by decide +kernel⟩, by decide⟩
theorem Lk_RL_72 : gx_LV RL 72 Y_X12_free 3 := ⟨LB_X12_free _ _, gx_in8 95 rfl rfl, gx_in8 96 rfl rfl, gx_in8 97 rfl rfl⟩
theorem LB_X11_corner (own : String) (idx : Nat) : gx_LB own idx Y_X11_corner 3 := ⟨gx_in1 1 rfl rfl, gx_in5 145 rfl rfl, ⟨by decide +kernel, by decide +kernel, by decide +kernel⟩, by decide⟩
theorem Lk_RL_73 : gx_LV RL 73 Y_X11_corner 3 := ⟨LB_X11_corner _ _, gx_in5 142 rfl rfl, gx_in5 143 rfl rfl, gx_in5 144 rfl rfl⟩
theorem LB_X12_corner (own : String) (idx : Nat) : gx_LB own idx Y_X12_corner 3 := ⟨gx_in1 13 rfl rfl, gx_in8 102 rfl rfl, ⟨by decide +kernel, by decide +kernel, by decide +kernel⟩, by decide⟩
theorem Lk_RL_76 : gx_LV RL 76 Y_X12_corner 3 := ⟨LB_X12_corner _ _, gx_in8 99 rfl rfl, gx_in8 100 rfl rfl, gx_in8 101 rfl rfl⟩
theorem LB_X11_tin (own : String) (idx : Nat) : gx_LB own idx Y_X11_tin 4 := ⟨gx_in1 1 rfl rfl, gx_in5 182 rfl rfl, ⟨by decide +kernel, by decide +kernel, by decide +kernel⟩, by decide⟩
theorem Lk_RL_77 : gx_LV RL 77 Y_X11_tin 4 := ⟨LB_X11_tin _ _, gx_in5 179 rfl rfl, gx_in5 180 rfl rfl, gx_in5 181 rfl rfl⟩
theorem LB_X12_tin (own : String) (idx : Nat) : gx_LB own idx Y_X12_tin 4 := ⟨gx_in1 13 rfl rfl, gx_in8 138 rfl rfl, ⟨by decide +kernel, by decide +kernel, by decide +kernel⟩, by decide⟩
theorem Lk_RL_81 : gx_LV RL 81 Y_X12_tin 4 := ⟨LB_X12_tin _ _, gx_in8 135 rfl rfl, gx_in8 136 rfl rfl, gx_in8 137 rfl rfl⟩
theorem LB_X11_waits (own : String) (idx : Nat) : gx_LB own idx Y_X11_waits 2 := ⟨gx_in1 1 rfl rfl, gx_in5 207 rfl rfl, ⟨by decide +kernel, by decide +kernel, by decide +kernel⟩, by decide⟩
theorem Lk_RL_82 : gx_LV RL 82 Y_X11_waits 2 := ⟨LB_X11_waits _ _, gx_in5 204 rfl rfl, gx_in5 205 rfl rfl, gx_in5 206 rfl rfl⟩
theorem LB_X12_waits (own : String) (idx : Nat) : gx_LB own idx Y_X12_waits 2 := ⟨gx_in1 13 rfl rfl, gx_in8 155 rfl rfl, ⟨by decide +kernel, by decide +kernel, by decide +kernel⟩, by decide⟩
theorem Lk_RL_86 : gx_LV RL 86 Y_X12_waits 2 := ⟨LB_X12_waits _ _, gx_in8 152 rfl rfl, gx_in8 153 rfl rfl, gx_in8 154 rfl rfl⟩
theorem LB_X11_fact (own : String) (idx : Nat) : gx_LB own idx Y_X11_fact 3 := ⟨gx_in1 1 rfl rfl, gx_in5 220 rfl rfl, ⟨by decide +kernel, by decide +kernel, by decide +kernel⟩, by decide⟩
theorem Lk_RL_87 : gx_LV RL 87 Y_X11_fact 3 := ⟨LB_X11_fact _ _, gx_in5 217 rfl rfl, gx_in5 218 rfl rfl, gx_in5 219 rfl rfl⟩
theorem LB_X12_fact (own : String) (idx : Nat) : gx_LB own idx Y_X12_fact 3 := ⟨gx_in1 13 rfl rfl, gx_in8 159 rfl rfl, ⟨by decide +kernel, by decide +kernel, by decide +kernel⟩, by decide⟩
theorem Lk_RL_90 : gx_LV RL 90 Y_X12_fact 3 := ⟨LB_X12_fact _ _, gx_in8 156 rfl rfl, gx_in8 157 rfl rfl, gx_in8 158 rfl rfl⟩
theorem LB_X11_fits (own : String) (idx : Nat) : gx_LB own idx Y_X11_fits 2 := ⟨gx_in1 1 rfl rfl, gx_in5 228 rfl rfl, ⟨by decide +kernel, by decide +kernel, by decide +kernel⟩, by decide⟩
theorem Lk_RL_91 : gx_LV RL 91 Y_X11_fits 2 := ⟨LB_X11_fits _ _, gx_in5 225 rfl rfl, gx_in5 226 rfl rfl, gx_in5 227 rfl rfl⟩
theorem LB_X12_fits (own : String) (idx : Nat) : gx_LB own idx Y_X12_fits 2 := ⟨gx_in1 13 rfl rfl, gx_in8 171 rfl rfl, ⟨by decide +kernel, by decide +kernel, by decide +kernel⟩, by decide⟩
theorem Lk_RL_94 : gx_LV RL 94 Y_X12_fits 2 := ⟨LB_X12_fits _ _, gx_in8 168 rfl rfl, gx_in8 169 rfl rfl, gx_in8 170 rfl rfl⟩
theorem LB_X11_swap (own : String) (idx : Nat) : gx_LB own idx Y_X11_swap 2 := ⟨gx_in1 1 rfl rfl, gx_in6 29 rfl rfl, ⟨by decide +kernel, by decide +kernel, by decide +kernel⟩, by decide⟩
theorem Lk_RL_95 : gx_LV RL 95 Y_X11_swap 2 := ⟨LB_X11_swap _ _, gx_in6 26 rfl rfl, gx_in6 27 rfl rfl, gx_in6 28 rfl rfl⟩
theorem LB_X12_swap (own : String) (idx : Nat) : gx_LB own idx Y_X12_swap 2 := ⟨gx_in1 13 rfl rfl, gx_in8 191 rfl rfl, ⟨by decide +kernel, by decide +kernel, by decide +kernel⟩, by decide⟩
theorem Lk_RL_98 : gx_LV RL 98 Y_X12_swap 2 := ⟨LB_X12_swap _ _, gx_in8 188 rfl rfl, gx_in8 189 rfl rfl, gx_in8 190 rfl rfl⟩
theorem LB_X11_drawn (own : String) (idx : Nat) : gx_LB own idx Y_X11_drawn 4 := ⟨gx_in1 1 rfl rfl, gx_in4 159 rfl rfl, ⟨by decide +kernel, by decide +kernel, by decide +kernel⟩, by decide⟩
theorem Lk_RL_99 : gx_LV RL 99 Y_X11_drawn 4 := ⟨LB_X11_drawn _ _, gx_in4 156 rfl rfl, gx_in4 157 rfl rfl, gx_in4 158 rfl rfl⟩
theorem LB_X12_drawn (own : String) (idx : Nat) : gx_LB own idx Y_X12_drawn 4 := ⟨gx_in1 13 rfl rfl, gx_in8 219 rfl rfl, ⟨by decide +kernel, by decide +kernel, by decide +kernel⟩, by decide⟩
theorem Lk_RL_102 : gx_LV RL 102 Y_X12_drawn 4 := ⟨LB_X12_drawn _ _, gx_in8 216 rfl rfl, gx_in8 217 rfl rfl, gx_in8 218 rfl rfl⟩
theorem LB_X11_robbed (own : String) (idx : Nat) : gx_LB own idx Y_X11_robbed 3 := ⟨gx_in1 1 rfl rfl, gx_in5 178 rfl rfl, ⟨by decide +kernel, by decide +kernel, by decide +kernel⟩, by decide⟩
theorem Lk_RL_103 : gx_LV RL 103 Y_X11_robbed 3 := ⟨LB_X11_robbed _ _, gx_in5 175 rfl rfl, gx_in5 176 rfl rfl, gx_in5 177 rfl rfl⟩
theorem LB_X12_robbed (own : String) (idx : Nat) : gx_LB own idx Y_X12_robbed 3 := ⟨gx_in1 13 rfl rfl, gx_in8 232 rfl rfl, ⟨by decide +kernel, by decide +kernel, by decide +kernel⟩, by decide⟩
theorem Lk_RL_106 : gx_LV RL 106 Y_X12_robbed 3 := ⟨LB_X12_robbed _ _, gx_in8 229 rfl rfl, gx_in8 230 rfl rfl, gx_in8 231 rfl rfl⟩
theorem LB_X11_shared (own : String) (idx : Nat) : gx_LB own idx Y_X11_shared 3 := ⟨gx_in1 1 rfl rfl, gx_in5 110 rfl rfl, ⟨by decide +kernel, by decide +kernel, by decide +kernel⟩, by decide⟩
theorem Lk_RL_107 : gx_LV RL 107 Y_X11_shared 3 := ⟨LB_X11_shared _ _, gx_in5 107 rfl rfl, gx_in5 108 rfl rfl, gx_in5 109 rfl rfl⟩
theorem LB_X12_shared (own : String) (idx : Nat) : gx_LB own idx Y_X12_shared 3 := ⟨gx_in1 13 rfl rfl, gx_in8 236 rfl rfl, ⟨by decide +kernel, by decide +kernel, by decide +kernel⟩, by decide⟩
theorem Lk_RL_110 : gx_LV RL 110 Y_X12_shared 3 := ⟨LB_X12_shared _ _, gx_in8 233 rfl rfl, gx_in8 234 rfl rfl, gx_in8 235 rfl rfl⟩
theorem LB_X11_gift (own : String) (idx : Nat) : gx_LB own idx Y_X11_gift 4 := ⟨gx_in1 1 rfl rfl, gx_in5 66 rfl rfl, ⟨by decide +kernel, by decide +kernel, by decide +kernel⟩, by decide⟩
theorem Lk_RL_111 : gx_LV RL 111 Y_X11_gift 4 := ⟨LB_X11_gift _ _, gx_in5 63 rfl rfl, gx_in5 64 rfl rfl, gx_in5 65 rfl rfl⟩
theorem LB_X12_gift (own : String) (idx : Nat) : gx_LB own idx Y_X12_gift 4 := ⟨gx_in1 13 rfl rfl, gx_in9 4 rfl rfl, ⟨by decide +kernel, by decide +kernel, by decide +kernel⟩, by decide⟩
theorem Lk_RL_114 : gx_LV RL 114 Y_X12_gift 4 := ⟨LB_X12_gift _ _, gx_in9 1 rfl rfl, gx_in9 2 rfl rfl, gx_in9 3 rfl rfl⟩
theorem LB_X11_missed (own : String) (idx : Nat) : gx_LB own idx Y_X11_missed 3 := ⟨gx_in1 1 rfl rfl, gx_in5 60 rfl rfl, ⟨by decide +kernel, by decide +kernel, by decide +kernel⟩, by decide⟩
theorem Lk_RL_115 : gx_LV RL 115 Y_X11_missed 3 := ⟨LB_X11_missed _ _, gx_in5 57 rfl rfl, gx_in5 58 rfl rfl, gx_in5 59 rfl rfl⟩
theorem LB_X12_missed (own : String) (idx : Nat) : gx_LB own idx Y_X12_missed 3 := ⟨gx_in1 13 rfl rfl, gx_in9 8 rfl rfl, ⟨by decide +kernel, by decide +kernel, by decide +kernel⟩, by decide⟩
theorem Lk_RL_118 : gx_LV RL 118 Y_X12_missed 3 := ⟨LB_X12_missed _ _, gx_in9 5 rfl rfl, gx_in9 6 rfl rfl, gx_in9 7 rfl rfl⟩
theorem LB_X11_wanted (own : String) (idx : Nat) : gx_LB own idx Y_X11_wanted 2 := ⟨gx_in1 1 rfl rfl, gx_in5 119 rfl rfl, ⟨by decide +kernel, by decide +kernel, by decide +kernel⟩, by decide⟩
theorem Lk_RL_119 : gx_LV RL 119 Y_X11_wanted 2 := ⟨LB_X11_wanted _ _, gx_in5 116 rfl rfl, gx_in5 117 rfl rfl, gx_in5 118 rfl rfl⟩
theorem LB_X12_wanted (own : String) (idx : Nat) : gx_LB own idx Y_X12_wanted 2 := ⟨gx_in1 13 rfl rfl, gx_in9 12 rfl rfl, ⟨by decide +kernel, by decide +kernel, by decide +kernel⟩, by decide⟩
theorem Lk_RL_122 : gx_LV RL 122 Y_X12_wanted 2 := ⟨LB_X12_wanted _ _, gx_in9 9 rfl rfl, gx_in9 10 rfl rfl, gx_in9 11 rfl rfl⟩
theorem LB_X11_left (own : String) (idx : Nat) : gx_LB own idx Y_X11_left 2 := ⟨gx_in1 1 rfl rfl, gx_in5 56 rfl rfl, ⟨by decide +kernel, by decide +kernel, by decide +kernel⟩, by decide⟩
theorem Lk_RL_123 : gx_LV RL 123 Y_X11_left 2 := ⟨LB_X11_left _ _, gx_in5 53 rfl rfl, gx_in5 54 rfl rfl, gx_in5 55 rfl rfl⟩
theorem LB_X12_left (own : String) (idx : Nat) : gx_LB own idx Y_X12_left 2 := ⟨gx_in1 13 rfl rfl, gx_in9 16 rfl rfl, ⟨by decide +kernel, by decide +kernel, by decide +kernel⟩, by decide⟩
theorem Lk_RL_126 : gx_LV RL 126 Y_X12_left 2 := ⟨LB_X12_left _ _, gx_in9 13 rfl rfl, gx_in9 14 rfl rfl, gx_in9 15 rfl rfl⟩
theorem LB_X11_early (own : String) (idx : Nat) : gx_LB own idx Y_X11_early 3 := ⟨gx_in1 1 rfl rfl, gx_in5 88 rfl rfl, ⟨by decide +kernel, by decide +kernel, by decide +kernel⟩, by decide⟩
theorem Lk_RL_127 : gx_LV RL 127 Y_X11_early 3 := ⟨LB_X11_early _ _, gx_in5 85 rfl rfl, gx_in5 86 rfl rfl, gx_in5 87 rfl rfl⟩
theorem LB_X12_early (own : String) (idx : Nat) : gx_LB own idx Y_X12_early 3 := ⟨gx_in1 13 rfl rfl, gx_in9 20 rfl rfl, ⟨by decide +kernel, by decide +kernel, by decide +kernel⟩, by decide⟩
theorem Lk_RL_130 : gx_LV RL 130 Y_X12_early 3 := ⟨LB_X12_early _ _, gx_in9 17 rfl rfl, gx_in9 18 rfl rfl, gx_in9 19 rfl rfl⟩
theorem LB_X11_ranked (own : String) (idx : Nat) : gx_LB own idx Y_X11_ranked 3 := ⟨gx_in1 1 rfl rfl, gx_in5 97 rfl rfl, ⟨by decide +kernel, by decide +kernel, by decide +kernel⟩, by decide⟩
theorem Lk_RL_131 : gx_LV RL 131 Y_X11_ranked 3 := ⟨LB_X11_ranked _ _, gx_in5 94 rfl rfl, gx_in5 95 rfl rfl, gx_in5 96 rfl rfl⟩
theorem LB_X12_ranked (own : String) (idx : Nat) : gx_LB own idx Y_X12_ranked 3 := ⟨gx_in1 13 rfl rfl, gx_in9 24 rfl rfl, ⟨by decide +kernel, by decide +kernel, by decide +kernel⟩, by decide⟩
theorem Lk_RL_134 : gx_LV RL 134 Y_X12_ranked 3 := ⟨LB_X12_ranked _ _, gx_in9 21 rfl rfl, gx_in9 22 rfl rfl, gx_in9 23 rfl rfl⟩
theorem LB_X11_enough (own : String) (idx : Nat) : gx_LB own idx Y_X11_enough 2 := ⟨gx_in1 1 rfl rfl, gx_in5 202 rfl rfl, ⟨by decide +kernel, by decide +kernel, by decide +kernel⟩, by decide⟩
theorem Lk_RL_135 : gx_LV RL 135 Y_X11_enough 2 := ⟨LB_X11_enough _ _, gx_in5 199 rfl rfl, gx_in5 200 rfl rfl, gx_in5 201 rfl rfl⟩
theorem LB_X12_enough (own : String) (idx : Nat) : gx_LB own idx Y_X12_enough 2 := ⟨gx_in1 13 rfl rfl, gx_in9 32 rfl rfl, ⟨by decide +kernel, by decide +kernel, by decide +kernel⟩, by decide⟩
theorem Lk_RL_138 : gx_LV RL 138 Y_X12_enough 2 := ⟨LB_X12_enough _ _, gx_in9 29 rfl rfl, gx_in9 30 rfl rfl, gx_in9 31 rfl rfl⟩
theorem LB_X11_after (own : String) (idx : Nat) : gx_LB own idx Y_X11_after 3 := ⟨gx_in1 1 rfl rfl, gx_in4 138 rfl rfl, ⟨by decide +kernel, by decide +kernel, by decide +kernel⟩, by decide⟩
theorem Lk_RL_139 : gx_LV RL 139 Y_X11_after 3 := ⟨LB_X11_after _ _, gx_in4 135 rfl rfl, gx_in4 136 rfl rfl, gx_in4 137 rfl rfl⟩
theorem LB_X12_after (own : String) (idx : Nat) : gx_LB own idx Y_X12_after 3 := ⟨gx_in1 13 rfl rfl, gx_in9 37 rfl rfl, ⟨by decide +kernel, by decide +kernel, by decide +kernel⟩, by decide⟩
theorem Lk_RL_142 : gx_LV RL 142 Y_X12_after 3 := ⟨LB_X12_after _ _, gx_in9 34 rfl rfl, gx_in9 35 rfl rfl, gx_in9 36 rfl rfl⟩
theorem LB_X11_span (own : String) (idx : Nat) : gx_LB own idx Y_X11_span 2 := ⟨gx_in1 1 rfl rfl, gx_in6 21 rfl rfl, ⟨by decide +kernel, by decide +kernel, by decide +kernel⟩, by decide⟩
theorem Lk_RL_143 : gx_LV RL 143 Y_X11_span 2 := ⟨LB_X11_span _ _, gx_in6 18 rfl rfl, gx_in6 19 rfl rfl, gx_in6 20 rfl rfl⟩
theorem LB_X12_span (own : String) (idx : Nat) : gx_LB own idx Y_X12_span 2 := ⟨gx_in1 13 rfl rfl, gx_in9 53 rfl rfl, ⟨by decide +kernel, by decide +kernel, by decide +kernel⟩, by decide⟩
theorem Lk_RL_146 : gx_LV RL 146 Y_X12_span 2 := ⟨LB_X12_span _ _, gx_in9 50 rfl rfl, gx_in9 51 rfl rfl, gx_in9 52 rfl rfl⟩
theorem LB_X11_happy (own : String) (idx : Nat) : gx_LB own idx Y_X11_happy 2 := ⟨gx_in1 1 rfl rfl, gx_in6 67 rfl rfl, ⟨by decide +kernel, by decide +kernel, by decide +kernel⟩, by decide⟩
theorem Lk_RL_147 : gx_LV RL 147 Y_X11_happy 2 := ⟨LB_X11_happy _ _, gx_in6 64 rfl rfl, gx_in6 65 rfl rfl, gx_in6 66 rfl rfl⟩
theorem LB_X12_happy (own : String) (idx : Nat) : gx_LB own idx Y_X12_happy 2 := ⟨gx_in1 13 rfl rfl, gx_in9 57 rfl rfl, ⟨by decide +kernel, by decide +kernel, by decide +kernel⟩, by decide⟩
theorem Lk_RL_150 : gx_LV RL 150 Y_X12_happy 2 := ⟨LB_X12_happy _ _, gx_in9 54 rfl rfl, gx_in9 55 rfl rfl, gx_in9 56 rfl rfl⟩
theorem LB_X11_count (own : String) (idx : Nat) : gx_LB own idx Y_X11_count 1 := ⟨gx_in1 1 rfl rfl, gx_in3 224 rfl rfl, ⟨by decide +kernel, by decide +kernel, by decide +kernel⟩, by decide⟩
theorem Lk_RL_151 : gx_LV RL 151 Y_X11_count 1 := ⟨LB_X11_count _ _, gx_in3 221 rfl rfl, gx_in3 222 rfl rfl, gx_in3 223 rfl rfl⟩
theorem LB_X12_count (own : String) (idx : Nat) : gx_LB own idx Y_X12_count 1 := ⟨gx_in1 13 rfl rfl, gx_in9 65 rfl rfl, ⟨by decide +kernel, by decide +kernel, by decide +kernel⟩, by decide⟩
theorem Lk_RL_154 : gx_LV RL 154 Y_X12_count 1 := ⟨LB_X12_count _ _, gx_in9 62 rfl rfl, gx_in9 63 rfl rfl, gx_in9 64 rfl rfl⟩
theorem LB_X11_image (own : String) (idx : Nat) : gx_LB own idx Y_X11_image 1 := ⟨gx_in1 1 rfl rfl, gx_in3 228 rfl rfl, ⟨by decide +kernel, by decide +kernel, by decide +kernel⟩, by decide⟩
theorem Lk_RL_155 : gx_LV RL 155 Y_X11_image 1 := ⟨LB_X11_image _ _, gx_in3 225 rfl rfl, gx_in3 226 rfl rfl, gx_in3 227 rfl rfl⟩
theorem LB_X12_image (own : String) (idx : Nat) : gx_LB own idx Y_X12_image 1 := ⟨gx_in1 13 rfl rfl, gx_in9 69 rfl rfl, ⟨by decide +kernel, by decide +kernel, by decide +kernel⟩, by decide⟩
theorem Lk_RL_159 : gx_LV RL 159 Y_X12_image 1 := ⟨LB_X12_image _ _, gx_in9 66 rfl rfl, gx_in9 67 rfl rfl, gx_in9 68 rfl rfl⟩
theorem LB_X11_again (own : String) (idx : Nat) : gx_LB own idx Y_X11_again 1 := ⟨gx_in1 1 rfl rfl, gx_in3 237 rfl rfl, ⟨by decide +kernel, by decide +kernel, by decide +kernel⟩, by decide⟩
theorem Lk_RL_160 : gx_LV RL 160 Y_X11_again 1 := ⟨LB_X11_again _ _, gx_in3 234 rfl rfl, gx_in3 235 rfl rfl, gx_in3 236 rfl rfl⟩
theorem LB_X12_again (own : String) (idx : Nat) : gx_LB own idx Y_X12_again 1 := ⟨gx_in1 13 rfl rfl, gx_in9 80 rfl rfl, ⟨by decide +kernel, by decide +kernel, by decide +kernel⟩, by decide⟩
theorem Lk_RL_163 : gx_LV RL 163 Y_X12_again 1 := ⟨LB_X12_again _ _, gx_in9 77 rfl rfl, gx_in9 78 rfl rfl, gx_in9 79 rfl rfl⟩
theorem dL_law_0 : decode code 0 = .ok (.new 7, 3) := by decide +kernel
theorem dL_law_3 : decode code 3 = .ok (.dup, 1) := by decide +kernel
theorem dL_law_4 : decode code 4 = .ok (.invokespecial 9, 3) := by decide +kernel
theorem dL_law_7 : decode code 7 = .ok (.astore_n 1, 1) := by decide +kernel
theorem dL_law_8 : decode code 8 = .ok (.new 10, 3) := by decide +kernel
theorem dL_law_11 : decode code 11 = .ok (.dup, 1) := by decide +kernel
theorem dL_law_12 : decode code 12 = .ok (.invokespecial 12, 3) := by decide +kernel
theorem dL_law_15 : decode code 15 = .ok (.astore_n 2, 1) := by decide +kernel
theorem dL_law_16 : decode code 16 = .ok (.iconst 0, 1) := by decide +kernel
theorem dL_law_17 : decode code 17 = .ok (.istore_n 3, 1) := by decide +kernel
theorem dL_law_18 : decode code 18 = .ok (.iload_n 3, 1) := by decide +kernel
theorem dL_law_19 : decode code 19 = .ok (.aload_n 0, 1) := by decide +kernel
theorem dL_law_20 : decode code 20 = .ok (.arraylength, 1) := by decide +kernel
theorem dL_law_21 : decode code 21 = .ok (.bipush 6, 2) := by decide +kernel
theorem dL_law_23 : decode code 23 = .ok (.isub, 1) := by decide +kernel
theorem dL_law_24 : decode code 24 = .ok (.if_icmp .gt 1649, 3) := by decide +kernel
theorem dL_law_27 : decode code 27 = .ok (.aload_n 0, 1) := by decide +kernel
theorem dL_law_28 : decode code 28 = .ok (.iload_n 3, 1) := by decide +kernel
theorem dL_law_29 : decode code 29 = .ok (.iaload, 1) := by decide +kernel
theorem dL_law_30 : decode code 30 = .ok (.bipush 63, 2) := by decide +kernel
theorem dL_law_32 : decode code 32 = .ok (.iand, 1) := by decide +kernel
theorem dL_law_33 : decode code 33 = .ok (.tableswitch 1634 0 34 #[155, 218, 241, 274, 297, 330, 373, 406, 459, 528, 581, 640, 689, 748, 791, 861, 895, 938, 971, 1004, 1057, 1100, 1143, 1212, 1255, 1304, 1337, 1380, 1423, 1456, 1499, 1532, 1565, 1588, 1611], 155) := by decide +kernel
theorem dL_law_188 : decode code 188 = .ok (.aload_n 1, 1) := by decide +kernel
theorem dL_law_189 : decode code 189 = .ok (.aload_n 0, 1) := by decide +kernel
theorem dL_law_190 : decode code 190 = .ok (.iload_n 3, 1) := by decide +kernel
theorem dL_law_191 : decode code 191 = .ok (.iconst 1, 1) := by decide +kernel
theorem dL_law_192 : decode code 192 = .ok (.iadd, 1) := by decide +kernel
theorem dL_law_193 : decode code 193 = .ok (.iaload, 1) := by decide +kernel
theorem dL_law_194 : decode code 194 = .ok (.aload_n 0, 1) := by decide +kernel
theorem dL_law_195 : decode code 195 = .ok (.iload_n 3, 1) := by decide +kernel
theorem dL_law_196 : decode code 196 = .ok (.iconst 2, 1) := by decide +kernel
theorem dL_law_197 : decode code 197 = .ok (.iadd, 1) := by decide +kernel
theorem dL_law_198 : decode code 198 = .ok (.iaload, 1) := by decide +kernel
theorem dL_law_199 : decode code 199 = .ok (.aload_n 0, 1) := by decide +kernel
theorem dL_law_200 : decode code 200 = .ok (.iload_n 3, 1) := by decide +kernel
theorem dL_law_201 : decode code 201 = .ok (.iconst 3, 1) := by decide +kernel
theorem dL_law_202 : decode code 202 = .ok (.iadd, 1) := by decide +kernel
theorem dL_law_203 : decode code 203 = .ok (.iaload, 1) := by decide +kernel
theorem dL_law_204 : decode code 204 = .ok (.aload_n 0, 1) := by decide +kernel
theorem dL_law_205 : decode code 205 = .ok (.iload_n 3, 1) := by decide +kernel
theorem dL_law_206 : decode code 206 = .ok (.iconst 4, 1) := by decide +kernel
theorem dL_law_207 : decode code 207 = .ok (.iadd, 1) := by decide +kernel
theorem dL_law_208 : decode code 208 = .ok (.iaload, 1) := by decide +kernel
theorem dL_law_209 : decode code 209 = .ok (.aload_n 0, 1) := by decide +kernel
theorem dL_law_210 : decode code 210 = .ok (.iload_n 3, 1) := by decide +kernel
theorem dL_law_211 : decode code 211 = .ok (.iconst 5, 1) := by decide +kernel
theorem dL_law_212 : decode code 212 = .ok (.iadd, 1) := by decide +kernel
theorem dL_law_213 : decode code 213 = .ok (.iaload, 1) := by decide +kernel
theorem dL_law_214 : decode code 214 = .ok (.invokevirtual 13, 3) := by decide +kernel
theorem dL_law_217 : decode code 217 = .ok (.aload_n 2, 1) := by decide +kernel
theorem dL_law_218 : decode code 218 = .ok (.aload_n 0, 1) := by decide +kernel
theorem dL_law_219 : decode code 219 = .ok (.iload_n 3, 1) := by decide +kernel
theorem dL_law_220 : decode code 220 = .ok (.iconst 1, 1) := by decide +kernel
theorem dL_law_221 : decode code 221 = .ok (.iadd, 1) := by decide +kernel
theorem dL_law_222 : decode code 222 = .ok (.iaload, 1) := by decide +kernel
theorem dL_law_223 : decode code 223 = .ok (.aload_n 0, 1) := by decide +kernel
theorem dL_law_224 : decode code 224 = .ok (.iload_n 3, 1) := by decide +kernel
theorem dL_law_225 : decode code 225 = .ok (.iconst 2, 1) := by decide +kernel
theorem dL_law_226 : decode code 226 = .ok (.iadd, 1) := by decide +kernel
theorem dL_law_227 : decode code 227 = .ok (.iaload, 1) := by decide +kernel
theorem dL_law_228 : decode code 228 = .ok (.aload_n 0, 1) := by decide +kernel
theorem dL_law_229 : decode code 229 = .ok (.iload_n 3, 1) := by decide +kernel
theorem dL_law_230 : decode code 230 = .ok (.iconst 3, 1) := by decide +kernel
theorem dL_law_231 : decode code 231 = .ok (.iadd, 1) := by decide +kernel
theorem dL_law_232 : decode code 232 = .ok (.iaload, 1) := by decide +kernel
theorem dL_law_233 : decode code 233 = .ok (.aload_n 0, 1) := by decide +kernel
theorem dL_law_234 : decode code 234 = .ok (.iload_n 3, 1) := by decide +kernel
theorem dL_law_235 : decode code 235 = .ok (.iconst 4, 1) := by decide +kernel
theorem dL_law_236 : decode code 236 = .ok (.iadd, 1) := by decide +kernel
theorem dL_law_237 : decode code 237 = .ok (.iaload, 1) := by decide +kernel
theorem dL_law_238 : decode code 238 = .ok (.aload_n 0, 1) := by decide +kernel
theorem dL_law_239 : decode code 239 = .ok (.iload_n 3, 1) := by decide +kernel
theorem dL_law_240 : decode code 240 = .ok (.iconst 5, 1) := by decide +kernel
theorem dL_law_241 : decode code 241 = .ok (.iadd, 1) := by decide +kernel
theorem dL_law_242 : decode code 242 = .ok (.iaload, 1) := by decide +kernel
theorem dL_law_243 : decode code 243 = .ok (.invokevirtual 17, 3) := by decide +kernel
theorem dL_law_246 : decode code 246 = .ok (.if_icmp .eq 1421, 3) := by decide +kernel
theorem dL_law_249 : decode code 249 = .ok (.iconst 0, 1) := by decide +kernel
theorem dL_law_250 : decode code 250 = .ok (.ireturn, 1) := by decide +kernel
theorem dL_law_251 : decode code 251 = .ok (.aload_n 1, 1) := by decide +kernel
theorem dL_law_252 : decode code 252 = .ok (.aload_n 0, 1) := by decide +kernel
theorem dL_law_253 : decode code 253 = .ok (.iload_n 3, 1) := by decide +kernel
theorem dL_law_254 : decode code 254 = .ok (.iconst 1, 1) := by decide +kernel
theorem dL_law_255 : decode code 255 = .ok (.iadd, 1) := by decide +kernel
theorem dL_law_256 : decode code 256 = .ok (.iaload, 1) := by decide +kernel
theorem dL_law_257 : decode code 257 = .ok (.invokevirtual 18, 3) := by decide +kernel
theorem dL_law_260 : decode code 260 = .ok (.aload_n 2, 1) := by decide +kernel
theorem dL_law_261 : decode code 261 = .ok (.aload_n 0, 1) := by decide +kernel
theorem dL_law_262 : decode code 262 = .ok (.iload_n 3, 1) := by decide +kernel
theorem dL_law_263 : decode code 263 = .ok (.iconst 1, 1) := by decide +kernel
theorem dL_law_264 : decode code 264 = .ok (.iadd, 1) := by decide +kernel
theorem dL_law_265 : decode code 265 = .ok (.iaload, 1) := by decide +kernel
theorem dL_law_266 : decode code 266 = .ok (.invokevirtual 22, 3) := by decide +kernel
theorem dL_law_269 : decode code 269 = .ok (.if_icmp .eq 1398, 3) := by decide +kernel
theorem dL_law_272 : decode code 272 = .ok (.iconst 0, 1) := by decide +kernel
theorem dL_law_273 : decode code 273 = .ok (.ireturn, 1) := by decide +kernel
theorem dL_law_274 : decode code 274 = .ok (.aload_n 1, 1) := by decide +kernel
theorem dL_law_275 : decode code 275 = .ok (.aload_n 0, 1) := by decide +kernel
theorem dL_law_276 : decode code 276 = .ok (.iload_n 3, 1) := by decide +kernel
theorem dL_law_277 : decode code 277 = .ok (.iconst 1, 1) := by decide +kernel
theorem dL_law_278 : decode code 278 = .ok (.iadd, 1) := by decide +kernel
theorem dL_law_279 : decode code 279 = .ok (.iaload, 1) := by decide +kernel
theorem dL_law_280 : decode code 280 = .ok (.aload_n 0, 1) := by decide +kernel
theorem dL_law_281 : decode code 281 = .ok (.iload_n 3, 1) := by decide +kernel
theorem dL_law_282 : decode code 282 = .ok (.iconst 2, 1) := by decide +kernel
theorem dL_law_283 : decode code 283 = .ok (.iadd, 1) := by decide +kernel
theorem dL_law_284 : decode code 284 = .ok (.iaload, 1) := by decide +kernel
theorem dL_law_285 : decode code 285 = .ok (.invokevirtual 23, 3) := by decide +kernel
theorem dL_law_288 : decode code 288 = .ok (.aload_n 2, 1) := by decide +kernel
theorem dL_law_289 : decode code 289 = .ok (.aload_n 0, 1) := by decide +kernel
theorem dL_law_290 : decode code 290 = .ok (.iload_n 3, 1) := by decide +kernel
theorem dL_law_291 : decode code 291 = .ok (.iconst 1, 1) := by decide +kernel
theorem dL_law_292 : decode code 292 = .ok (.iadd, 1) := by decide +kernel
theorem dL_law_293 : decode code 293 = .ok (.iaload, 1) := by decide +kernel
theorem dL_law_294 : decode code 294 = .ok (.aload_n 0, 1) := by decide +kernel
theorem dL_law_295 : decode code 295 = .ok (.iload_n 3, 1) := by decide +kernel
theorem dL_law_296 : decode code 296 = .ok (.iconst 2, 1) := by decide +kernel
theorem dL_law_297 : decode code 297 = .ok (.iadd, 1) := by decide +kernel
theorem dL_law_298 : decode code 298 = .ok (.iaload, 1) := by decide +kernel
theorem dL_law_299 : decode code 299 = .ok (.invokevirtual 27, 3) := by decide +kernel
theorem dL_law_302 : decode code 302 = .ok (.if_icmp .eq 1365, 3) := by decide +kernel
theorem dL_law_305 : decode code 305 = .ok (.iconst 0, 1) := by decide +kernel
theorem dL_law_306 : decode code 306 = .ok (.ireturn, 1) := by decide +kernel
theorem dL_law_307 : decode code 307 = .ok (.aload_n 1, 1) := by decide +kernel
theorem dL_law_308 : decode code 308 = .ok (.aload_n 0, 1) := by decide +kernel
theorem dL_law_309 : decode code 309 = .ok (.iload_n 3, 1) := by decide +kernel
theorem dL_law_310 : decode code 310 = .ok (.iconst 1, 1) := by decide +kernel
theorem dL_law_311 : decode code 311 = .ok (.iadd, 1) := by decide +kernel
theorem dL_law_312 : decode code 312 = .ok (.iaload, 1) := by decide +kernel
theorem dL_law_313 : decode code 313 = .ok (.invokevirtual 28, 3) := by decide +kernel
theorem dL_law_316 : decode code 316 = .ok (.aload_n 2, 1) := by decide +kernel
theorem dL_law_317 : decode code 317 = .ok (.aload_n 0, 1) := by decide +kernel
theorem dL_law_318 : decode code 318 = .ok (.iload_n 3, 1) := by decide +kernel
theorem dL_law_319 : decode code 319 = .ok (.iconst 1, 1) := by decide +kernel
theorem dL_law_320 : decode code 320 = .ok (.iadd, 1) := by decide +kernel
theorem dL_law_321 : decode code 321 = .ok (.iaload, 1) := by decide +kernel
theorem dL_law_322 : decode code 322 = .ok (.invokevirtual 31, 3) := by decide +kernel
theorem dL_law_325 : decode code 325 = .ok (.if_icmp .eq 1342, 3) := by decide +kernel
theorem dL_law_328 : decode code 328 = .ok (.iconst 0, 1) := by decide +kernel
theorem dL_law_329 : decode code 329 = .ok (.ireturn, 1) := by decide +kernel
theorem dL_law_330 : decode code 330 = .ok (.aload_n 1, 1) := by decide +kernel
theorem dL_law_331 : decode code 331 = .ok (.aload_n 0, 1) := by decide +kernel
theorem dL_law_332 : decode code 332 = .ok (.iload_n 3, 1) := by decide +kernel
theorem dL_law_333 : decode code 333 = .ok (.iconst 1, 1) := by decide +kernel
theorem dL_law_334 : decode code 334 = .ok (.iadd, 1) := by decide +kernel
theorem dL_law_335 : decode code 335 = .ok (.iaload, 1) := by decide +kernel
theorem dL_law_336 : decode code 336 = .ok (.aload_n 0, 1) := by decide +kernel
theorem dL_law_337 : decode code 337 = .ok (.iload_n 3, 1) := by decide +kernel
theorem dL_law_338 : decode code 338 = .ok (.iconst 2, 1) := by decide +kernel
theorem dL_law_339 : decode code 339 = .ok (.iadd, 1) := by decide +kernel
theorem dL_law_340 : decode code 340 = .ok (.iaload, 1) := by decide +kernel
theorem dL_law_341 : decode code 341 = .ok (.invokevirtual 32, 3) := by decide +kernel
theorem dL_law_344 : decode code 344 = .ok (.aload_n 2, 1) := by decide +kernel
theorem dL_law_345 : decode code 345 = .ok (.aload_n 0, 1) := by decide +kernel
theorem dL_law_346 : decode code 346 = .ok (.iload_n 3, 1) := by decide +kernel
theorem dL_law_347 : decode code 347 = .ok (.iconst 1, 1) := by decide +kernel
theorem dL_law_348 : decode code 348 = .ok (.iadd, 1) := by decide +kernel
theorem dL_law_349 : decode code 349 = .ok (.iaload, 1) := by decide +kernel
theorem dL_law_350 : decode code 350 = .ok (.aload_n 0, 1) := by decide +kernel
theorem dL_law_351 : decode code 351 = .ok (.iload_n 3, 1) := by decide +kernel
theorem dL_law_352 : decode code 352 = .ok (.iconst 2, 1) := by decide +kernel
theorem dL_law_353 : decode code 353 = .ok (.iadd, 1) := by decide +kernel
theorem dL_law_354 : decode code 354 = .ok (.iaload, 1) := by decide +kernel
theorem dL_law_355 : decode code 355 = .ok (.invokevirtual 35, 3) := by decide +kernel
theorem dL_law_358 : decode code 358 = .ok (.if_icmp .eq 1309, 3) := by decide +kernel
theorem dL_law_361 : decode code 361 = .ok (.iconst 0, 1) := by decide +kernel
theorem dL_law_362 : decode code 362 = .ok (.ireturn, 1) := by decide +kernel
theorem dL_law_363 : decode code 363 = .ok (.aload_n 1, 1) := by decide +kernel
theorem dL_law_364 : decode code 364 = .ok (.aload_n 0, 1) := by decide +kernel
theorem dL_law_365 : decode code 365 = .ok (.iload_n 3, 1) := by decide +kernel
theorem dL_law_366 : decode code 366 = .ok (.iconst 1, 1) := by decide +kernel
theorem dL_law_367 : decode code 367 = .ok (.iadd, 1) := by decide +kernel
theorem dL_law_368 : decode code 368 = .ok (.iaload, 1) := by decide +kernel
theorem dL_law_369 : decode code 369 = .ok (.aload_n 0, 1) := by decide +kernel
theorem dL_law_370 : decode code 370 = .ok (.iload_n 3, 1) := by decide +kernel
theorem dL_law_371 : decode code 371 = .ok (.iconst 2, 1) := by decide +kernel
theorem dL_law_372 : decode code 372 = .ok (.iadd, 1) := by decide +kernel
theorem dL_law_373 : decode code 373 = .ok (.iaload, 1) := by decide +kernel
theorem dL_law_374 : decode code 374 = .ok (.aload_n 0, 1) := by decide +kernel
theorem dL_law_375 : decode code 375 = .ok (.iload_n 3, 1) := by decide +kernel
theorem dL_law_376 : decode code 376 = .ok (.iconst 3, 1) := by decide +kernel
theorem dL_law_377 : decode code 377 = .ok (.iadd, 1) := by decide +kernel
theorem dL_law_378 : decode code 378 = .ok (.iaload, 1) := by decide +kernel
theorem dL_law_379 : decode code 379 = .ok (.invokevirtual 36, 3) := by decide +kernel
theorem dL_law_382 : decode code 382 = .ok (.aload_n 2, 1) := by decide +kernel
theorem dL_law_383 : decode code 383 = .ok (.aload_n 0, 1) := by decide +kernel
theorem dL_law_384 : decode code 384 = .ok (.iload_n 3, 1) := by decide +kernel
theorem dL_law_385 : decode code 385 = .ok (.iconst 1, 1) := by decide +kernel
theorem dL_law_386 : decode code 386 = .ok (.iadd, 1) := by decide +kernel
theorem dL_law_387 : decode code 387 = .ok (.iaload, 1) := by decide +kernel
theorem dL_law_388 : decode code 388 = .ok (.aload_n 0, 1) := by decide +kernel
theorem dL_law_389 : decode code 389 = .ok (.iload_n 3, 1) := by decide +kernel
theorem dL_law_390 : decode code 390 = .ok (.iconst 2, 1) := by decide +kernel
theorem dL_law_391 : decode code 391 = .ok (.iadd, 1) := by decide +kernel
theorem dL_law_392 : decode code 392 = .ok (.iaload, 1) := by decide +kernel
theorem dL_law_393 : decode code 393 = .ok (.aload_n 0, 1) := by decide +kernel
theorem dL_law_394 : decode code 394 = .ok (.iload_n 3, 1) := by decide +kernel
theorem dL_law_395 : decode code 395 = .ok (.iconst 3, 1) := by decide +kernel
theorem dL_law_396 : decode code 396 = .ok (.iadd, 1) := by decide +kernel
theorem dL_law_397 : decode code 397 = .ok (.iaload, 1) := by decide +kernel
theorem dL_law_398 : decode code 398 = .ok (.invokevirtual 40, 3) := by decide +kernel
theorem dL_law_401 : decode code 401 = .ok (.if_icmp .eq 1266, 3) := by decide +kernel
theorem dL_law_404 : decode code 404 = .ok (.iconst 0, 1) := by decide +kernel
theorem dL_law_405 : decode code 405 = .ok (.ireturn, 1) := by decide +kernel
theorem dL_law_406 : decode code 406 = .ok (.aload_n 1, 1) := by decide +kernel
theorem dL_law_407 : decode code 407 = .ok (.aload_n 0, 1) := by decide +kernel
theorem dL_law_408 : decode code 408 = .ok (.iload_n 3, 1) := by decide +kernel
theorem dL_law_409 : decode code 409 = .ok (.iconst 1, 1) := by decide +kernel
theorem dL_law_410 : decode code 410 = .ok (.iadd, 1) := by decide +kernel
theorem dL_law_411 : decode code 411 = .ok (.iaload, 1) := by decide +kernel
theorem dL_law_412 : decode code 412 = .ok (.aload_n 0, 1) := by decide +kernel
theorem dL_law_413 : decode code 413 = .ok (.iload_n 3, 1) := by decide +kernel
theorem dL_law_414 : decode code 414 = .ok (.iconst 2, 1) := by decide +kernel
theorem dL_law_415 : decode code 415 = .ok (.iadd, 1) := by decide +kernel
theorem dL_law_416 : decode code 416 = .ok (.iaload, 1) := by decide +kernel
theorem dL_law_417 : decode code 417 = .ok (.invokevirtual 41, 3) := by decide +kernel
theorem dL_law_420 : decode code 420 = .ok (.aload_n 2, 1) := by decide +kernel
theorem dL_law_421 : decode code 421 = .ok (.aload_n 0, 1) := by decide +kernel
theorem dL_law_422 : decode code 422 = .ok (.iload_n 3, 1) := by decide +kernel
theorem dL_law_423 : decode code 423 = .ok (.iconst 1, 1) := by decide +kernel
theorem dL_law_424 : decode code 424 = .ok (.iadd, 1) := by decide +kernel
theorem dL_law_425 : decode code 425 = .ok (.iaload, 1) := by decide +kernel
theorem dL_law_426 : decode code 426 = .ok (.aload_n 0, 1) := by decide +kernel
theorem dL_law_427 : decode code 427 = .ok (.iload_n 3, 1) := by decide +kernel
theorem dL_law_428 : decode code 428 = .ok (.iconst 2, 1) := by decide +kernel
theorem dL_law_429 : decode code 429 = .ok (.iadd, 1) := by decide +kernel
theorem dL_law_430 : decode code 430 = .ok (.iaload, 1) := by decide +kernel
theorem dL_law_431 : decode code 431 = .ok (.invokevirtual 44, 3) := by decide +kernel
theorem dL_law_434 : decode code 434 = .ok (.if_icmp .eq 1233, 3) := by decide +kernel
theorem dL_law_437 : decode code 437 = .ok (.iconst 0, 1) := by decide +kernel
theorem dL_law_438 : decode code 438 = .ok (.ireturn, 1) := by decide +kernel
theorem dL_law_439 : decode code 439 = .ok (.aload_n 1, 1) := by decide +kernel
theorem dL_law_440 : decode code 440 = .ok (.aload_n 0, 1) := by decide +kernel
theorem dL_law_441 : decode code 441 = .ok (.iload_n 3, 1) := by decide +kernel
theorem dL_law_442 : decode code 442 = .ok (.iconst 1, 1) := by decide +kernel
theorem dL_law_443 : decode code 443 = .ok (.iadd, 1) := by decide +kernel
theorem dL_law_444 : decode code 444 = .ok (.iaload, 1) := by decide +kernel
theorem dL_law_445 : decode code 445 = .ok (.aload_n 0, 1) := by decide +kernel
theorem dL_law_446 : decode code 446 = .ok (.iload_n 3, 1) := by decide +kernel
theorem dL_law_447 : decode code 447 = .ok (.iconst 2, 1) := by decide +kernel
theorem dL_law_448 : decode code 448 = .ok (.iadd, 1) := by decide +kernel
theorem dL_law_449 : decode code 449 = .ok (.iaload, 1) := by decide +kernel
theorem dL_law_450 : decode code 450 = .ok (.aload_n 0, 1) := by decide +kernel
theorem dL_law_451 : decode code 451 = .ok (.iload_n 3, 1) := by decide +kernel
theorem dL_law_452 : decode code 452 = .ok (.iconst 3, 1) := by decide +kernel
theorem dL_law_453 : decode code 453 = .ok (.iadd, 1) := by decide +kernel
theorem dL_law_454 : decode code 454 = .ok (.iaload, 1) := by decide +kernel
theorem dL_law_455 : decode code 455 = .ok (.aload_n 0, 1) := by decide +kernel
theorem dL_law_456 : decode code 456 = .ok (.iload_n 3, 1) := by decide +kernel
theorem dL_law_457 : decode code 457 = .ok (.iconst 4, 1) := by decide +kernel
theorem dL_law_458 : decode code 458 = .ok (.iadd, 1) := by decide +kernel
theorem dL_law_459 : decode code 459 = .ok (.iaload, 1) := by decide +kernel
theorem dL_law_460 : decode code 460 = .ok (.invokevirtual 45, 3) := by decide +kernel
theorem dL_law_463 : decode code 463 = .ok (.aload_n 2, 1) := by decide +kernel
theorem dL_law_464 : decode code 464 = .ok (.aload_n 0, 1) := by decide +kernel
theorem dL_law_465 : decode code 465 = .ok (.iload_n 3, 1) := by decide +kernel
theorem dL_law_466 : decode code 466 = .ok (.iconst 1, 1) := by decide +kernel
theorem dL_law_467 : decode code 467 = .ok (.iadd, 1) := by decide +kernel
theorem dL_law_468 : decode code 468 = .ok (.iaload, 1) := by decide +kernel
theorem dL_law_469 : decode code 469 = .ok (.aload_n 0, 1) := by decide +kernel
theorem dL_law_470 : decode code 470 = .ok (.iload_n 3, 1) := by decide +kernel
theorem dL_law_471 : decode code 471 = .ok (.iconst 2, 1) := by decide +kernel
theorem dL_law_472 : decode code 472 = .ok (.iadd, 1) := by decide +kernel
theorem dL_law_473 : decode code 473 = .ok (.iaload, 1) := by decide +kernel
theorem dL_law_474 : decode code 474 = .ok (.aload_n 0, 1) := by decide +kernel
theorem dL_law_475 : decode code 475 = .ok (.iload_n 3, 1) := by decide +kernel
theorem dL_law_476 : decode code 476 = .ok (.iconst 3, 1) := by decide +kernel
theorem dL_law_477 : decode code 477 = .ok (.iadd, 1) := by decide +kernel
theorem dL_law_478 : decode code 478 = .ok (.iaload, 1) := by decide +kernel
theorem dL_law_479 : decode code 479 = .ok (.aload_n 0, 1) := by decide +kernel
theorem dL_law_480 : decode code 480 = .ok (.iload_n 3, 1) := by decide +kernel
theorem dL_law_481 : decode code 481 = .ok (.iconst 4, 1) := by decide +kernel
theorem dL_law_482 : decode code 482 = .ok (.iadd, 1) := by decide +kernel
theorem dL_law_483 : decode code 483 = .ok (.iaload, 1) := by decide +kernel
theorem dL_law_484 : decode code 484 = .ok (.invokevirtual 49, 3) := by decide +kernel
theorem dL_law_487 : decode code 487 = .ok (.if_icmp .eq 1180, 3) := by decide +kernel
theorem dL_law_490 : decode code 490 = .ok (.iconst 0, 1) := by decide +kernel
theorem dL_law_491 : decode code 491 = .ok (.ireturn, 1) := by decide +kernel
theorem dL_law_492 : decode code 492 = .ok (.aload_n 1, 1) := by decide +kernel
theorem dL_law_493 : decode code 493 = .ok (.aload_n 0, 1) := by decide +kernel
theorem dL_law_494 : decode code 494 = .ok (.iload_n 3, 1) := by decide +kernel
theorem dL_law_495 : decode code 495 = .ok (.iconst 1, 1) := by decide +kernel
theorem dL_law_496 : decode code 496 = .ok (.iadd, 1) := by decide +kernel
theorem dL_law_497 : decode code 497 = .ok (.iaload, 1) := by decide +kernel
theorem dL_law_498 : decode code 498 = .ok (.aload_n 0, 1) := by decide +kernel
theorem dL_law_499 : decode code 499 = .ok (.iload_n 3, 1) := by decide +kernel
theorem dL_law_500 : decode code 500 = .ok (.iconst 2, 1) := by decide +kernel
theorem dL_law_501 : decode code 501 = .ok (.iadd, 1) := by decide +kernel
theorem dL_law_502 : decode code 502 = .ok (.iaload, 1) := by decide +kernel
theorem dL_law_503 : decode code 503 = .ok (.aload_n 0, 1) := by decide +kernel
theorem dL_law_504 : decode code 504 = .ok (.iload_n 3, 1) := by decide +kernel
theorem dL_law_505 : decode code 505 = .ok (.iconst 3, 1) := by decide +kernel
theorem dL_law_506 : decode code 506 = .ok (.iadd, 1) := by decide +kernel
theorem dL_law_507 : decode code 507 = .ok (.iaload, 1) := by decide +kernel
theorem dL_law_508 : decode code 508 = .ok (.aload_n 0, 1) := by decide +kernel
theorem dL_law_509 : decode code 509 = .ok (.iload_n 3, 1) := by decide +kernel
theorem dL_law_510 : decode code 510 = .ok (.iconst 4, 1) := by decide +kernel
theorem dL_law_511 : decode code 511 = .ok (.iadd, 1) := by decide +kernel
theorem dL_law_512 : decode code 512 = .ok (.iaload, 1) := by decide +kernel
theorem dL_law_513 : decode code 513 = .ok (.ifCond .eq 7, 3) := by decide +kernel
theorem dL_law_516 : decode code 516 = .ok (.iconst 1, 1) := by decide +kernel
theorem dL_law_517 : decode code 517 = .ok (.goto 4, 3) := by decide +kernel
theorem dL_law_520 : decode code 520 = .ok (.iconst 0, 1) := by decide +kernel
theorem dL_law_521 : decode code 521 = .ok (.invokevirtual 50, 3) := by decide +kernel
theorem dL_law_524 : decode code 524 = .ok (.aload_n 2, 1) := by decide +kernel
theorem dL_law_525 : decode code 525 = .ok (.aload_n 0, 1) := by decide +kernel
theorem dL_law_526 : decode code 526 = .ok (.iload_n 3, 1) := by decide +kernel
theorem dL_law_527 : decode code 527 = .ok (.iconst 1, 1) := by decide +kernel
theorem dL_law_528 : decode code 528 = .ok (.iadd, 1) := by decide +kernel
theorem dL_law_529 : decode code 529 = .ok (.iaload, 1) := by decide +kernel
theorem dL_law_530 : decode code 530 = .ok (.aload_n 0, 1) := by decide +kernel
theorem dL_law_531 : decode code 531 = .ok (.iload_n 3, 1) := by decide +kernel
theorem dL_law_532 : decode code 532 = .ok (.iconst 2, 1) := by decide +kernel
theorem dL_law_533 : decode code 533 = .ok (.iadd, 1) := by decide +kernel
theorem dL_law_534 : decode code 534 = .ok (.iaload, 1) := by decide +kernel
theorem dL_law_535 : decode code 535 = .ok (.aload_n 0, 1) := by decide +kernel
theorem dL_law_536 : decode code 536 = .ok (.iload_n 3, 1) := by decide +kernel
theorem dL_law_537 : decode code 537 = .ok (.iconst 3, 1) := by decide +kernel
theorem dL_law_538 : decode code 538 = .ok (.iadd, 1) := by decide +kernel
theorem dL_law_539 : decode code 539 = .ok (.iaload, 1) := by decide +kernel
theorem dL_law_540 : decode code 540 = .ok (.aload_n 0, 1) := by decide +kernel
theorem dL_law_541 : decode code 541 = .ok (.iload_n 3, 1) := by decide +kernel
theorem dL_law_542 : decode code 542 = .ok (.iconst 4, 1) := by decide +kernel
theorem dL_law_543 : decode code 543 = .ok (.iadd, 1) := by decide +kernel
theorem dL_law_544 : decode code 544 = .ok (.iaload, 1) := by decide +kernel
theorem dL_law_545 : decode code 545 = .ok (.ifCond .eq 7, 3) := by decide +kernel
theorem dL_law_548 : decode code 548 = .ok (.iconst 1, 1) := by decide +kernel
theorem dL_law_549 : decode code 549 = .ok (.goto 4, 3) := by decide +kernel
theorem dL_law_552 : decode code 552 = .ok (.iconst 0, 1) := by decide +kernel
theorem dL_law_553 : decode code 553 = .ok (.invokevirtual 54, 3) := by decide +kernel
theorem dL_law_556 : decode code 556 = .ok (.if_icmp .eq 1111, 3) := by decide +kernel
theorem dL_law_559 : decode code 559 = .ok (.iconst 0, 1) := by decide +kernel
theorem dL_law_560 : decode code 560 = .ok (.ireturn, 1) := by decide +kernel
theorem dL_law_561 : decode code 561 = .ok (.aload_n 1, 1) := by decide +kernel
theorem dL_law_562 : decode code 562 = .ok (.aload_n 0, 1) := by decide +kernel
theorem dL_law_563 : decode code 563 = .ok (.iload_n 3, 1) := by decide +kernel
theorem dL_law_564 : decode code 564 = .ok (.iconst 1, 1) := by decide +kernel
theorem dL_law_565 : decode code 565 = .ok (.iadd, 1) := by decide +kernel
theorem dL_law_566 : decode code 566 = .ok (.iaload, 1) := by decide +kernel
theorem dL_law_567 : decode code 567 = .ok (.aload_n 0, 1) := by decide +kernel
theorem dL_law_568 : decode code 568 = .ok (.iload_n 3, 1) := by decide +kernel
theorem dL_law_569 : decode code 569 = .ok (.iconst 2, 1) := by decide +kernel
theorem dL_law_570 : decode code 570 = .ok (.iadd, 1) := by decide +kernel
theorem dL_law_571 : decode code 571 = .ok (.iaload, 1) := by decide +kernel
theorem dL_law_572 : decode code 572 = .ok (.aload_n 0, 1) := by decide +kernel
theorem dL_law_573 : decode code 573 = .ok (.iload_n 3, 1) := by decide +kernel
theorem dL_law_574 : decode code 574 = .ok (.iconst 3, 1) := by decide +kernel
theorem dL_law_575 : decode code 575 = .ok (.iadd, 1) := by decide +kernel
theorem dL_law_576 : decode code 576 = .ok (.iaload, 1) := by decide +kernel
theorem dL_law_577 : decode code 577 = .ok (.aload_n 0, 1) := by decide +kernel
theorem dL_law_578 : decode code 578 = .ok (.iload_n 3, 1) := by decide +kernel
theorem dL_law_579 : decode code 579 = .ok (.iconst 4, 1) := by decide +kernel
theorem dL_law_580 : decode code 580 = .ok (.iadd, 1) := by decide +kernel
theorem dL_law_581 : decode code 581 = .ok (.iaload, 1) := by decide +kernel
theorem dL_law_582 : decode code 582 = .ok (.invokevirtual 55, 3) := by decide +kernel
theorem dL_law_585 : decode code 585 = .ok (.aload_n 2, 1) := by decide +kernel
theorem dL_law_586 : decode code 586 = .ok (.aload_n 0, 1) := by decide +kernel
theorem dL_law_587 : decode code 587 = .ok (.iload_n 3, 1) := by decide +kernel
theorem dL_law_588 : decode code 588 = .ok (.iconst 1, 1) := by decide +kernel
theorem dL_law_589 : decode code 589 = .ok (.iadd, 1) := by decide +kernel
theorem dL_law_590 : decode code 590 = .ok (.iaload, 1) := by decide +kernel
theorem dL_law_591 : decode code 591 = .ok (.aload_n 0, 1) := by decide +kernel
theorem dL_law_592 : decode code 592 = .ok (.iload_n 3, 1) := by decide +kernel
theorem dL_law_593 : decode code 593 = .ok (.iconst 2, 1) := by decide +kernel
theorem dL_law_594 : decode code 594 = .ok (.iadd, 1) := by decide +kernel
theorem dL_law_595 : decode code 595 = .ok (.iaload, 1) := by decide +kernel
theorem dL_law_596 : decode code 596 = .ok (.aload_n 0, 1) := by decide +kernel
theorem dL_law_597 : decode code 597 = .ok (.iload_n 3, 1) := by decide +kernel
theorem dL_law_598 : decode code 598 = .ok (.iconst 3, 1) := by decide +kernel
theorem dL_law_599 : decode code 599 = .ok (.iadd, 1) := by decide +kernel
theorem dL_law_600 : decode code 600 = .ok (.iaload, 1) := by decide +kernel
theorem dL_law_601 : decode code 601 = .ok (.aload_n 0, 1) := by decide +kernel
theorem dL_law_602 : decode code 602 = .ok (.iload_n 3, 1) := by decide +kernel
theorem dL_law_603 : decode code 603 = .ok (.iconst 4, 1) := by decide +kernel
theorem dL_law_604 : decode code 604 = .ok (.iadd, 1) := by decide +kernel
theorem dL_law_605 : decode code 605 = .ok (.iaload, 1) := by decide +kernel
theorem dL_law_606 : decode code 606 = .ok (.invokevirtual 58, 3) := by decide +kernel
theorem dL_law_609 : decode code 609 = .ok (.if_icmp .eq 1058, 3) := by decide +kernel
theorem dL_law_612 : decode code 612 = .ok (.iconst 0, 1) := by decide +kernel
theorem dL_law_613 : decode code 613 = .ok (.ireturn, 1) := by decide +kernel
theorem dL_law_614 : decode code 614 = .ok (.aload_n 1, 1) := by decide +kernel
theorem dL_law_615 : decode code 615 = .ok (.aload_n 0, 1) := by decide +kernel
theorem dL_law_616 : decode code 616 = .ok (.iload_n 3, 1) := by decide +kernel
theorem dL_law_617 : decode code 617 = .ok (.iconst 1, 1) := by decide +kernel
theorem dL_law_618 : decode code 618 = .ok (.iadd, 1) := by decide +kernel
theorem dL_law_619 : decode code 619 = .ok (.iaload, 1) := by decide +kernel
theorem dL_law_620 : decode code 620 = .ok (.aload_n 0, 1) := by decide +kernel
theorem dL_law_621 : decode code 621 = .ok (.iload_n 3, 1) := by decide +kernel
theorem dL_law_622 : decode code 622 = .ok (.iconst 2, 1) := by decide +kernel
theorem dL_law_623 : decode code 623 = .ok (.iadd, 1) := by decide +kernel
theorem dL_law_624 : decode code 624 = .ok (.iaload, 1) := by decide +kernel
theorem dL_law_625 : decode code 625 = .ok (.aload_n 0, 1) := by decide +kernel
theorem dL_law_626 : decode code 626 = .ok (.iload_n 3, 1) := by decide +kernel
theorem dL_law_627 : decode code 627 = .ok (.iconst 3, 1) := by decide +kernel
theorem dL_law_628 : decode code 628 = .ok (.iadd, 1) := by decide +kernel
theorem dL_law_629 : decode code 629 = .ok (.iaload, 1) := by decide +kernel
theorem dL_law_630 : decode code 630 = .ok (.ifCond .eq 7, 3) := by decide +kernel
theorem dL_law_633 : decode code 633 = .ok (.iconst 1, 1) := by decide +kernel
theorem dL_law_634 : decode code 634 = .ok (.goto 4, 3) := by decide +kernel
theorem dL_law_637 : decode code 637 = .ok (.iconst 0, 1) := by decide +kernel
theorem dL_law_638 : decode code 638 = .ok (.invokevirtual 59, 3) := by decide +kernel
theorem dL_law_641 : decode code 641 = .ok (.aload_n 2, 1) := by decide +kernel
theorem dL_law_642 : decode code 642 = .ok (.aload_n 0, 1) := by decide +kernel
theorem dL_law_643 : decode code 643 = .ok (.iload_n 3, 1) := by decide +kernel
theorem dL_law_644 : decode code 644 = .ok (.iconst 1, 1) := by decide +kernel
theorem dL_law_645 : decode code 645 = .ok (.iadd, 1) := by decide +kernel
theorem dL_law_646 : decode code 646 = .ok (.iaload, 1) := by decide +kernel
theorem dL_law_647 : decode code 647 = .ok (.aload_n 0, 1) := by decide +kernel
theorem dL_law_648 : decode code 648 = .ok (.iload_n 3, 1) := by decide +kernel
theorem dL_law_649 : decode code 649 = .ok (.iconst 2, 1) := by decide +kernel
theorem dL_law_650 : decode code 650 = .ok (.iadd, 1) := by decide +kernel
theorem dL_law_651 : decode code 651 = .ok (.iaload, 1) := by decide +kernel
theorem dL_law_652 : decode code 652 = .ok (.aload_n 0, 1) := by decide +kernel
theorem dL_law_653 : decode code 653 = .ok (.iload_n 3, 1) := by decide +kernel
theorem dL_law_654 : decode code 654 = .ok (.iconst 3, 1) := by decide +kernel
theorem dL_law_655 : decode code 655 = .ok (.iadd, 1) := by decide +kernel
theorem dL_law_656 : decode code 656 = .ok (.iaload, 1) := by decide +kernel
theorem dL_law_657 : decode code 657 = .ok (.ifCond .eq 7, 3) := by decide +kernel
theorem dL_law_660 : decode code 660 = .ok (.iconst 1, 1) := by decide +kernel
theorem dL_law_661 : decode code 661 = .ok (.goto 4, 3) := by decide +kernel
theorem dL_law_664 : decode code 664 = .ok (.iconst 0, 1) := by decide +kernel
theorem dL_law_665 : decode code 665 = .ok (.invokevirtual 63, 3) := by decide +kernel
theorem dL_law_668 : decode code 668 = .ok (.if_icmp .eq 999, 3) := by decide +kernel
theorem dL_law_671 : decode code 671 = .ok (.iconst 0, 1) := by decide +kernel
theorem dL_law_672 : decode code 672 = .ok (.ireturn, 1) := by decide +kernel
theorem dL_law_673 : decode code 673 = .ok (.aload_n 1, 1) := by decide +kernel
theorem dL_law_674 : decode code 674 = .ok (.aload_n 0, 1) := by decide +kernel
theorem dL_law_675 : decode code 675 = .ok (.iload_n 3, 1) := by decide +kernel
theorem dL_law_676 : decode code 676 = .ok (.iconst 1, 1) := by decide +kernel
theorem dL_law_677 : decode code 677 = .ok (.iadd, 1) := by decide +kernel
theorem dL_law_678 : decode code 678 = .ok (.iaload, 1) := by decide +kernel
theorem dL_law_679 : decode code 679 = .ok (.aload_n 0, 1) := by decide +kernel
theorem dL_law_680 : decode code 680 = .ok (.iload_n 3, 1) := by decide +kernel
theorem dL_law_681 : decode code 681 = .ok (.iconst 2, 1) := by decide +kernel
theorem dL_law_682 : decode code 682 = .ok (.iadd, 1) := by decide +kernel
theorem dL_law_683 : decode code 683 = .ok (.iaload, 1) := by decide +kernel
theorem dL_law_684 : decode code 684 = .ok (.ifCond .eq 7, 3) := by decide +kernel
theorem dL_law_687 : decode code 687 = .ok (.iconst 1, 1) := by decide +kernel
theorem dL_law_688 : decode code 688 = .ok (.goto 4, 3) := by decide +kernel
theorem dL_law_691 : decode code 691 = .ok (.iconst 0, 1) := by decide +kernel
theorem dL_law_692 : decode code 692 = .ok (.invokevirtual 64, 3) := by decide +kernel
theorem dL_law_695 : decode code 695 = .ok (.aload_n 2, 1) := by decide +kernel
theorem dL_law_696 : decode code 696 = .ok (.aload_n 0, 1) := by decide +kernel
theorem dL_law_697 : decode code 697 = .ok (.iload_n 3, 1) := by decide +kernel
theorem dL_law_698 : decode code 698 = .ok (.iconst 1, 1) := by decide +kernel
theorem dL_law_699 : decode code 699 = .ok (.iadd, 1) := by decide +kernel
theorem dL_law_700 : decode code 700 = .ok (.iaload, 1) := by decide +kernel
theorem dL_law_701 : decode code 701 = .ok (.aload_n 0, 1) := by decide +kernel
theorem dL_law_702 : decode code 702 = .ok (.iload_n 3, 1) := by decide +kernel
theorem dL_law_703 : decode code 703 = .ok (.iconst 2, 1) := by decide +kernel
theorem dL_law_704 : decode code 704 = .ok (.iadd, 1) := by decide +kernel
theorem dL_law_705 : decode code 705 = .ok (.iaload, 1) := by decide +kernel
theorem dL_law_706 : decode code 706 = .ok (.ifCond .eq 7, 3) := by decide +kernel
theorem dL_law_709 : decode code 709 = .ok (.iconst 1, 1) := by decide +kernel
theorem dL_law_710 : decode code 710 = .ok (.goto 4, 3) := by decide +kernel
theorem dL_law_713 : decode code 713 = .ok (.iconst 0, 1) := by decide +kernel
theorem dL_law_714 : decode code 714 = .ok (.invokevirtual 68, 3) := by decide +kernel
theorem dL_law_717 : decode code 717 = .ok (.if_icmp .eq 950, 3) := by decide +kernel
theorem dL_law_720 : decode code 720 = .ok (.iconst 0, 1) := by decide +kernel
theorem dL_law_721 : decode code 721 = .ok (.ireturn, 1) := by decide +kernel
theorem dL_law_722 : decode code 722 = .ok (.aload_n 1, 1) := by decide +kernel
theorem dL_law_723 : decode code 723 = .ok (.aload_n 0, 1) := by decide +kernel
theorem dL_law_724 : decode code 724 = .ok (.iload_n 3, 1) := by decide +kernel
theorem dL_law_725 : decode code 725 = .ok (.iconst 1, 1) := by decide +kernel
theorem dL_law_726 : decode code 726 = .ok (.iadd, 1) := by decide +kernel
theorem dL_law_727 : decode code 727 = .ok (.iaload, 1) := by decide +kernel
theorem dL_law_728 : decode code 728 = .ok (.aload_n 0, 1) := by decide +kernel
theorem dL_law_729 : decode code 729 = .ok (.iload_n 3, 1) := by decide +kernel
theorem dL_law_730 : decode code 730 = .ok (.iconst 2, 1) := by decide +kernel
theorem dL_law_731 : decode code 731 = .ok (.iadd, 1) := by decide +kernel
theorem dL_law_732 : decode code 732 = .ok (.iaload, 1) := by decide +kernel
theorem dL_law_733 : decode code 733 = .ok (.aload_n 0, 1) := by decide +kernel
theorem dL_law_734 : decode code 734 = .ok (.iload_n 3, 1) := by decide +kernel
theorem dL_law_735 : decode code 735 = .ok (.iconst 3, 1) := by decide +kernel
theorem dL_law_736 : decode code 736 = .ok (.iadd, 1) := by decide +kernel
theorem dL_law_737 : decode code 737 = .ok (.iaload, 1) := by decide +kernel
theorem dL_law_738 : decode code 738 = .ok (.ifCond .eq 7, 3) := by decide +kernel
theorem dL_law_741 : decode code 741 = .ok (.iconst 1, 1) := by decide +kernel
theorem dL_law_742 : decode code 742 = .ok (.goto 4, 3) := by decide +kernel
theorem dL_law_745 : decode code 745 = .ok (.iconst 0, 1) := by decide +kernel
theorem dL_law_746 : decode code 746 = .ok (.invokevirtual 69, 3) := by decide +kernel
theorem dL_law_749 : decode code 749 = .ok (.aload_n 2, 1) := by decide +kernel
theorem dL_law_750 : decode code 750 = .ok (.aload_n 0, 1) := by decide +kernel
theorem dL_law_751 : decode code 751 = .ok (.iload_n 3, 1) := by decide +kernel
theorem dL_law_752 : decode code 752 = .ok (.iconst 1, 1) := by decide +kernel
theorem dL_law_753 : decode code 753 = .ok (.iadd, 1) := by decide +kernel
theorem dL_law_754 : decode code 754 = .ok (.iaload, 1) := by decide +kernel
theorem dL_law_755 : decode code 755 = .ok (.aload_n 0, 1) := by decide +kernel
theorem dL_law_756 : decode code 756 = .ok (.iload_n 3, 1) := by decide +kernel
theorem dL_law_757 : decode code 757 = .ok (.iconst 2, 1) := by decide +kernel
theorem dL_law_758 : decode code 758 = .ok (.iadd, 1) := by decide +kernel
theorem dL_law_759 : decode code 759 = .ok (.iaload, 1) := by decide +kernel
theorem dL_law_760 : decode code 760 = .ok (.aload_n 0, 1) := by decide +kernel
theorem dL_law_761 : decode code 761 = .ok (.iload_n 3, 1) := by decide +kernel
theorem dL_law_762 : decode code 762 = .ok (.iconst 3, 1) := by decide +kernel
theorem dL_law_763 : decode code 763 = .ok (.iadd, 1) := by decide +kernel
theorem dL_law_764 : decode code 764 = .ok (.iaload, 1) := by decide +kernel
theorem dL_law_765 : decode code 765 = .ok (.ifCond .eq 7, 3) := by decide +kernel
theorem dL_law_768 : decode code 768 = .ok (.iconst 1, 1) := by decide +kernel
theorem dL_law_769 : decode code 769 = .ok (.goto 4, 3) := by decide +kernel
theorem dL_law_772 : decode code 772 = .ok (.iconst 0, 1) := by decide +kernel
theorem dL_law_773 : decode code 773 = .ok (.invokevirtual 72, 3) := by decide +kernel
theorem dL_law_776 : decode code 776 = .ok (.if_icmp .eq 891, 3) := by decide +kernel
theorem dL_law_779 : decode code 779 = .ok (.iconst 0, 1) := by decide +kernel
theorem dL_law_780 : decode code 780 = .ok (.ireturn, 1) := by decide +kernel
theorem dL_law_781 : decode code 781 = .ok (.aload_n 1, 1) := by decide +kernel
theorem dL_law_782 : decode code 782 = .ok (.aload_n 0, 1) := by decide +kernel
theorem dL_law_783 : decode code 783 = .ok (.iload_n 3, 1) := by decide +kernel
theorem dL_law_784 : decode code 784 = .ok (.iconst 1, 1) := by decide +kernel
theorem dL_law_785 : decode code 785 = .ok (.iadd, 1) := by decide +kernel
theorem dL_law_786 : decode code 786 = .ok (.iaload, 1) := by decide +kernel
theorem dL_law_787 : decode code 787 = .ok (.aload_n 0, 1) := by decide +kernel
theorem dL_law_788 : decode code 788 = .ok (.iload_n 3, 1) := by decide +kernel
theorem dL_law_789 : decode code 789 = .ok (.iconst 2, 1) := by decide +kernel
theorem dL_law_790 : decode code 790 = .ok (.iadd, 1) := by decide +kernel
theorem dL_law_791 : decode code 791 = .ok (.iaload, 1) := by decide +kernel
theorem dL_law_792 : decode code 792 = .ok (.aload_n 0, 1) := by decide +kernel
theorem dL_law_793 : decode code 793 = .ok (.iload_n 3, 1) := by decide +kernel
theorem dL_law_794 : decode code 794 = .ok (.iconst 3, 1) := by decide +kernel
theorem dL_law_795 : decode code 795 = .ok (.iadd, 1) := by decide +kernel
theorem dL_law_796 : decode code 796 = .ok (.iaload, 1) := by decide +kernel
theorem dL_law_797 : decode code 797 = .ok (.invokevirtual 73, 3) := by decide +kernel
theorem dL_law_800 : decode code 800 = .ok (.aload_n 2, 1) := by decide +kernel
theorem dL_law_801 : decode code 801 = .ok (.aload_n 0, 1) := by decide +kernel
theorem dL_law_802 : decode code 802 = .ok (.iload_n 3, 1) := by decide +kernel
theorem dL_law_803 : decode code 803 = .ok (.iconst 1, 1) := by decide +kernel
theorem dL_law_804 : decode code 804 = .ok (.iadd, 1) := by decide +kernel
theorem dL_law_805 : decode code 805 = .ok (.iaload, 1) := by decide +kernel
theorem dL_law_806 : decode code 806 = .ok (.aload_n 0, 1) := by decide +kernel
theorem dL_law_807 : decode code 807 = .ok (.iload_n 3, 1) := by decide +kernel
theorem dL_law_808 : decode code 808 = .ok (.iconst 2, 1) := by decide +kernel
theorem dL_law_809 : decode code 809 = .ok (.iadd, 1) := by decide +kernel
theorem dL_law_810 : decode code 810 = .ok (.iaload, 1) := by decide +kernel
theorem dL_law_811 : decode code 811 = .ok (.aload_n 0, 1) := by decide +kernel
theorem dL_law_812 : decode code 812 = .ok (.iload_n 3, 1) := by decide +kernel
theorem dL_law_813 : decode code 813 = .ok (.iconst 3, 1) := by decide +kernel
theorem dL_law_814 : decode code 814 = .ok (.iadd, 1) := by decide +kernel
theorem dL_law_815 : decode code 815 = .ok (.iaload, 1) := by decide +kernel
theorem dL_law_816 : decode code 816 = .ok (.invokevirtual 76, 3) := by decide +kernel
theorem dL_law_819 : decode code 819 = .ok (.if_icmp .eq 848, 3) := by decide +kernel
theorem dL_law_822 : decode code 822 = .ok (.iconst 0, 1) := by decide +kernel
theorem dL_law_823 : decode code 823 = .ok (.ireturn, 1) := by decide +kernel
theorem dL_law_824 : decode code 824 = .ok (.aload_n 1, 1) := by decide +kernel
theorem dL_law_825 : decode code 825 = .ok (.aload_n 0, 1) := by decide +kernel
theorem dL_law_826 : decode code 826 = .ok (.iload_n 3, 1) := by decide +kernel
theorem dL_law_827 : decode code 827 = .ok (.iconst 1, 1) := by decide +kernel
theorem dL_law_828 : decode code 828 = .ok (.iadd, 1) := by decide +kernel
theorem dL_law_829 : decode code 829 = .ok (.iaload, 1) := by decide +kernel
theorem dL_law_830 : decode code 830 = .ok (.aload_n 0, 1) := by decide +kernel
theorem dL_law_831 : decode code 831 = .ok (.iload_n 3, 1) := by decide +kernel
theorem dL_law_832 : decode code 832 = .ok (.iconst 2, 1) := by decide +kernel
theorem dL_law_833 : decode code 833 = .ok (.iadd, 1) := by decide +kernel
theorem dL_law_834 : decode code 834 = .ok (.iaload, 1) := by decide +kernel
theorem dL_law_835 : decode code 835 = .ok (.aload_n 0, 1) := by decide +kernel
theorem dL_law_836 : decode code 836 = .ok (.iload_n 3, 1) := by decide +kernel
theorem dL_law_837 : decode code 837 = .ok (.iconst 3, 1) := by decide +kernel
theorem dL_law_838 : decode code 838 = .ok (.iadd, 1) := by decide +kernel
theorem dL_law_839 : decode code 839 = .ok (.iaload, 1) := by decide +kernel
theorem dL_law_840 : decode code 840 = .ok (.aload_n 0, 1) := by decide +kernel
theorem dL_law_841 : decode code 841 = .ok (.iload_n 3, 1) := by decide +kernel
theorem dL_law_842 : decode code 842 = .ok (.iconst 4, 1) := by decide +kernel
theorem dL_law_843 : decode code 843 = .ok (.iadd, 1) := by decide +kernel
theorem dL_law_844 : decode code 844 = .ok (.iaload, 1) := by decide +kernel
theorem dL_law_845 : decode code 845 = .ok (.ifCond .eq 7, 3) := by decide +kernel
theorem dL_law_848 : decode code 848 = .ok (.iconst 1, 1) := by decide +kernel
theorem dL_law_849 : decode code 849 = .ok (.goto 4, 3) := by decide +kernel
theorem dL_law_852 : decode code 852 = .ok (.iconst 0, 1) := by decide +kernel
theorem dL_law_853 : decode code 853 = .ok (.invokevirtual 77, 3) := by decide +kernel
theorem dL_law_856 : decode code 856 = .ok (.aload_n 2, 1) := by decide +kernel
theorem dL_law_857 : decode code 857 = .ok (.aload_n 0, 1) := by decide +kernel
theorem dL_law_858 : decode code 858 = .ok (.iload_n 3, 1) := by decide +kernel
theorem dL_law_859 : decode code 859 = .ok (.iconst 1, 1) := by decide +kernel
theorem dL_law_860 : decode code 860 = .ok (.iadd, 1) := by decide +kernel
theorem dL_law_861 : decode code 861 = .ok (.iaload, 1) := by decide +kernel
theorem dL_law_862 : decode code 862 = .ok (.aload_n 0, 1) := by decide +kernel
theorem dL_law_863 : decode code 863 = .ok (.iload_n 3, 1) := by decide +kernel
theorem dL_law_864 : decode code 864 = .ok (.iconst 2, 1) := by decide +kernel
theorem dL_law_865 : decode code 865 = .ok (.iadd, 1) := by decide +kernel
theorem dL_law_866 : decode code 866 = .ok (.iaload, 1) := by decide +kernel
theorem dL_law_867 : decode code 867 = .ok (.aload_n 0, 1) := by decide +kernel
theorem dL_law_868 : decode code 868 = .ok (.iload_n 3, 1) := by decide +kernel
theorem dL_law_869 : decode code 869 = .ok (.iconst 3, 1) := by decide +kernel
theorem dL_law_870 : decode code 870 = .ok (.iadd, 1) := by decide +kernel
theorem dL_law_871 : decode code 871 = .ok (.iaload, 1) := by decide +kernel
theorem dL_law_872 : decode code 872 = .ok (.aload_n 0, 1) := by decide +kernel
theorem dL_law_873 : decode code 873 = .ok (.iload_n 3, 1) := by decide +kernel
theorem dL_law_874 : decode code 874 = .ok (.iconst 4, 1) := by decide +kernel
theorem dL_law_875 : decode code 875 = .ok (.iadd, 1) := by decide +kernel
theorem dL_law_876 : decode code 876 = .ok (.iaload, 1) := by decide +kernel
theorem dL_law_877 : decode code 877 = .ok (.ifCond .eq 7, 3) := by decide +kernel
theorem dL_law_880 : decode code 880 = .ok (.iconst 1, 1) := by decide +kernel
theorem dL_law_881 : decode code 881 = .ok (.goto 4, 3) := by decide +kernel
theorem dL_law_884 : decode code 884 = .ok (.iconst 0, 1) := by decide +kernel
theorem dL_law_885 : decode code 885 = .ok (.invokevirtual 81, 3) := by decide +kernel
theorem dL_law_888 : decode code 888 = .ok (.lcmp, 1) := by decide +kernel
theorem dL_law_889 : decode code 889 = .ok (.ifCond .eq 778, 3) := by decide +kernel
theorem dL_law_892 : decode code 892 = .ok (.iconst 0, 1) := by decide +kernel
theorem dL_law_893 : decode code 893 = .ok (.ireturn, 1) := by decide +kernel
theorem dL_law_894 : decode code 894 = .ok (.aload_n 1, 1) := by decide +kernel
theorem dL_law_895 : decode code 895 = .ok (.aload_n 0, 1) := by decide +kernel
theorem dL_law_896 : decode code 896 = .ok (.iload_n 3, 1) := by decide +kernel
theorem dL_law_897 : decode code 897 = .ok (.iconst 1, 1) := by decide +kernel
theorem dL_law_898 : decode code 898 = .ok (.iadd, 1) := by decide +kernel
theorem dL_law_899 : decode code 899 = .ok (.iaload, 1) := by decide +kernel
theorem dL_law_900 : decode code 900 = .ok (.aload_n 0, 1) := by decide +kernel
theorem dL_law_901 : decode code 901 = .ok (.iload_n 3, 1) := by decide +kernel
theorem dL_law_902 : decode code 902 = .ok (.iconst 2, 1) := by decide +kernel
theorem dL_law_903 : decode code 903 = .ok (.iadd, 1) := by decide +kernel
theorem dL_law_904 : decode code 904 = .ok (.iaload, 1) := by decide +kernel
theorem dL_law_905 : decode code 905 = .ok (.invokevirtual 82, 3) := by decide +kernel
theorem dL_law_908 : decode code 908 = .ok (.aload_n 2, 1) := by decide +kernel
theorem dL_law_909 : decode code 909 = .ok (.aload_n 0, 1) := by decide +kernel
theorem dL_law_910 : decode code 910 = .ok (.iload_n 3, 1) := by decide +kernel
theorem dL_law_911 : decode code 911 = .ok (.iconst 1, 1) := by decide +kernel
theorem dL_law_912 : decode code 912 = .ok (.iadd, 1) := by decide +kernel
theorem dL_law_913 : decode code 913 = .ok (.iaload, 1) := by decide +kernel
theorem dL_law_914 : decode code 914 = .ok (.aload_n 0, 1) := by decide +kernel
theorem dL_law_915 : decode code 915 = .ok (.iload_n 3, 1) := by decide +kernel
theorem dL_law_916 : decode code 916 = .ok (.iconst 2, 1) := by decide +kernel
theorem dL_law_917 : decode code 917 = .ok (.iadd, 1) := by decide +kernel
theorem dL_law_918 : decode code 918 = .ok (.iaload, 1) := by decide +kernel
theorem dL_law_919 : decode code 919 = .ok (.invokevirtual 86, 3) := by decide +kernel
theorem dL_law_922 : decode code 922 = .ok (.lcmp, 1) := by decide +kernel
theorem dL_law_923 : decode code 923 = .ok (.ifCond .eq 744, 3) := by decide +kernel
theorem dL_law_926 : decode code 926 = .ok (.iconst 0, 1) := by decide +kernel
theorem dL_law_927 : decode code 927 = .ok (.ireturn, 1) := by decide +kernel
theorem dL_law_928 : decode code 928 = .ok (.aload_n 1, 1) := by decide +kernel
theorem dL_law_929 : decode code 929 = .ok (.aload_n 0, 1) := by decide +kernel
theorem dL_law_930 : decode code 930 = .ok (.iload_n 3, 1) := by decide +kernel
theorem dL_law_931 : decode code 931 = .ok (.iconst 1, 1) := by decide +kernel
theorem dL_law_932 : decode code 932 = .ok (.iadd, 1) := by decide +kernel
theorem dL_law_933 : decode code 933 = .ok (.iaload, 1) := by decide +kernel
theorem dL_law_934 : decode code 934 = .ok (.aload_n 0, 1) := by decide +kernel
theorem dL_law_935 : decode code 935 = .ok (.iload_n 3, 1) := by decide +kernel
theorem dL_law_936 : decode code 936 = .ok (.iconst 2, 1) := by decide +kernel
theorem dL_law_937 : decode code 937 = .ok (.iadd, 1) := by decide +kernel
theorem dL_law_938 : decode code 938 = .ok (.iaload, 1) := by decide +kernel
theorem dL_law_939 : decode code 939 = .ok (.aload_n 0, 1) := by decide +kernel
theorem dL_law_940 : decode code 940 = .ok (.iload_n 3, 1) := by decide +kernel
theorem dL_law_941 : decode code 941 = .ok (.iconst 3, 1) := by decide +kernel
theorem dL_law_942 : decode code 942 = .ok (.iadd, 1) := by decide +kernel
theorem dL_law_943 : decode code 943 = .ok (.iaload, 1) := by decide +kernel
theorem dL_law_944 : decode code 944 = .ok (.invokevirtual 87, 3) := by decide +kernel
theorem dL_law_947 : decode code 947 = .ok (.aload_n 2, 1) := by decide +kernel
theorem dL_law_948 : decode code 948 = .ok (.aload_n 0, 1) := by decide +kernel
theorem dL_law_949 : decode code 949 = .ok (.iload_n 3, 1) := by decide +kernel
theorem dL_law_950 : decode code 950 = .ok (.iconst 1, 1) := by decide +kernel
theorem dL_law_951 : decode code 951 = .ok (.iadd, 1) := by decide +kernel
theorem dL_law_952 : decode code 952 = .ok (.iaload, 1) := by decide +kernel
theorem dL_law_953 : decode code 953 = .ok (.aload_n 0, 1) := by decide +kernel
theorem dL_law_954 : decode code 954 = .ok (.iload_n 3, 1) := by decide +kernel
theorem dL_law_955 : decode code 955 = .ok (.iconst 2, 1) := by decide +kernel
theorem dL_law_956 : decode code 956 = .ok (.iadd, 1) := by decide +kernel
theorem dL_law_957 : decode code 957 = .ok (.iaload, 1) := by decide +kernel
theorem dL_law_958 : decode code 958 = .ok (.aload_n 0, 1) := by decide +kernel
theorem dL_law_959 : decode code 959 = .ok (.iload_n 3, 1) := by decide +kernel
theorem dL_law_960 : decode code 960 = .ok (.iconst 3, 1) := by decide +kernel
theorem dL_law_961 : decode code 961 = .ok (.iadd, 1) := by decide +kernel
theorem dL_law_962 : decode code 962 = .ok (.iaload, 1) := by decide +kernel
theorem dL_law_963 : decode code 963 = .ok (.invokevirtual 90, 3) := by decide +kernel
theorem dL_law_966 : decode code 966 = .ok (.if_icmp .eq 701, 3) := by decide +kernel
theorem dL_law_969 : decode code 969 = .ok (.iconst 0, 1) := by decide +kernel
theorem dL_law_970 : decode code 970 = .ok (.ireturn, 1) := by decide +kernel
theorem dL_law_971 : decode code 971 = .ok (.aload_n 1, 1) := by decide +kernel
theorem dL_law_972 : decode code 972 = .ok (.aload_n 0, 1) := by decide +kernel
theorem dL_law_973 : decode code 973 = .ok (.iload_n 3, 1) := by decide +kernel
theorem dL_law_974 : decode code 974 = .ok (.iconst 1, 1) := by decide +kernel
theorem dL_law_975 : decode code 975 = .ok (.iadd, 1) := by decide +kernel
theorem dL_law_976 : decode code 976 = .ok (.iaload, 1) := by decide +kernel
theorem dL_law_977 : decode code 977 = .ok (.aload_n 0, 1) := by decide +kernel
theorem dL_law_978 : decode code 978 = .ok (.iload_n 3, 1) := by decide +kernel
theorem dL_law_979 : decode code 979 = .ok (.iconst 2, 1) := by decide +kernel
theorem dL_law_980 : decode code 980 = .ok (.iadd, 1) := by decide +kernel
theorem dL_law_981 : decode code 981 = .ok (.iaload, 1) := by decide +kernel
theorem dL_law_982 : decode code 982 = .ok (.invokevirtual 91, 3) := by decide +kernel
theorem dL_law_985 : decode code 985 = .ok (.aload_n 2, 1) := by decide +kernel
theorem dL_law_986 : decode code 986 = .ok (.aload_n 0, 1) := by decide +kernel
theorem dL_law_987 : decode code 987 = .ok (.iload_n 3, 1) := by decide +kernel
theorem dL_law_988 : decode code 988 = .ok (.iconst 1, 1) := by decide +kernel
theorem dL_law_989 : decode code 989 = .ok (.iadd, 1) := by decide +kernel
theorem dL_law_990 : decode code 990 = .ok (.iaload, 1) := by decide +kernel
theorem dL_law_991 : decode code 991 = .ok (.aload_n 0, 1) := by decide +kernel
theorem dL_law_992 : decode code 992 = .ok (.iload_n 3, 1) := by decide +kernel
theorem dL_law_993 : decode code 993 = .ok (.iconst 2, 1) := by decide +kernel
theorem dL_law_994 : decode code 994 = .ok (.iadd, 1) := by decide +kernel
theorem dL_law_995 : decode code 995 = .ok (.iaload, 1) := by decide +kernel
theorem dL_law_996 : decode code 996 = .ok (.invokevirtual 94, 3) := by decide +kernel
theorem dL_law_999 : decode code 999 = .ok (.if_icmp .eq 668, 3) := by decide +kernel
theorem dL_law_1002 : decode code 1002 = .ok (.iconst 0, 1) := by decide +kernel
theorem dL_law_1003 : decode code 1003 = .ok (.ireturn, 1) := by decide +kernel
theorem dL_law_1004 : decode code 1004 = .ok (.aload_n 1, 1) := by decide +kernel
theorem dL_law_1005 : decode code 1005 = .ok (.aload_n 0, 1) := by decide +kernel
theorem dL_law_1006 : decode code 1006 = .ok (.iload_n 3, 1) := by decide +kernel
theorem dL_law_1007 : decode code 1007 = .ok (.iconst 1, 1) := by decide +kernel
theorem dL_law_1008 : decode code 1008 = .ok (.iadd, 1) := by decide +kernel
theorem dL_law_1009 : decode code 1009 = .ok (.iaload, 1) := by decide +kernel
theorem dL_law_1010 : decode code 1010 = .ok (.aload_n 0, 1) := by decide +kernel
theorem dL_law_1011 : decode code 1011 = .ok (.iload_n 3, 1) := by decide +kernel
theorem dL_law_1012 : decode code 1012 = .ok (.iconst 2, 1) := by decide +kernel
theorem dL_law_1013 : decode code 1013 = .ok (.iadd, 1) := by decide +kernel
theorem dL_law_1014 : decode code 1014 = .ok (.iaload, 1) := by decide +kernel
theorem dL_law_1015 : decode code 1015 = .ok (.invokevirtual 95, 3) := by decide +kernel
theorem dL_law_1018 : decode code 1018 = .ok (.aload_n 2, 1) := by decide +kernel
theorem dL_law_1019 : decode code 1019 = .ok (.aload_n 0, 1) := by decide +kernel
theorem dL_law_1020 : decode code 1020 = .ok (.iload_n 3, 1) := by decide +kernel
theorem dL_law_1021 : decode code 1021 = .ok (.iconst 1, 1) := by decide +kernel
theorem dL_law_1022 : decode code 1022 = .ok (.iadd, 1) := by decide +kernel
theorem dL_law_1023 : decode code 1023 = .ok (.iaload, 1) := by decide +kernel
theorem dL_law_1024 : decode code 1024 = .ok (.aload_n 0, 1) := by decide +kernel
theorem dL_law_1025 : decode code 1025 = .ok (.iload_n 3, 1) := by decide +kernel
theorem dL_law_1026 : decode code 1026 = .ok (.iconst 2, 1) := by decide +kernel
theorem dL_law_1027 : decode code 1027 = .ok (.iadd, 1) := by decide +kernel
theorem dL_law_1028 : decode code 1028 = .ok (.iaload, 1) := by decide +kernel
theorem dL_law_1029 : decode code 1029 = .ok (.invokevirtual 98, 3) := by decide +kernel
theorem dL_law_1032 : decode code 1032 = .ok (.if_icmp .eq 635, 3) := by decide +kernel
theorem dL_law_1035 : decode code 1035 = .ok (.iconst 0, 1) := by decide +kernel
theorem dL_law_1036 : decode code 1036 = .ok (.ireturn, 1) := by decide +kernel
theorem dL_law_1037 : decode code 1037 = .ok (.aload_n 1, 1) := by decide +kernel
theorem dL_law_1038 : decode code 1038 = .ok (.aload_n 0, 1) := by decide +kernel
theorem dL_law_1039 : decode code 1039 = .ok (.iload_n 3, 1) := by decide +kernel
theorem dL_law_1040 : decode code 1040 = .ok (.iconst 1, 1) := by decide +kernel
theorem dL_law_1041 : decode code 1041 = .ok (.iadd, 1) := by decide +kernel
theorem dL_law_1042 : decode code 1042 = .ok (.iaload, 1) := by decide +kernel
theorem dL_law_1043 : decode code 1043 = .ok (.aload_n 0, 1) := by decide +kernel
theorem dL_law_1044 : decode code 1044 = .ok (.iload_n 3, 1) := by decide +kernel
theorem dL_law_1045 : decode code 1045 = .ok (.iconst 2, 1) := by decide +kernel
theorem dL_law_1046 : decode code 1046 = .ok (.iadd, 1) := by decide +kernel
theorem dL_law_1047 : decode code 1047 = .ok (.iaload, 1) := by decide +kernel
theorem dL_law_1048 : decode code 1048 = .ok (.aload_n 0, 1) := by decide +kernel
theorem dL_law_1049 : decode code 1049 = .ok (.iload_n 3, 1) := by decide +kernel
theorem dL_law_1050 : decode code 1050 = .ok (.iconst 3, 1) := by decide +kernel
theorem dL_law_1051 : decode code 1051 = .ok (.iadd, 1) := by decide +kernel
theorem dL_law_1052 : decode code 1052 = .ok (.iaload, 1) := by decide +kernel
theorem dL_law_1053 : decode code 1053 = .ok (.aload_n 0, 1) := by decide +kernel
theorem dL_law_1054 : decode code 1054 = .ok (.iload_n 3, 1) := by decide +kernel
theorem dL_law_1055 : decode code 1055 = .ok (.iconst 4, 1) := by decide +kernel
theorem dL_law_1056 : decode code 1056 = .ok (.iadd, 1) := by decide +kernel
theorem dL_law_1057 : decode code 1057 = .ok (.iaload, 1) := by decide +kernel
theorem dL_law_1058 : decode code 1058 = .ok (.invokevirtual 99, 3) := by decide +kernel
theorem dL_law_1061 : decode code 1061 = .ok (.aload_n 2, 1) := by decide +kernel
theorem dL_law_1062 : decode code 1062 = .ok (.aload_n 0, 1) := by decide +kernel
theorem dL_law_1063 : decode code 1063 = .ok (.iload_n 3, 1) := by decide +kernel
theorem dL_law_1064 : decode code 1064 = .ok (.iconst 1, 1) := by decide +kernel
theorem dL_law_1065 : decode code 1065 = .ok (.iadd, 1) := by decide +kernel
theorem dL_law_1066 : decode code 1066 = .ok (.iaload, 1) := by decide +kernel
theorem dL_law_1067 : decode code 1067 = .ok (.aload_n 0, 1) := by decide +kernel
theorem dL_law_1068 : decode code 1068 = .ok (.iload_n 3, 1) := by decide +kernel
theorem dL_law_1069 : decode code 1069 = .ok (.iconst 2, 1) := by decide +kernel
theorem dL_law_1070 : decode code 1070 = .ok (.iadd, 1) := by decide +kernel
theorem dL_law_1071 : decode code 1071 = .ok (.iaload, 1) := by decide +kernel
theorem dL_law_1072 : decode code 1072 = .ok (.aload_n 0, 1) := by decide +kernel
theorem dL_law_1073 : decode code 1073 = .ok (.iload_n 3, 1) := by decide +kernel
theorem dL_law_1074 : decode code 1074 = .ok (.iconst 3, 1) := by decide +kernel
theorem dL_law_1075 : decode code 1075 = .ok (.iadd, 1) := by decide +kernel
theorem dL_law_1076 : decode code 1076 = .ok (.iaload, 1) := by decide +kernel
theorem dL_law_1077 : decode code 1077 = .ok (.aload_n 0, 1) := by decide +kernel
theorem dL_law_1078 : decode code 1078 = .ok (.iload_n 3, 1) := by decide +kernel
theorem dL_law_1079 : decode code 1079 = .ok (.iconst 4, 1) := by decide +kernel
theorem dL_law_1080 : decode code 1080 = .ok (.iadd, 1) := by decide +kernel
theorem dL_law_1081 : decode code 1081 = .ok (.iaload, 1) := by decide +kernel
theorem dL_law_1082 : decode code 1082 = .ok (.invokevirtual 102, 3) := by decide +kernel
theorem dL_law_1085 : decode code 1085 = .ok (.if_icmp .eq 582, 3) := by decide +kernel
theorem dL_law_1088 : decode code 1088 = .ok (.iconst 0, 1) := by decide +kernel
theorem dL_law_1089 : decode code 1089 = .ok (.ireturn, 1) := by decide +kernel
theorem dL_law_1090 : decode code 1090 = .ok (.aload_n 1, 1) := by decide +kernel
theorem dL_law_1091 : decode code 1091 = .ok (.aload_n 0, 1) := by decide +kernel
theorem dL_law_1092 : decode code 1092 = .ok (.iload_n 3, 1) := by decide +kernel
theorem dL_law_1093 : decode code 1093 = .ok (.iconst 1, 1) := by decide +kernel
theorem dL_law_1094 : decode code 1094 = .ok (.iadd, 1) := by decide +kernel
theorem dL_law_1095 : decode code 1095 = .ok (.iaload, 1) := by decide +kernel
theorem dL_law_1096 : decode code 1096 = .ok (.aload_n 0, 1) := by decide +kernel
theorem dL_law_1097 : decode code 1097 = .ok (.iload_n 3, 1) := by decide +kernel
theorem dL_law_1098 : decode code 1098 = .ok (.iconst 2, 1) := by decide +kernel
theorem dL_law_1099 : decode code 1099 = .ok (.iadd, 1) := by decide +kernel
theorem dL_law_1100 : decode code 1100 = .ok (.iaload, 1) := by decide +kernel
theorem dL_law_1101 : decode code 1101 = .ok (.aload_n 0, 1) := by decide +kernel
theorem dL_law_1102 : decode code 1102 = .ok (.iload_n 3, 1) := by decide +kernel
theorem dL_law_1103 : decode code 1103 = .ok (.iconst 3, 1) := by decide +kernel
theorem dL_law_1104 : decode code 1104 = .ok (.iadd, 1) := by decide +kernel
theorem dL_law_1105 : decode code 1105 = .ok (.iaload, 1) := by decide +kernel
theorem dL_law_1106 : decode code 1106 = .ok (.invokevirtual 103, 3) := by decide +kernel
theorem dL_law_1109 : decode code 1109 = .ok (.aload_n 2, 1) := by decide +kernel
theorem dL_law_1110 : decode code 1110 = .ok (.aload_n 0, 1) := by decide +kernel
theorem dL_law_1111 : decode code 1111 = .ok (.iload_n 3, 1) := by decide +kernel
theorem dL_law_1112 : decode code 1112 = .ok (.iconst 1, 1) := by decide +kernel
theorem dL_law_1113 : decode code 1113 = .ok (.iadd, 1) := by decide +kernel
theorem dL_law_1114 : decode code 1114 = .ok (.iaload, 1) := by decide +kernel
theorem dL_law_1115 : decode code 1115 = .ok (.aload_n 0, 1) := by decide +kernel
theorem dL_law_1116 : decode code 1116 = .ok (.iload_n 3, 1) := by decide +kernel
theorem dL_law_1117 : decode code 1117 = .ok (.iconst 2, 1) := by decide +kernel
theorem dL_law_1118 : decode code 1118 = .ok (.iadd, 1) := by decide +kernel
theorem dL_law_1119 : decode code 1119 = .ok (.iaload, 1) := by decide +kernel
theorem dL_law_1120 : decode code 1120 = .ok (.aload_n 0, 1) := by decide +kernel
theorem dL_law_1121 : decode code 1121 = .ok (.iload_n 3, 1) := by decide +kernel
theorem dL_law_1122 : decode code 1122 = .ok (.iconst 3, 1) := by decide +kernel
theorem dL_law_1123 : decode code 1123 = .ok (.iadd, 1) := by decide +kernel
theorem dL_law_1124 : decode code 1124 = .ok (.iaload, 1) := by decide +kernel
theorem dL_law_1125 : decode code 1125 = .ok (.invokevirtual 106, 3) := by decide +kernel
theorem dL_law_1128 : decode code 1128 = .ok (.if_icmp .eq 539, 3) := by decide +kernel
theorem dL_law_1131 : decode code 1131 = .ok (.iconst 0, 1) := by decide +kernel
theorem dL_law_1132 : decode code 1132 = .ok (.ireturn, 1) := by decide +kernel
theorem dL_law_1133 : decode code 1133 = .ok (.aload_n 1, 1) := by decide +kernel
theorem dL_law_1134 : decode code 1134 = .ok (.aload_n 0, 1) := by decide +kernel
theorem dL_law_1135 : decode code 1135 = .ok (.iload_n 3, 1) := by decide +kernel
theorem dL_law_1136 : decode code 1136 = .ok (.iconst 1, 1) := by decide +kernel
theorem dL_law_1137 : decode code 1137 = .ok (.iadd, 1) := by decide +kernel
theorem dL_law_1138 : decode code 1138 = .ok (.iaload, 1) := by decide +kernel
theorem dL_law_1139 : decode code 1139 = .ok (.aload_n 0, 1) := by decide +kernel
theorem dL_law_1140 : decode code 1140 = .ok (.iload_n 3, 1) := by decide +kernel
theorem dL_law_1141 : decode code 1141 = .ok (.iconst 2, 1) := by decide +kernel
theorem dL_law_1142 : decode code 1142 = .ok (.iadd, 1) := by decide +kernel
theorem dL_law_1143 : decode code 1143 = .ok (.iaload, 1) := by decide +kernel
theorem dL_law_1144 : decode code 1144 = .ok (.aload_n 0, 1) := by decide +kernel
theorem dL_law_1145 : decode code 1145 = .ok (.iload_n 3, 1) := by decide +kernel
theorem dL_law_1146 : decode code 1146 = .ok (.iconst 3, 1) := by decide +kernel
theorem dL_law_1147 : decode code 1147 = .ok (.iadd, 1) := by decide +kernel
theorem dL_law_1148 : decode code 1148 = .ok (.iaload, 1) := by decide +kernel
theorem dL_law_1149 : decode code 1149 = .ok (.invokevirtual 107, 3) := by decide +kernel
theorem dL_law_1152 : decode code 1152 = .ok (.aload_n 2, 1) := by decide +kernel
theorem dL_law_1153 : decode code 1153 = .ok (.aload_n 0, 1) := by decide +kernel
theorem dL_law_1154 : decode code 1154 = .ok (.iload_n 3, 1) := by decide +kernel
theorem dL_law_1155 : decode code 1155 = .ok (.iconst 1, 1) := by decide +kernel
theorem dL_law_1156 : decode code 1156 = .ok (.iadd, 1) := by decide +kernel
theorem dL_law_1157 : decode code 1157 = .ok (.iaload, 1) := by decide +kernel
theorem dL_law_1158 : decode code 1158 = .ok (.aload_n 0, 1) := by decide +kernel
theorem dL_law_1159 : decode code 1159 = .ok (.iload_n 3, 1) := by decide +kernel
theorem dL_law_1160 : decode code 1160 = .ok (.iconst 2, 1) := by decide +kernel
theorem dL_law_1161 : decode code 1161 = .ok (.iadd, 1) := by decide +kernel
theorem dL_law_1162 : decode code 1162 = .ok (.iaload, 1) := by decide +kernel
theorem dL_law_1163 : decode code 1163 = .ok (.aload_n 0, 1) := by decide +kernel
theorem dL_law_1164 : decode code 1164 = .ok (.iload_n 3, 1) := by decide +kernel
theorem dL_law_1165 : decode code 1165 = .ok (.iconst 3, 1) := by decide +kernel
theorem dL_law_1166 : decode code 1166 = .ok (.iadd, 1) := by decide +kernel
theorem dL_law_1167 : decode code 1167 = .ok (.iaload, 1) := by decide +kernel
theorem dL_law_1168 : decode code 1168 = .ok (.invokevirtual 110, 3) := by decide +kernel
theorem dL_law_1171 : decode code 1171 = .ok (.if_icmp .eq 496, 3) := by decide +kernel
theorem dL_law_1174 : decode code 1174 = .ok (.iconst 0, 1) := by decide +kernel
theorem dL_law_1175 : decode code 1175 = .ok (.ireturn, 1) := by decide +kernel
theorem dL_law_1176 : decode code 1176 = .ok (.aload_n 1, 1) := by decide +kernel
theorem dL_law_1177 : decode code 1177 = .ok (.aload_n 0, 1) := by decide +kernel
theorem dL_law_1178 : decode code 1178 = .ok (.iload_n 3, 1) := by decide +kernel
theorem dL_law_1179 : decode code 1179 = .ok (.iconst 1, 1) := by decide +kernel
theorem dL_law_1180 : decode code 1180 = .ok (.iadd, 1) := by decide +kernel
theorem dL_law_1181 : decode code 1181 = .ok (.iaload, 1) := by decide +kernel
theorem dL_law_1182 : decode code 1182 = .ok (.aload_n 0, 1) := by decide +kernel
theorem dL_law_1183 : decode code 1183 = .ok (.iload_n 3, 1) := by decide +kernel
theorem dL_law_1184 : decode code 1184 = .ok (.iconst 2, 1) := by decide +kernel
theorem dL_law_1185 : decode code 1185 = .ok (.iadd, 1) := by decide +kernel
theorem dL_law_1186 : decode code 1186 = .ok (.iaload, 1) := by decide +kernel
theorem dL_law_1187 : decode code 1187 = .ok (.aload_n 0, 1) := by decide +kernel
theorem dL_law_1188 : decode code 1188 = .ok (.iload_n 3, 1) := by decide +kernel
theorem dL_law_1189 : decode code 1189 = .ok (.iconst 3, 1) := by decide +kernel
theorem dL_law_1190 : decode code 1190 = .ok (.iadd, 1) := by decide +kernel
theorem dL_law_1191 : decode code 1191 = .ok (.iaload, 1) := by decide +kernel
theorem dL_law_1192 : decode code 1192 = .ok (.aload_n 0, 1) := by decide +kernel
theorem dL_law_1193 : decode code 1193 = .ok (.iload_n 3, 1) := by decide +kernel
theorem dL_law_1194 : decode code 1194 = .ok (.iconst 4, 1) := by decide +kernel
theorem dL_law_1195 : decode code 1195 = .ok (.iadd, 1) := by decide +kernel
theorem dL_law_1196 : decode code 1196 = .ok (.iaload, 1) := by decide +kernel
theorem dL_law_1197 : decode code 1197 = .ok (.ifCond .eq 7, 3) := by decide +kernel
theorem dL_law_1200 : decode code 1200 = .ok (.iconst 1, 1) := by decide +kernel
theorem dL_law_1201 : decode code 1201 = .ok (.goto 4, 3) := by decide +kernel
theorem dL_law_1204 : decode code 1204 = .ok (.iconst 0, 1) := by decide +kernel
theorem dL_law_1205 : decode code 1205 = .ok (.invokevirtual 111, 3) := by decide +kernel
theorem dL_law_1208 : decode code 1208 = .ok (.aload_n 2, 1) := by decide +kernel
theorem dL_law_1209 : decode code 1209 = .ok (.aload_n 0, 1) := by decide +kernel
theorem dL_law_1210 : decode code 1210 = .ok (.iload_n 3, 1) := by decide +kernel
theorem dL_law_1211 : decode code 1211 = .ok (.iconst 1, 1) := by decide +kernel
theorem dL_law_1212 : decode code 1212 = .ok (.iadd, 1) := by decide +kernel
theorem dL_law_1213 : decode code 1213 = .ok (.iaload, 1) := by decide +kernel
theorem dL_law_1214 : decode code 1214 = .ok (.aload_n 0, 1) := by decide +kernel
theorem dL_law_1215 : decode code 1215 = .ok (.iload_n 3, 1) := by decide +kernel
theorem dL_law_1216 : decode code 1216 = .ok (.iconst 2, 1) := by decide +kernel
theorem dL_law_1217 : decode code 1217 = .ok (.iadd, 1) := by decide +kernel
theorem dL_law_1218 : decode code 1218 = .ok (.iaload, 1) := by decide +kernel
theorem dL_law_1219 : decode code 1219 = .ok (.aload_n 0, 1) := by decide +kernel
theorem dL_law_1220 : decode code 1220 = .ok (.iload_n 3, 1) := by decide +kernel
theorem dL_law_1221 : decode code 1221 = .ok (.iconst 3, 1) := by decide +kernel
theorem dL_law_1222 : decode code 1222 = .ok (.iadd, 1) := by decide +kernel
theorem dL_law_1223 : decode code 1223 = .ok (.iaload, 1) := by decide +kernel
theorem dL_law_1224 : decode code 1224 = .ok (.aload_n 0, 1) := by decide +kernel
theorem dL_law_1225 : decode code 1225 = .ok (.iload_n 3, 1) := by decide +kernel
theorem dL_law_1226 : decode code 1226 = .ok (.iconst 4, 1) := by decide +kernel
theorem dL_law_1227 : decode code 1227 = .ok (.iadd, 1) := by decide +kernel
theorem dL_law_1228 : decode code 1228 = .ok (.iaload, 1) := by decide +kernel
theorem dL_law_1229 : decode code 1229 = .ok (.ifCond .eq 7, 3) := by decide +kernel
theorem dL_law_1232 : decode code 1232 = .ok (.iconst 1, 1) := by decide +kernel
theorem dL_law_1233 : decode code 1233 = .ok (.goto 4, 3) := by decide +kernel
theorem dL_law_1236 : decode code 1236 = .ok (.iconst 0, 1) := by decide +kernel
theorem dL_law_1237 : decode code 1237 = .ok (.invokevirtual 114, 3) := by decide +kernel
theorem dL_law_1240 : decode code 1240 = .ok (.if_icmp .eq 427, 3) := by decide +kernel
theorem dL_law_1243 : decode code 1243 = .ok (.iconst 0, 1) := by decide +kernel
theorem dL_law_1244 : decode code 1244 = .ok (.ireturn, 1) := by decide +kernel
theorem dL_law_1245 : decode code 1245 = .ok (.aload_n 1, 1) := by decide +kernel
theorem dL_law_1246 : decode code 1246 = .ok (.aload_n 0, 1) := by decide +kernel
theorem dL_law_1247 : decode code 1247 = .ok (.iload_n 3, 1) := by decide +kernel
theorem dL_law_1248 : decode code 1248 = .ok (.iconst 1, 1) := by decide +kernel
theorem dL_law_1249 : decode code 1249 = .ok (.iadd, 1) := by decide +kernel
theorem dL_law_1250 : decode code 1250 = .ok (.iaload, 1) := by decide +kernel
theorem dL_law_1251 : decode code 1251 = .ok (.aload_n 0, 1) := by decide +kernel
theorem dL_law_1252 : decode code 1252 = .ok (.iload_n 3, 1) := by decide +kernel
theorem dL_law_1253 : decode code 1253 = .ok (.iconst 2, 1) := by decide +kernel
theorem dL_law_1254 : decode code 1254 = .ok (.iadd, 1) := by decide +kernel
theorem dL_law_1255 : decode code 1255 = .ok (.iaload, 1) := by decide +kernel
theorem dL_law_1256 : decode code 1256 = .ok (.aload_n 0, 1) := by decide +kernel
theorem dL_law_1257 : decode code 1257 = .ok (.iload_n 3, 1) := by decide +kernel
theorem dL_law_1258 : decode code 1258 = .ok (.iconst 3, 1) := by decide +kernel
theorem dL_law_1259 : decode code 1259 = .ok (.iadd, 1) := by decide +kernel
theorem dL_law_1260 : decode code 1260 = .ok (.iaload, 1) := by decide +kernel
theorem dL_law_1261 : decode code 1261 = .ok (.invokevirtual 115, 3) := by decide +kernel
theorem dL_law_1264 : decode code 1264 = .ok (.aload_n 2, 1) := by decide +kernel
theorem dL_law_1265 : decode code 1265 = .ok (.aload_n 0, 1) := by decide +kernel
theorem dL_law_1266 : decode code 1266 = .ok (.iload_n 3, 1) := by decide +kernel
theorem dL_law_1267 : decode code 1267 = .ok (.iconst 1, 1) := by decide +kernel
theorem dL_law_1268 : decode code 1268 = .ok (.iadd, 1) := by decide +kernel
theorem dL_law_1269 : decode code 1269 = .ok (.iaload, 1) := by decide +kernel
theorem dL_law_1270 : decode code 1270 = .ok (.aload_n 0, 1) := by decide +kernel
theorem dL_law_1271 : decode code 1271 = .ok (.iload_n 3, 1) := by decide +kernel
theorem dL_law_1272 : decode code 1272 = .ok (.iconst 2, 1) := by decide +kernel
theorem dL_law_1273 : decode code 1273 = .ok (.iadd, 1) := by decide +kernel
theorem dL_law_1274 : decode code 1274 = .ok (.iaload, 1) := by decide +kernel
theorem dL_law_1275 : decode code 1275 = .ok (.aload_n 0, 1) := by decide +kernel
theorem dL_law_1276 : decode code 1276 = .ok (.iload_n 3, 1) := by decide +kernel
theorem dL_law_1277 : decode code 1277 = .ok (.iconst 3, 1) := by decide +kernel
theorem dL_law_1278 : decode code 1278 = .ok (.iadd, 1) := by decide +kernel
theorem dL_law_1279 : decode code 1279 = .ok (.iaload, 1) := by decide +kernel
theorem dL_law_1280 : decode code 1280 = .ok (.invokevirtual 118, 3) := by decide +kernel
theorem dL_law_1283 : decode code 1283 = .ok (.if_icmp .eq 384, 3) := by decide +kernel
theorem dL_law_1286 : decode code 1286 = .ok (.iconst 0, 1) := by decide +kernel
theorem dL_law_1287 : decode code 1287 = .ok (.ireturn, 1) := by decide +kernel
theorem dL_law_1288 : decode code 1288 = .ok (.aload_n 1, 1) := by decide +kernel
theorem dL_law_1289 : decode code 1289 = .ok (.aload_n 0, 1) := by decide +kernel
theorem dL_law_1290 : decode code 1290 = .ok (.iload_n 3, 1) := by decide +kernel
theorem dL_law_1291 : decode code 1291 = .ok (.iconst 1, 1) := by decide +kernel
theorem dL_law_1292 : decode code 1292 = .ok (.iadd, 1) := by decide +kernel
theorem dL_law_1293 : decode code 1293 = .ok (.iaload, 1) := by decide +kernel
theorem dL_law_1294 : decode code 1294 = .ok (.aload_n 0, 1) := by decide +kernel
theorem dL_law_1295 : decode code 1295 = .ok (.iload_n 3, 1) := by decide +kernel
theorem dL_law_1296 : decode code 1296 = .ok (.iconst 2, 1) := by decide +kernel
theorem dL_law_1297 : decode code 1297 = .ok (.iadd, 1) := by decide +kernel
theorem dL_law_1298 : decode code 1298 = .ok (.iaload, 1) := by decide +kernel
theorem dL_law_1299 : decode code 1299 = .ok (.ifCond .eq 7, 3) := by decide +kernel
theorem dL_law_1302 : decode code 1302 = .ok (.iconst 1, 1) := by decide +kernel
theorem dL_law_1303 : decode code 1303 = .ok (.goto 4, 3) := by decide +kernel
theorem dL_law_1306 : decode code 1306 = .ok (.iconst 0, 1) := by decide +kernel
theorem dL_law_1307 : decode code 1307 = .ok (.invokevirtual 119, 3) := by decide +kernel
theorem dL_law_1310 : decode code 1310 = .ok (.aload_n 2, 1) := by decide +kernel
theorem dL_law_1311 : decode code 1311 = .ok (.aload_n 0, 1) := by decide +kernel
theorem dL_law_1312 : decode code 1312 = .ok (.iload_n 3, 1) := by decide +kernel
theorem dL_law_1313 : decode code 1313 = .ok (.iconst 1, 1) := by decide +kernel
theorem dL_law_1314 : decode code 1314 = .ok (.iadd, 1) := by decide +kernel
theorem dL_law_1315 : decode code 1315 = .ok (.iaload, 1) := by decide +kernel
theorem dL_law_1316 : decode code 1316 = .ok (.aload_n 0, 1) := by decide +kernel
theorem dL_law_1317 : decode code 1317 = .ok (.iload_n 3, 1) := by decide +kernel
theorem dL_law_1318 : decode code 1318 = .ok (.iconst 2, 1) := by decide +kernel
theorem dL_law_1319 : decode code 1319 = .ok (.iadd, 1) := by decide +kernel
theorem dL_law_1320 : decode code 1320 = .ok (.iaload, 1) := by decide +kernel
theorem dL_law_1321 : decode code 1321 = .ok (.ifCond .eq 7, 3) := by decide +kernel
theorem dL_law_1324 : decode code 1324 = .ok (.iconst 1, 1) := by decide +kernel
theorem dL_law_1325 : decode code 1325 = .ok (.goto 4, 3) := by decide +kernel
theorem dL_law_1328 : decode code 1328 = .ok (.iconst 0, 1) := by decide +kernel
theorem dL_law_1329 : decode code 1329 = .ok (.invokevirtual 122, 3) := by decide +kernel
theorem dL_law_1332 : decode code 1332 = .ok (.if_icmp .eq 335, 3) := by decide +kernel
theorem dL_law_1335 : decode code 1335 = .ok (.iconst 0, 1) := by decide +kernel
theorem dL_law_1336 : decode code 1336 = .ok (.ireturn, 1) := by decide +kernel
theorem dL_law_1337 : decode code 1337 = .ok (.aload_n 1, 1) := by decide +kernel
theorem dL_law_1338 : decode code 1338 = .ok (.aload_n 0, 1) := by decide +kernel
theorem dL_law_1339 : decode code 1339 = .ok (.iload_n 3, 1) := by decide +kernel
theorem dL_law_1340 : decode code 1340 = .ok (.iconst 1, 1) := by decide +kernel
theorem dL_law_1341 : decode code 1341 = .ok (.iadd, 1) := by decide +kernel
theorem dL_law_1342 : decode code 1342 = .ok (.iaload, 1) := by decide +kernel
theorem dL_law_1343 : decode code 1343 = .ok (.aload_n 0, 1) := by decide +kernel
theorem dL_law_1344 : decode code 1344 = .ok (.iload_n 3, 1) := by decide +kernel
theorem dL_law_1345 : decode code 1345 = .ok (.iconst 2, 1) := by decide +kernel
theorem dL_law_1346 : decode code 1346 = .ok (.iadd, 1) := by decide +kernel
theorem dL_law_1347 : decode code 1347 = .ok (.iaload, 1) := by decide +kernel
theorem dL_law_1348 : decode code 1348 = .ok (.invokevirtual 123, 3) := by decide +kernel
theorem dL_law_1351 : decode code 1351 = .ok (.aload_n 2, 1) := by decide +kernel
theorem dL_law_1352 : decode code 1352 = .ok (.aload_n 0, 1) := by decide +kernel
theorem dL_law_1353 : decode code 1353 = .ok (.iload_n 3, 1) := by decide +kernel
theorem dL_law_1354 : decode code 1354 = .ok (.iconst 1, 1) := by decide +kernel
theorem dL_law_1355 : decode code 1355 = .ok (.iadd, 1) := by decide +kernel
theorem dL_law_1356 : decode code 1356 = .ok (.iaload, 1) := by decide +kernel
theorem dL_law_1357 : decode code 1357 = .ok (.aload_n 0, 1) := by decide +kernel
theorem dL_law_1358 : decode code 1358 = .ok (.iload_n 3, 1) := by decide +kernel
theorem dL_law_1359 : decode code 1359 = .ok (.iconst 2, 1) := by decide +kernel
theorem dL_law_1360 : decode code 1360 = .ok (.iadd, 1) := by decide +kernel
theorem dL_law_1361 : decode code 1361 = .ok (.iaload, 1) := by decide +kernel
theorem dL_law_1362 : decode code 1362 = .ok (.invokevirtual 126, 3) := by decide +kernel
theorem dL_law_1365 : decode code 1365 = .ok (.if_icmp .eq 302, 3) := by decide +kernel
theorem dL_law_1368 : decode code 1368 = .ok (.iconst 0, 1) := by decide +kernel
theorem dL_law_1369 : decode code 1369 = .ok (.ireturn, 1) := by decide +kernel
theorem dL_law_1370 : decode code 1370 = .ok (.aload_n 1, 1) := by decide +kernel
theorem dL_law_1371 : decode code 1371 = .ok (.aload_n 0, 1) := by decide +kernel
theorem dL_law_1372 : decode code 1372 = .ok (.iload_n 3, 1) := by decide +kernel
theorem dL_law_1373 : decode code 1373 = .ok (.iconst 1, 1) := by decide +kernel
theorem dL_law_1374 : decode code 1374 = .ok (.iadd, 1) := by decide +kernel
theorem dL_law_1375 : decode code 1375 = .ok (.iaload, 1) := by decide +kernel
theorem dL_law_1376 : decode code 1376 = .ok (.aload_n 0, 1) := by decide +kernel
theorem dL_law_1377 : decode code 1377 = .ok (.iload_n 3, 1) := by decide +kernel
theorem dL_law_1378 : decode code 1378 = .ok (.iconst 2, 1) := by decide +kernel
theorem dL_law_1379 : decode code 1379 = .ok (.iadd, 1) := by decide +kernel
theorem dL_law_1380 : decode code 1380 = .ok (.iaload, 1) := by decide +kernel
theorem dL_law_1381 : decode code 1381 = .ok (.aload_n 0, 1) := by decide +kernel
theorem dL_law_1382 : decode code 1382 = .ok (.iload_n 3, 1) := by decide +kernel
theorem dL_law_1383 : decode code 1383 = .ok (.iconst 3, 1) := by decide +kernel
theorem dL_law_1384 : decode code 1384 = .ok (.iadd, 1) := by decide +kernel
theorem dL_law_1385 : decode code 1385 = .ok (.iaload, 1) := by decide +kernel
theorem dL_law_1386 : decode code 1386 = .ok (.invokevirtual 127, 3) := by decide +kernel
theorem dL_law_1389 : decode code 1389 = .ok (.aload_n 2, 1) := by decide +kernel
theorem dL_law_1390 : decode code 1390 = .ok (.aload_n 0, 1) := by decide +kernel
theorem dL_law_1391 : decode code 1391 = .ok (.iload_n 3, 1) := by decide +kernel
theorem dL_law_1392 : decode code 1392 = .ok (.iconst 1, 1) := by decide +kernel
theorem dL_law_1393 : decode code 1393 = .ok (.iadd, 1) := by decide +kernel
theorem dL_law_1394 : decode code 1394 = .ok (.iaload, 1) := by decide +kernel
theorem dL_law_1395 : decode code 1395 = .ok (.aload_n 0, 1) := by decide +kernel
theorem dL_law_1396 : decode code 1396 = .ok (.iload_n 3, 1) := by decide +kernel
theorem dL_law_1397 : decode code 1397 = .ok (.iconst 2, 1) := by decide +kernel
theorem dL_law_1398 : decode code 1398 = .ok (.iadd, 1) := by decide +kernel
theorem dL_law_1399 : decode code 1399 = .ok (.iaload, 1) := by decide +kernel
theorem dL_law_1400 : decode code 1400 = .ok (.aload_n 0, 1) := by decide +kernel
theorem dL_law_1401 : decode code 1401 = .ok (.iload_n 3, 1) := by decide +kernel
theorem dL_law_1402 : decode code 1402 = .ok (.iconst 3, 1) := by decide +kernel
theorem dL_law_1403 : decode code 1403 = .ok (.iadd, 1) := by decide +kernel
theorem dL_law_1404 : decode code 1404 = .ok (.iaload, 1) := by decide +kernel
theorem dL_law_1405 : decode code 1405 = .ok (.invokevirtual 130, 3) := by decide +kernel
theorem dL_law_1408 : decode code 1408 = .ok (.if_icmp .eq 259, 3) := by decide +kernel
theorem dL_law_1411 : decode code 1411 = .ok (.iconst 0, 1) := by decide +kernel
theorem dL_law_1412 : decode code 1412 = .ok (.ireturn, 1) := by decide +kernel
theorem dL_law_1413 : decode code 1413 = .ok (.aload_n 1, 1) := by decide +kernel
theorem dL_law_1414 : decode code 1414 = .ok (.aload_n 0, 1) := by decide +kernel
theorem dL_law_1415 : decode code 1415 = .ok (.iload_n 3, 1) := by decide +kernel
theorem dL_law_1416 : decode code 1416 = .ok (.iconst 1, 1) := by decide +kernel
theorem dL_law_1417 : decode code 1417 = .ok (.iadd, 1) := by decide +kernel
theorem dL_law_1418 : decode code 1418 = .ok (.iaload, 1) := by decide +kernel
theorem dL_law_1419 : decode code 1419 = .ok (.aload_n 0, 1) := by decide +kernel
theorem dL_law_1420 : decode code 1420 = .ok (.iload_n 3, 1) := by decide +kernel
theorem dL_law_1421 : decode code 1421 = .ok (.iconst 2, 1) := by decide +kernel
theorem dL_law_1422 : decode code 1422 = .ok (.iadd, 1) := by decide +kernel
theorem dL_law_1423 : decode code 1423 = .ok (.iaload, 1) := by decide +kernel
theorem dL_law_1424 : decode code 1424 = .ok (.aload_n 0, 1) := by decide +kernel
theorem dL_law_1425 : decode code 1425 = .ok (.iload_n 3, 1) := by decide +kernel
theorem dL_law_1426 : decode code 1426 = .ok (.iconst 3, 1) := by decide +kernel
theorem dL_law_1427 : decode code 1427 = .ok (.iadd, 1) := by decide +kernel
theorem dL_law_1428 : decode code 1428 = .ok (.iaload, 1) := by decide +kernel
theorem dL_law_1429 : decode code 1429 = .ok (.invokevirtual 131, 3) := by decide +kernel
theorem dL_law_1432 : decode code 1432 = .ok (.aload_n 2, 1) := by decide +kernel
theorem dL_law_1433 : decode code 1433 = .ok (.aload_n 0, 1) := by decide +kernel
theorem dL_law_1434 : decode code 1434 = .ok (.iload_n 3, 1) := by decide +kernel
theorem dL_law_1435 : decode code 1435 = .ok (.iconst 1, 1) := by decide +kernel
theorem dL_law_1436 : decode code 1436 = .ok (.iadd, 1) := by decide +kernel
theorem dL_law_1437 : decode code 1437 = .ok (.iaload, 1) := by decide +kernel
theorem dL_law_1438 : decode code 1438 = .ok (.aload_n 0, 1) := by decide +kernel
theorem dL_law_1439 : decode code 1439 = .ok (.iload_n 3, 1) := by decide +kernel
theorem dL_law_1440 : decode code 1440 = .ok (.iconst 2, 1) := by decide +kernel
theorem dL_law_1441 : decode code 1441 = .ok (.iadd, 1) := by decide +kernel
theorem dL_law_1442 : decode code 1442 = .ok (.iaload, 1) := by decide +kernel
theorem dL_law_1443 : decode code 1443 = .ok (.aload_n 0, 1) := by decide +kernel
theorem dL_law_1444 : decode code 1444 = .ok (.iload_n 3, 1) := by decide +kernel
theorem dL_law_1445 : decode code 1445 = .ok (.iconst 3, 1) := by decide +kernel
theorem dL_law_1446 : decode code 1446 = .ok (.iadd, 1) := by decide +kernel
theorem dL_law_1447 : decode code 1447 = .ok (.iaload, 1) := by decide +kernel
theorem dL_law_1448 : decode code 1448 = .ok (.invokevirtual 134, 3) := by decide +kernel
theorem dL_law_1451 : decode code 1451 = .ok (.if_icmp .eq 216, 3) := by decide +kernel
theorem dL_law_1454 : decode code 1454 = .ok (.iconst 0, 1) := by decide +kernel
theorem dL_law_1455 : decode code 1455 = .ok (.ireturn, 1) := by decide +kernel
theorem dL_law_1456 : decode code 1456 = .ok (.aload_n 1, 1) := by decide +kernel
theorem dL_law_1457 : decode code 1457 = .ok (.aload_n 0, 1) := by decide +kernel
theorem dL_law_1458 : decode code 1458 = .ok (.iload_n 3, 1) := by decide +kernel
theorem dL_law_1459 : decode code 1459 = .ok (.iconst 1, 1) := by decide +kernel
theorem dL_law_1460 : decode code 1460 = .ok (.iadd, 1) := by decide +kernel
theorem dL_law_1461 : decode code 1461 = .ok (.iaload, 1) := by decide +kernel
theorem dL_law_1462 : decode code 1462 = .ok (.aload_n 0, 1) := by decide +kernel
theorem dL_law_1463 : decode code 1463 = .ok (.iload_n 3, 1) := by decide +kernel
theorem dL_law_1464 : decode code 1464 = .ok (.iconst 2, 1) := by decide +kernel
theorem dL_law_1465 : decode code 1465 = .ok (.iadd, 1) := by decide +kernel
theorem dL_law_1466 : decode code 1466 = .ok (.iaload, 1) := by decide +kernel
theorem dL_law_1467 : decode code 1467 = .ok (.invokevirtual 135, 3) := by decide +kernel
theorem dL_law_1470 : decode code 1470 = .ok (.aload_n 2, 1) := by decide +kernel
theorem dL_law_1471 : decode code 1471 = .ok (.aload_n 0, 1) := by decide +kernel
theorem dL_law_1472 : decode code 1472 = .ok (.iload_n 3, 1) := by decide +kernel
theorem dL_law_1473 : decode code 1473 = .ok (.iconst 1, 1) := by decide +kernel
theorem dL_law_1474 : decode code 1474 = .ok (.iadd, 1) := by decide +kernel
theorem dL_law_1475 : decode code 1475 = .ok (.iaload, 1) := by decide +kernel
theorem dL_law_1476 : decode code 1476 = .ok (.aload_n 0, 1) := by decide +kernel
theorem dL_law_1477 : decode code 1477 = .ok (.iload_n 3, 1) := by decide +kernel
theorem dL_law_1478 : decode code 1478 = .ok (.iconst 2, 1) := by decide +kernel
theorem dL_law_1479 : decode code 1479 = .ok (.iadd, 1) := by decide +kernel
theorem dL_law_1480 : decode code 1480 = .ok (.iaload, 1) := by decide +kernel
theorem dL_law_1481 : decode code 1481 = .ok (.invokevirtual 138, 3) := by decide +kernel
theorem dL_law_1484 : decode code 1484 = .ok (.if_icmp .eq 183, 3) := by decide +kernel
theorem dL_law_1487 : decode code 1487 = .ok (.iconst 0, 1) := by decide +kernel
theorem dL_law_1488 : decode code 1488 = .ok (.ireturn, 1) := by decide +kernel
theorem dL_law_1489 : decode code 1489 = .ok (.aload_n 1, 1) := by decide +kernel
theorem dL_law_1490 : decode code 1490 = .ok (.aload_n 0, 1) := by decide +kernel
theorem dL_law_1491 : decode code 1491 = .ok (.iload_n 3, 1) := by decide +kernel
theorem dL_law_1492 : decode code 1492 = .ok (.iconst 1, 1) := by decide +kernel
theorem dL_law_1493 : decode code 1493 = .ok (.iadd, 1) := by decide +kernel
theorem dL_law_1494 : decode code 1494 = .ok (.iaload, 1) := by decide +kernel
theorem dL_law_1495 : decode code 1495 = .ok (.aload_n 0, 1) := by decide +kernel
theorem dL_law_1496 : decode code 1496 = .ok (.iload_n 3, 1) := by decide +kernel
theorem dL_law_1497 : decode code 1497 = .ok (.iconst 2, 1) := by decide +kernel
theorem dL_law_1498 : decode code 1498 = .ok (.iadd, 1) := by decide +kernel
theorem dL_law_1499 : decode code 1499 = .ok (.iaload, 1) := by decide +kernel
theorem dL_law_1500 : decode code 1500 = .ok (.aload_n 0, 1) := by decide +kernel
theorem dL_law_1501 : decode code 1501 = .ok (.iload_n 3, 1) := by decide +kernel
theorem dL_law_1502 : decode code 1502 = .ok (.iconst 3, 1) := by decide +kernel
theorem dL_law_1503 : decode code 1503 = .ok (.iadd, 1) := by decide +kernel
theorem dL_law_1504 : decode code 1504 = .ok (.iaload, 1) := by decide +kernel
theorem dL_law_1505 : decode code 1505 = .ok (.invokevirtual 139, 3) := by decide +kernel
theorem dL_law_1508 : decode code 1508 = .ok (.aload_n 2, 1) := by decide +kernel
theorem dL_law_1509 : decode code 1509 = .ok (.aload_n 0, 1) := by decide +kernel
theorem dL_law_1510 : decode code 1510 = .ok (.iload_n 3, 1) := by decide +kernel
theorem dL_law_1511 : decode code 1511 = .ok (.iconst 1, 1) := by decide +kernel
theorem dL_law_1512 : decode code 1512 = .ok (.iadd, 1) := by decide +kernel
theorem dL_law_1513 : decode code 1513 = .ok (.iaload, 1) := by decide +kernel
theorem dL_law_1514 : decode code 1514 = .ok (.aload_n 0, 1) := by decide +kernel
theorem dL_law_1515 : decode code 1515 = .ok (.iload_n 3, 1) := by decide +kernel
theorem dL_law_1516 : decode code 1516 = .ok (.iconst 2, 1) := by decide +kernel
theorem dL_law_1517 : decode code 1517 = .ok (.iadd, 1) := by decide +kernel
theorem dL_law_1518 : decode code 1518 = .ok (.iaload, 1) := by decide +kernel
theorem dL_law_1519 : decode code 1519 = .ok (.aload_n 0, 1) := by decide +kernel
theorem dL_law_1520 : decode code 1520 = .ok (.iload_n 3, 1) := by decide +kernel
theorem dL_law_1521 : decode code 1521 = .ok (.iconst 3, 1) := by decide +kernel
theorem dL_law_1522 : decode code 1522 = .ok (.iadd, 1) := by decide +kernel
theorem dL_law_1523 : decode code 1523 = .ok (.iaload, 1) := by decide +kernel
theorem dL_law_1524 : decode code 1524 = .ok (.invokevirtual 142, 3) := by decide +kernel
theorem dL_law_1527 : decode code 1527 = .ok (.if_icmp .eq 140, 3) := by decide +kernel
theorem dL_law_1530 : decode code 1530 = .ok (.iconst 0, 1) := by decide +kernel
theorem dL_law_1531 : decode code 1531 = .ok (.ireturn, 1) := by decide +kernel
theorem dL_law_1532 : decode code 1532 = .ok (.aload_n 1, 1) := by decide +kernel
theorem dL_law_1533 : decode code 1533 = .ok (.aload_n 0, 1) := by decide +kernel
theorem dL_law_1534 : decode code 1534 = .ok (.iload_n 3, 1) := by decide +kernel
theorem dL_law_1535 : decode code 1535 = .ok (.iconst 1, 1) := by decide +kernel
theorem dL_law_1536 : decode code 1536 = .ok (.iadd, 1) := by decide +kernel
theorem dL_law_1537 : decode code 1537 = .ok (.iaload, 1) := by decide +kernel
theorem dL_law_1538 : decode code 1538 = .ok (.aload_n 0, 1) := by decide +kernel
theorem dL_law_1539 : decode code 1539 = .ok (.iload_n 3, 1) := by decide +kernel
theorem dL_law_1540 : decode code 1540 = .ok (.iconst 2, 1) := by decide +kernel
theorem dL_law_1541 : decode code 1541 = .ok (.iadd, 1) := by decide +kernel
theorem dL_law_1542 : decode code 1542 = .ok (.iaload, 1) := by decide +kernel
theorem dL_law_1543 : decode code 1543 = .ok (.invokevirtual 143, 3) := by decide +kernel
theorem dL_law_1546 : decode code 1546 = .ok (.aload_n 2, 1) := by decide +kernel
theorem dL_law_1547 : decode code 1547 = .ok (.aload_n 0, 1) := by decide +kernel
theorem dL_law_1548 : decode code 1548 = .ok (.iload_n 3, 1) := by decide +kernel
theorem dL_law_1549 : decode code 1549 = .ok (.iconst 1, 1) := by decide +kernel
theorem dL_law_1550 : decode code 1550 = .ok (.iadd, 1) := by decide +kernel
theorem dL_law_1551 : decode code 1551 = .ok (.iaload, 1) := by decide +kernel
theorem dL_law_1552 : decode code 1552 = .ok (.aload_n 0, 1) := by decide +kernel
theorem dL_law_1553 : decode code 1553 = .ok (.iload_n 3, 1) := by decide +kernel
theorem dL_law_1554 : decode code 1554 = .ok (.iconst 2, 1) := by decide +kernel
theorem dL_law_1555 : decode code 1555 = .ok (.iadd, 1) := by decide +kernel
theorem dL_law_1556 : decode code 1556 = .ok (.iaload, 1) := by decide +kernel
theorem dL_law_1557 : decode code 1557 = .ok (.invokevirtual 146, 3) := by decide +kernel
theorem dL_law_1560 : decode code 1560 = .ok (.if_icmp .eq 107, 3) := by decide +kernel
theorem dL_law_1563 : decode code 1563 = .ok (.iconst 0, 1) := by decide +kernel
theorem dL_law_1564 : decode code 1564 = .ok (.ireturn, 1) := by decide +kernel
theorem dL_law_1565 : decode code 1565 = .ok (.aload_n 1, 1) := by decide +kernel
theorem dL_law_1566 : decode code 1566 = .ok (.aload_n 0, 1) := by decide +kernel
theorem dL_law_1567 : decode code 1567 = .ok (.iload_n 3, 1) := by decide +kernel
theorem dL_law_1568 : decode code 1568 = .ok (.iconst 1, 1) := by decide +kernel
theorem dL_law_1569 : decode code 1569 = .ok (.iadd, 1) := by decide +kernel
theorem dL_law_1570 : decode code 1570 = .ok (.iaload, 1) := by decide +kernel
theorem dL_law_1571 : decode code 1571 = .ok (.aload_n 0, 1) := by decide +kernel
theorem dL_law_1572 : decode code 1572 = .ok (.iload_n 3, 1) := by decide +kernel
theorem dL_law_1573 : decode code 1573 = .ok (.iconst 2, 1) := by decide +kernel
theorem dL_law_1574 : decode code 1574 = .ok (.iadd, 1) := by decide +kernel
theorem dL_law_1575 : decode code 1575 = .ok (.iaload, 1) := by decide +kernel
theorem dL_law_1576 : decode code 1576 = .ok (.invokevirtual 147, 3) := by decide +kernel
theorem dL_law_1579 : decode code 1579 = .ok (.aload_n 2, 1) := by decide +kernel
theorem dL_law_1580 : decode code 1580 = .ok (.aload_n 0, 1) := by decide +kernel
theorem dL_law_1581 : decode code 1581 = .ok (.iload_n 3, 1) := by decide +kernel
theorem dL_law_1582 : decode code 1582 = .ok (.iconst 1, 1) := by decide +kernel
theorem dL_law_1583 : decode code 1583 = .ok (.iadd, 1) := by decide +kernel
theorem dL_law_1584 : decode code 1584 = .ok (.iaload, 1) := by decide +kernel
theorem dL_law_1585 : decode code 1585 = .ok (.aload_n 0, 1) := by decide +kernel
theorem dL_law_1586 : decode code 1586 = .ok (.iload_n 3, 1) := by decide +kernel
theorem dL_law_1587 : decode code 1587 = .ok (.iconst 2, 1) := by decide +kernel
theorem dL_law_1588 : decode code 1588 = .ok (.iadd, 1) := by decide +kernel
theorem dL_law_1589 : decode code 1589 = .ok (.iaload, 1) := by decide +kernel
theorem dL_law_1590 : decode code 1590 = .ok (.invokevirtual 150, 3) := by decide +kernel
theorem dL_law_1593 : decode code 1593 = .ok (.if_icmp .eq 74, 3) := by decide +kernel
theorem dL_law_1596 : decode code 1596 = .ok (.iconst 0, 1) := by decide +kernel
theorem dL_law_1597 : decode code 1597 = .ok (.ireturn, 1) := by decide +kernel
theorem dL_law_1598 : decode code 1598 = .ok (.aload_n 1, 1) := by decide +kernel
theorem dL_law_1599 : decode code 1599 = .ok (.aload_n 0, 1) := by decide +kernel
theorem dL_law_1600 : decode code 1600 = .ok (.iload_n 3, 1) := by decide +kernel
theorem dL_law_1601 : decode code 1601 = .ok (.iconst 1, 1) := by decide +kernel
theorem dL_law_1602 : decode code 1602 = .ok (.iadd, 1) := by decide +kernel
theorem dL_law_1603 : decode code 1603 = .ok (.iaload, 1) := by decide +kernel
theorem dL_law_1604 : decode code 1604 = .ok (.invokevirtual 151, 3) := by decide +kernel
theorem dL_law_1607 : decode code 1607 = .ok (.aload_n 2, 1) := by decide +kernel
theorem dL_law_1608 : decode code 1608 = .ok (.aload_n 0, 1) := by decide +kernel
theorem dL_law_1609 : decode code 1609 = .ok (.iload_n 3, 1) := by decide +kernel
theorem dL_law_1610 : decode code 1610 = .ok (.iconst 1, 1) := by decide +kernel
theorem dL_law_1611 : decode code 1611 = .ok (.iadd, 1) := by decide +kernel
theorem dL_law_1612 : decode code 1612 = .ok (.iaload, 1) := by decide +kernel
theorem dL_law_1613 : decode code 1613 = .ok (.invokevirtual 154, 3) := by decide +kernel
theorem dL_law_1616 : decode code 1616 = .ok (.if_icmp .eq 51, 3) := by decide +kernel
theorem dL_law_1619 : decode code 1619 = .ok (.iconst 0, 1) := by decide +kernel
theorem dL_law_1620 : decode code 1620 = .ok (.ireturn, 1) := by decide +kernel
theorem dL_law_1621 : decode code 1621 = .ok (.aload_n 1, 1) := by decide +kernel
theorem dL_law_1622 : decode code 1622 = .ok (.aload_n 0, 1) := by decide +kernel
theorem dL_law_1623 : decode code 1623 = .ok (.iload_n 3, 1) := by decide +kernel
theorem dL_law_1624 : decode code 1624 = .ok (.iconst 1, 1) := by decide +kernel
theorem dL_law_1625 : decode code 1625 = .ok (.iadd, 1) := by decide +kernel
theorem dL_law_1626 : decode code 1626 = .ok (.iaload, 1) := by decide +kernel
theorem dL_law_1627 : decode code 1627 = .ok (.invokevirtual 155, 3) := by decide +kernel
theorem dL_law_1630 : decode code 1630 = .ok (.aload_n 2, 1) := by decide +kernel
theorem dL_law_1631 : decode code 1631 = .ok (.aload_n 0, 1) := by decide +kernel
theorem dL_law_1632 : decode code 1632 = .ok (.iload_n 3, 1) := by decide +kernel
theorem dL_law_1633 : decode code 1633 = .ok (.iconst 1, 1) := by decide +kernel
theorem dL_law_1634 : decode code 1634 = .ok (.iadd, 1) := by decide +kernel
theorem dL_law_1635 : decode code 1635 = .ok (.iaload, 1) := by decide +kernel
theorem dL_law_1636 : decode code 1636 = .ok (.invokevirtual 159, 3) := by decide +kernel
theorem dL_law_1639 : decode code 1639 = .ok (.if_icmp .eq 28, 3) := by decide +kernel
theorem dL_law_1642 : decode code 1642 = .ok (.iconst 0, 1) := by decide +kernel
theorem dL_law_1643 : decode code 1643 = .ok (.ireturn, 1) := by decide +kernel
theorem dL_law_1644 : decode code 1644 = .ok (.aload_n 1, 1) := by decide +kernel
theorem dL_law_1645 : decode code 1645 = .ok (.aload_n 0, 1) := by decide +kernel
theorem dL_law_1646 : decode code 1646 = .ok (.iload_n 3, 1) := by decide +kernel
theorem dL_law_1647 : decode code 1647 = .ok (.iconst 1, 1) := by decide +kernel
theorem dL_law_1648 : decode code 1648 = .ok (.iadd, 1) := by decide +kernel
theorem dL_law_1649 : decode code 1649 = .ok (.iaload, 1) := by decide +kernel
theorem dL_law_1650 : decode code 1650 = .ok (.invokevirtual 160, 3) := by decide +kernel
theorem dL_law_1653 : decode code 1653 = .ok (.aload_n 2, 1) := by decide +kernel
theorem dL_law_1654 : decode code 1654 = .ok (.aload_n 0, 1) := by decide +kernel
theorem dL_law_1655 : decode code 1655 = .ok (.iload_n 3, 1) := by decide +kernel
theorem dL_law_1656 : decode code 1656 = .ok (.iconst 1, 1) := by decide +kernel
theorem dL_law_1657 : decode code 1657 = .ok (.iadd, 1) := by decide +kernel
theorem dL_law_1658 : decode code 1658 = .ok (.iaload, 1) := by decide +kernel
theorem dL_law_1659 : decode code 1659 = .ok (.invokevirtual 163, 3) := by decide +kernel
theorem dL_law_1662 : decode code 1662 = .ok (.if_icmp .eq 5, 3) := by decide +kernel
theorem dL_law_1665 : decode code 1665 = .ok (.iconst 0, 1) := by decide +kernel
theorem dL_law_1666 : decode code 1666 = .ok (.ireturn, 1) := by decide +kernel
theorem dL_law_1667 : decode code 1667 = .ok (.iinc 3 6, 3) := by decide +kernel
theorem dL_law_1670 : decode code 1670 = .ok (.goto (-1652), 3) := by decide +kernel
theorem dL_law_1673 : decode code 1673 = .ok (.iconst 1, 1) := by decide +kernel
theorem dL_law_1674 : decode code 1674 = .ok (.ireturn, 1) := by decide +kernel
def L_law_18 (Ln : Nat) (xs : Nat → Int32) (k3 : gx_M → Option (Bool × gx_M)) : Nat → Int32 → gx_M → Option (Bool × gx_M)
  | 0, _, _ => none
  | n + 1, v3_1, μ2 => if ((Int32.ofNat Ln) - 6) < v3_1 then k3 μ2 else gx_ck (gx_ix v3_1 Ln = true) (gx_lt (fun (μ353 : gx_M) => L_law_18 Ln xs k3 n (v3_1 + 6) μ353) (fun J6 => gx_lt ((xs v3_1.toNatClampNeg) &&& 63) (fun (t7 : Int32) => if t7 = 0 then gx_ck (gx_ix (v3_1 + 1) Ln = true) (gx_ck (gx_ix (v3_1 + 2) Ln = true) (gx_ck (gx_ix (v3_1 + 3) Ln = true) (gx_ck (gx_ix (v3_1 + 4) Ln = true) (gx_ck (gx_ix (v3_1 + 5) Ln = true) (gx_bd (f_X11_feed (xs (v3_1 + 1).toNatClampNeg) (xs (v3_1 + 2).toNatClampNeg) (xs (v3_1 + 3).toNatClampNeg) (xs (v3_1 + 4).toNatClampNeg) (xs (v3_1 + 5).toNatClampNeg) μ2) (fun (r14 : Int32) (μ15 : gx_M) => gx_bd (f_X12_feed (xs (v3_1 + 1).toNatClampNeg) (xs (v3_1 + 2).toNatClampNeg) (xs (v3_1 + 3).toNatClampNeg) (xs (v3_1 + 4).toNatClampNeg) (xs (v3_1 + 5).toNatClampNeg) μ15) (fun (r16 : Int32) (μ17 : gx_M) => if r14 = r16 then J6 μ17 else some (false, μ17)))))))) else if t7 = 1 then gx_ck (gx_ix (v3_1 + 1) Ln = true) (gx_bd (f_X11_end (xs (v3_1 + 1).toNatClampNeg) μ2) (fun (r21 : Int32) (μ22 : gx_M) => gx_bd (f_X12_end (xs (v3_1 + 1).toNatClampNeg) μ22) (fun (r23 : Int32) (μ24 : gx_M) => if r21 = r23 then J6 μ24 else some (false, μ24)))) else if t7 = 2 then gx_ck (gx_ix (v3_1 + 1) Ln = true) (gx_ck (gx_ix (v3_1 + 2) Ln = true) (gx_bd (f_X11_text (xs (v3_1 + 1).toNatClampNeg) (xs (v3_1 + 2).toNatClampNeg) μ2) (fun (r29 : Int32) (μ30 : gx_M) => gx_bd (f_X12_text (xs (v3_1 + 1).toNatClampNeg) (xs (v3_1 + 2).toNatClampNeg) μ30) (fun (r31 : Int32) (μ32 : gx_M) => if r29 = r31 then J6 μ32 else some (false, μ32))))) else if t7 = 3 then gx_ck (gx_ix (v3_1 + 1) Ln = true) (gx_bd (f_X12_fault (xs (v3_1 + 1).toNatClampNeg) μ2) (fun (r36 : Int32) (μ37 : gx_M) => if (f_X11_fault (xs (v3_1 + 1).toNatClampNeg) μ2) = r36 then J6 μ37 else some (false, μ37))) else if t7 = 4 then gx_ck (gx_ix (v3_1 + 1) Ln = true) (gx_ck (gx_ix (v3_1 + 2) Ln = true) (gx_br (f_X11_street (xs (v3_1 + 1).toNatClampNeg) (xs (v3_1 + 2).toNatClampNeg) μ2) (fun (r42 : Int32) => gx_bd (f_X12_street (xs (v3_1 + 1).toNatClampNeg) (xs (v3_1 + 2).toNatClampNeg) μ2) (fun (r43 : Int32) (μ44 : gx_M) => if r42 = r43 then J6 μ44 else some (false, μ44))))) else if t7 = 5 then gx_ck (gx_ix (v3_1 + 1) Ln = true) (gx_ck (gx_ix (v3_1 + 2) Ln = true) (gx_ck (gx_ix (v3_1 + 3) Ln = true) (gx_br (f_X11_deed (xs (v3_1 + 1).toNatClampNeg) (xs (v3_1 + 2).toNatClampNeg) (xs (v3_1 + 3).toNatClampNeg) μ2) (fun (r50 : Int32) => gx_bd (f_X12_deed (xs (v3_1 + 1).toNatClampNeg) (xs (v3_1 + 2).toNatClampNeg) (xs (v3_1 + 3).toNatClampNeg) μ2) (fun (r51 : Int32) (μ52 : gx_M) => if r50 = r51 then J6 μ52 else some (false, μ52)))))) else if t7 = 6 then gx_ck (gx_ix (v3_1 + 1) Ln = true) (gx_ck (gx_ix (v3_1 + 2) Ln = true) (gx_bd (f_X11_till (xs (v3_1 + 1).toNatClampNeg) (xs (v3_1 + 2).toNatClampNeg) μ2) (fun (r57 : Int32) (μ58 : gx_M) => gx_bd (f_X12_till (xs (v3_1 + 1).toNatClampNeg) (xs (v3_1 + 2).toNatClampNeg) μ58) (fun (r59 : Int32) (μ60 : gx_M) => if r57 = r59 then J6 μ60 else some (false, μ60))))) else if t7 = 7 then gx_ck (gx_ix (v3_1 + 1) Ln = true) (gx_ck (gx_ix (v3_1 + 2) Ln = true) (gx_ck (gx_ix (v3_1 + 3) Ln = true) (gx_ck (gx_ix (v3_1 + 4) Ln = true) (gx_bd (f_X11_state (xs (v3_1 + 1).toNatClampNeg) (xs (v3_1 + 2).toNatClampNeg) (xs (v3_1 + 3).toNatClampNeg) (xs (v3_1 + 4).toNatClampNeg) μ2) (fun (r67 : Int32) (μ68 : gx_M) => gx_bd (f_X12_state (xs (v3_1 + 1).toNatClampNeg) (xs (v3_1 + 2).toNatClampNeg) (xs (v3_1 + 3).toNatClampNeg) (xs (v3_1 + 4).toNatClampNeg) μ68) (fun (r69 : Int32) (μ70 : gx_M) => if r67 = r69 then J6 μ70 else some (false, μ70))))))) else if t7 = 8 then gx_ck (gx_ix (v3_1 + 1) Ln = true) (gx_ck (gx_ix (v3_1 + 2) Ln = true) (gx_ck (gx_ix (v3_1 + 3) Ln = true) (gx_ck (gx_ix (v3_1 + 4) Ln = true) (gx_lt (fun (j0_79 : Bool) (μ80 : gx_M) => gx_bd (f_X11_run (xs (v3_1 + 1).toNatClampNeg) (xs (v3_1 + 2).toNatClampNeg) (xs (v3_1 + 3).toNatClampNeg) j0_79 μ80) (fun (r81 : Int32) (μ82 : gx_M) => gx_lt (fun (j0_85 : Bool) (μ86 : gx_M) => gx_bd (f_X12_run (xs (v3_1 + 1).toNatClampNeg) (xs (v3_1 + 2).toNatClampNeg) (xs (v3_1 + 3).toNatClampNeg) j0_85 μ86) (fun (r87 : Int32) (μ88 : gx_M) => if r81 = r87 then J6 μ88 else some (false, μ88))) (fun J83 => if (xs (v3_1 + 4).toNatClampNeg) = 0 then J83 false μ82 else J83 true μ82))) (fun J77 => if (xs (v3_1 + 4).toNatClampNeg) = 0 then J77 false μ2 else J77 true μ2))))) else if t7 = 9 then gx_ck (gx_ix (v3_1 + 1) Ln = true) (gx_ck (gx_ix (v3_1 + 2) Ln = true) (gx_ck (gx_ix (v3_1 + 3) Ln = true) (gx_ck (gx_ix (v3_1 + 4) Ln = true) (gx_bd (f_X11_errands (xs (v3_1 + 1).toNatClampNeg) (xs (v3_1 + 2).toNatClampNeg) (xs (v3_1 + 3).toNatClampNeg) (xs (v3_1 + 4).toNatClampNeg) μ2) (fun (r95 : Int32) (μ96 : gx_M) => gx_bd (f_X12_errands (xs (v3_1 + 1).toNatClampNeg) (xs (v3_1 + 2).toNatClampNeg) (xs (v3_1 + 3).toNatClampNeg) (xs (v3_1 + 4).toNatClampNeg) μ96) (fun (r97 : Int32) (μ98 : gx_M) => if r95 = r97 then J6 μ98 else some (false, μ98))))))) else if t7 = 10 then gx_ck (gx_ix (v3_1 + 1) Ln = true) (gx_ck (gx_ix (v3_1 + 2) Ln = true) (gx_ck (gx_ix (v3_1 + 3) Ln = true) (gx_lt (fun (j0_106 : Bool) (μ107 : gx_M) => gx_bd (f_X11_plan (xs (v3_1 + 1).toNatClampNeg) (xs (v3_1 + 2).toNatClampNeg) j0_106 μ107) (fun (r108 : Int32) (μ109 : gx_M) => gx_lt (fun (j0_112 : Bool) (μ113 : gx_M) => gx_bd (f_X12_plan (xs (v3_1 + 1).toNatClampNeg) (xs (v3_1 + 2).toNatClampNeg) j0_112 μ113) (fun (r114 : Int32) (μ115 : gx_M) => if r108 = r114 then J6 μ115 else some (false, μ115))) (fun J110 => if (xs (v3_1 + 3).toNatClampNeg) = 0 then J110 false μ109 else J110 true μ109))) (fun J104 => if (xs (v3_1 + 3).toNatClampNeg) = 0 then J104 false μ2 else J104 true μ2)))) else if t7 = 11 then gx_ck (gx_ix (v3_1 + 1) Ln = true) (gx_ck (gx_ix (v3_1 + 2) Ln = true) (gx_lt (fun (j0_122 : Bool) (μ123 : gx_M) => gx_bd (f_X11_halves (xs (v3_1 + 1).toNatClampNeg) j0_122 μ123) (fun (r124 : Int32) (μ125 : gx_M) => gx_lt (fun (j0_128 : Bool) (μ129 : gx_M) => gx_bd (f_X12_halves (xs (v3_1 + 1).toNatClampNeg) j0_128 μ129) (fun (r130 : Int32) (μ131 : gx_M) => if r124 = r130 then J6 μ131 else some (false, μ131))) (fun J126 => if (xs (v3_1 + 2).toNatClampNeg) = 0 then J126 false μ125 else J126 true μ125))) (fun J120 => if (xs (v3_1 + 2).toNatClampNeg) = 0 then J120 false μ2 else J120 true μ2))) else if t7 = 12 then gx_ck (gx_ix (v3_1 + 1) Ln = true) (gx_ck (gx_ix (v3_1 + 2) Ln = true) (gx_ck (gx_ix (v3_1 + 3) Ln = true) (gx_lt (fun (j0_139 : Bool) (μ140 : gx_M) => gx_br (f_X11_free (xs (v3_1 + 1).toNatClampNeg) (xs (v3_1 + 2).toNatClampNeg) j0_139 μ140) (fun (r141 : Int32) => gx_lt (fun (j0_144 : Bool) (μ145 : gx_M) => gx_bd (f_X12_free (xs (v3_1 + 1).toNatClampNeg) (xs (v3_1 + 2).toNatClampNeg) j0_144 μ145) (fun (r146 : Int32) (μ147 : gx_M) => if r141 = r146 then J6 μ147 else some (false, μ147))) (fun J142 => if (xs (v3_1 + 3).toNatClampNeg) = 0 then J142 false μ140 else J142 true μ140))) (fun J137 => if (xs (v3_1 + 3).toNatClampNeg) = 0 then J137 false μ2 else J137 true μ2)))) else if t7 = 13 then gx_ck (gx_ix (v3_1 + 1) Ln = true) (gx_ck (gx_ix (v3_1 + 2) Ln = true) (gx_ck (gx_ix (v3_1 + 3) Ln = true) (gx_bd (f_X11_corner (xs (v3_1 + 1).toNatClampNeg) (xs (v3_1 + 2).toNatClampNeg) (xs (v3_1 + 3).toNatClampNeg) μ2) (fun (r153 : Int32) (μ154 : gx_M) => gx_bd (f_X12_corner (xs (v3_1 + 1).toNatClampNeg) (xs (v3_1 + 2).toNatClampNeg) (xs (v3_1 + 3).toNatClampNeg) μ154) (fun (r155 : Int32) (μ156 : gx_M) => if r153 = r155 then J6 μ156 else some (false, μ156)))))) else if t7 = 14 then gx_ck (gx_ix (v3_1 + 1) Ln = true) (gx_ck (gx_ix (v3_1 + 2) Ln = true) (gx_ck (gx_ix (v3_1 + 3) Ln = true) (gx_ck (gx_ix (v3_1 + 4) Ln = true) (gx_lt (fun (j0_165 : Bool) (μ166 : gx_M) => gx_br (f_X11_tin (xs (v3_1 + 1).toNatClampNeg) (xs (v3_1 + 2).toNatClampNeg) (xs (v3_1 + 3).toNatClampNeg) j0_165 μ166) (fun (r167 : Int64) => gx_lt (fun (j0_170 : Bool) (μ171 : gx_M) => gx_bd (f_X12_tin (xs (v3_1 + 1).toNatClampNeg) (xs (v3_1 + 2).toNatClampNeg) (xs (v3_1 + 3).toNatClampNeg) j0_170 μ171) (fun (r172 : Int64) (μ173 : gx_M) => if r167 = r172 then J6 μ173 else some (false, μ173))) (fun J168 => if (xs (v3_1 + 4).toNatClampNeg) = 0 then J168 false μ166 else J168 true μ166))) (fun J163 => if (xs (v3_1 + 4).toNatClampNeg) = 0 then J163 false μ2 else J163 true μ2))))) else if t7 = 15 then gx_ck (gx_ix (v3_1 + 1) Ln = true) (gx_ck (gx_ix (v3_1 + 2) Ln = true) (gx_br (f_X11_waits (xs (v3_1 + 1).toNatClampNeg) (xs (v3_1 + 2).toNatClampNeg) μ2) (fun (r178 : Int64) => gx_bd (f_X12_waits (xs (v3_1 + 1).toNatClampNeg) (xs (v3_1 + 2).toNatClampNeg) μ2) (fun (r179 : Int64) (μ180 : gx_M) => if r178 = r179 then J6 μ180 else some (false, μ180))))) else if t7 = 16 then gx_ck (gx_ix (v3_1 + 1) Ln = true) (gx_ck (gx_ix (v3_1 + 2) Ln = true) (gx_ck (gx_ix (v3_1 + 3) Ln = true) (gx_br (f_X11_fact (xs (v3_1 + 1).toNatClampNeg) (xs (v3_1 + 2).toNatClampNeg) (xs (v3_1 + 3).toNatClampNeg) μ2) (fun (r186 : Int32) => gx_bd (f_X12_fact (xs (v3_1 + 1).toNatClampNeg) (xs (v3_1 + 2).toNatClampNeg) (xs (v3_1 + 3).toNatClampNeg) μ2) (fun (r187 : Int32) (μ188 : gx_M) => if r186 = r187 then J6 μ188 else some (false, μ188)))))) else if t7 = 17 then gx_ck (gx_ix (v3_1 + 1) Ln = true) (gx_ck (gx_ix (v3_1 + 2) Ln = true) (gx_bd (f_X11_fits (xs (v3_1 + 1).toNatClampNeg) (xs (v3_1 + 2).toNatClampNeg) μ2) (fun (r193 : Int32) (μ194 : gx_M) => gx_bd (f_X12_fits (xs (v3_1 + 1).toNatClampNeg) (xs (v3_1 + 2).toNatClampNeg) μ194) (fun (r195 : Int32) (μ196 : gx_M) => if r193 = r195 then J6 μ196 else some (false, μ196))))) else if t7 = 18 then gx_ck (gx_ix (v3_1 + 1) Ln = true) (gx_ck (gx_ix (v3_1 + 2) Ln = true) (gx_bd (f_X11_swap (xs (v3_1 + 1).toNatClampNeg) (xs (v3_1 + 2).toNatClampNeg) μ2) (fun (r201 : Int32) (μ202 : gx_M) => gx_bd (f_X12_swap (xs (v3_1 + 1).toNatClampNeg) (xs (v3_1 + 2).toNatClampNeg) μ202) (fun (r203 : Int32) (μ204 : gx_M) => if r201 = r203 then J6 μ204 else some (false, μ204))))) else if t7 = 19 then gx_ck (gx_ix (v3_1 + 1) Ln = true) (gx_ck (gx_ix (v3_1 + 2) Ln = true) (gx_ck (gx_ix (v3_1 + 3) Ln = true) (gx_ck (gx_ix (v3_1 + 4) Ln = true) (gx_bd (f_X11_drawn (xs (v3_1 + 1).toNatClampNeg) (xs (v3_1 + 2).toNatClampNeg) (xs (v3_1 + 3).toNatClampNeg) (xs (v3_1 + 4).toNatClampNeg) μ2) (fun (r211 : Int32) (μ212 : gx_M) => gx_bd (f_X12_drawn (xs (v3_1 + 1).toNatClampNeg) (xs (v3_1 + 2).toNatClampNeg) (xs (v3_1 + 3).toNatClampNeg) (xs (v3_1 + 4).toNatClampNeg) μ212) (fun (r213 : Int32) (μ214 : gx_M) => if r211 = r213 then J6 μ214 else some (false, μ214))))))) else if t7 = 20 then gx_ck (gx_ix (v3_1 + 1) Ln = true) (gx_ck (gx_ix (v3_1 + 2) Ln = true) (gx_ck (gx_ix (v3_1 + 3) Ln = true) (gx_bd (f_X11_robbed (xs (v3_1 + 1).toNatClampNeg) (xs (v3_1 + 2).toNatClampNeg) (xs (v3_1 + 3).toNatClampNeg) μ2) (fun (r220 : Int32) (μ221 : gx_M) => gx_bd (f_X12_robbed (xs (v3_1 + 1).toNatClampNeg) (xs (v3_1 + 2).toNatClampNeg) (xs (v3_1 + 3).toNatClampNeg) μ221) (fun (r222 : Int32) (μ223 : gx_M) => if r220 = r222 then J6 μ223 else some (false, μ223)))))) else if t7 = 21 then gx_ck (gx_ix (v3_1 + 1) Ln = true) (gx_ck (gx_ix (v3_1 + 2) Ln = true) (gx_ck (gx_ix (v3_1 + 3) Ln = true) (gx_br (f_X11_shared (xs (v3_1 + 1).toNatClampNeg) (xs (v3_1 + 2).toNatClampNeg) (xs (v3_1 + 3).toNatClampNeg) μ2) (fun (r229 : Int32) => gx_bd (f_X12_shared (xs (v3_1 + 1).toNatClampNeg) (xs (v3_1 + 2).toNatClampNeg) (xs (v3_1 + 3).toNatClampNeg) μ2) (fun (r230 : Int32) (μ231 : gx_M) => if r229 = r230 then J6 μ231 else some (false, μ231)))))) else if t7 = 22 then gx_ck (gx_ix (v3_1 + 1) Ln = true) (gx_ck (gx_ix (v3_1 + 2) Ln = true) (gx_ck (gx_ix (v3_1 + 3) Ln = true) (gx_ck (gx_ix (v3_1 + 4) Ln = true) (gx_lt (fun (j0_240 : Bool) (μ241 : gx_M) => gx_bd (f_X11_gift (xs (v3_1 + 1).toNatClampNeg) (xs (v3_1 + 2).toNatClampNeg) (xs (v3_1 + 3).toNatClampNeg) j0_240 μ241) (fun (r242 : Int32) (μ243 : gx_M) => gx_lt (fun (j0_246 : Bool) (μ247 : gx_M) => gx_bd (f_X12_gift (xs (v3_1 + 1).toNatClampNeg) (xs (v3_1 + 2).toNatClampNeg) (xs (v3_1 + 3).toNatClampNeg) j0_246 μ247) (fun (r248 : Int32) (μ249 : gx_M) => if r242 = r248 then J6 μ249 else some (false, μ249))) (fun J244 => if (xs (v3_1 + 4).toNatClampNeg) = 0 then J244 false μ243 else J244 true μ243))) (fun J238 => if (xs (v3_1 + 4).toNatClampNeg) = 0 then J238 false μ2 else J238 true μ2))))) else if t7 = 23 then gx_ck (gx_ix (v3_1 + 1) Ln = true) (gx_ck (gx_ix (v3_1 + 2) Ln = true) (gx_ck (gx_ix (v3_1 + 3) Ln = true) (gx_bd (f_X11_missed (xs (v3_1 + 1).toNatClampNeg) (xs (v3_1 + 2).toNatClampNeg) (xs (v3_1 + 3).toNatClampNeg) μ2) (fun (r255 : Int32) (μ256 : gx_M) => gx_bd (f_X12_missed (xs (v3_1 + 1).toNatClampNeg) (xs (v3_1 + 2).toNatClampNeg) (xs (v3_1 + 3).toNatClampNeg) μ256) (fun (r257 : Int32) (μ258 : gx_M) => if r255 = r257 then J6 μ258 else some (false, μ258)))))) else if t7 = 24 then gx_ck (gx_ix (v3_1 + 1) Ln = true) (gx_ck (gx_ix (v3_1 + 2) Ln = true) (gx_lt (fun (j0_265 : Bool) (μ266 : gx_M) => gx_br (f_X11_wanted (xs (v3_1 + 1).toNatClampNeg) j0_265 μ266) (fun (r267 : Int32) => gx_lt (fun (j0_270 : Bool) (μ271 : gx_M) => gx_bd (f_X12_wanted (xs (v3_1 + 1).toNatClampNeg) j0_270 μ271) (fun (r272 : Int32) (μ273 : gx_M) => if r267 = r272 then J6 μ273 else some (false, μ273))) (fun J268 => if (xs (v3_1 + 2).toNatClampNeg) = 0 then J268 false μ266 else J268 true μ266))) (fun J263 => if (xs (v3_1 + 2).toNatClampNeg) = 0 then J263 false μ2 else J263 true μ2))) else if t7 = 25 then gx_ck (gx_ix (v3_1 + 1) Ln = true) (gx_ck (gx_ix (v3_1 + 2) Ln = true) (gx_bd (f_X11_left (xs (v3_1 + 1).toNatClampNeg) (xs (v3_1 + 2).toNatClampNeg) μ2) (fun (r278 : Int32) (μ279 : gx_M) => gx_bd (f_X12_left (xs (v3_1 + 1).toNatClampNeg) (xs (v3_1 + 2).toNatClampNeg) μ279) (fun (r280 : Int32) (μ281 : gx_M) => if r278 = r280 then J6 μ281 else some (false, μ281))))) else if t7 = 26 then gx_ck (gx_ix (v3_1 + 1) Ln = true) (gx_ck (gx_ix (v3_1 + 2) Ln = true) (gx_ck (gx_ix (v3_1 + 3) Ln = true) (gx_bd (f_X11_early (xs (v3_1 + 1).toNatClampNeg) (xs (v3_1 + 2).toNatClampNeg) (xs (v3_1 + 3).toNatClampNeg) μ2) (fun (r287 : Int32) (μ288 : gx_M) => gx_bd (f_X12_early (xs (v3_1 + 1).toNatClampNeg) (xs (v3_1 + 2).toNatClampNeg) (xs (v3_1 + 3).toNatClampNeg) μ288) (fun (r289 : Int32) (μ290 : gx_M) => if r287 = r289 then J6 μ290 else some (false, μ290)))))) else if t7 = 27 then gx_ck (gx_ix (v3_1 + 1) Ln = true) (gx_ck (gx_ix (v3_1 + 2) Ln = true) (gx_ck (gx_ix (v3_1 + 3) Ln = true) (gx_bd (f_X11_ranked (xs (v3_1 + 1).toNatClampNeg) (xs (v3_1 + 2).toNatClampNeg) (xs (v3_1 + 3).toNatClampNeg) μ2) (fun (r296 : Int32) (μ297 : gx_M) => gx_bd (f_X12_ranked (xs (v3_1 + 1).toNatClampNeg) (xs (v3_1 + 2).toNatClampNeg) (xs (v3_1 + 3).toNatClampNeg) μ297) (fun (r298 : Int32) (μ299 : gx_M) => if r296 = r298 then J6 μ299 else some (false, μ299)))))) else if t7 = 28 then gx_ck (gx_ix (v3_1 + 1) Ln = true) (gx_ck (gx_ix (v3_1 + 2) Ln = true) (gx_br (f_X11_enough (xs (v3_1 + 1).toNatClampNeg) (xs (v3_1 + 2).toNatClampNeg) μ2) (fun (r304 : Int32) => gx_bd (f_X12_enough (xs (v3_1 + 1).toNatClampNeg) (xs (v3_1 + 2).toNatClampNeg) μ2) (fun (r305 : Int32) (μ306 : gx_M) => if r304 = r305 then J6 μ306 else some (false, μ306))))) else if t7 = 29 then gx_ck (gx_ix (v3_1 + 1) Ln = true) (gx_ck (gx_ix (v3_1 + 2) Ln = true) (gx_ck (gx_ix (v3_1 + 3) Ln = true) (gx_bd (f_X11_after (xs (v3_1 + 1).toNatClampNeg) (xs (v3_1 + 2).toNatClampNeg) (xs (v3_1 + 3).toNatClampNeg) μ2) (fun (r312 : Int32) (μ313 : gx_M) => gx_bd (f_X12_after (xs (v3_1 + 1).toNatClampNeg) (xs (v3_1 + 2).toNatClampNeg) (xs (v3_1 + 3).toNatClampNeg) μ313) (fun (r314 : Int32) (μ315 : gx_M) => if r312 = r314 then J6 μ315 else some (false, μ315)))))) else if t7 = 30 then gx_ck (gx_ix (v3_1 + 1) Ln = true) (gx_ck (gx_ix (v3_1 + 2) Ln = true) (gx_bd (f_X11_span (xs (v3_1 + 1).toNatClampNeg) (xs (v3_1 + 2).toNatClampNeg) μ2) (fun (r320 : Int32) (μ321 : gx_M) => gx_bd (f_X12_span (xs (v3_1 + 1).toNatClampNeg) (xs (v3_1 + 2).toNatClampNeg) μ321) (fun (r322 : Int32) (μ323 : gx_M) => if r320 = r322 then J6 μ323 else some (false, μ323))))) else if t7 = 31 then gx_ck (gx_ix (v3_1 + 1) Ln = true) (gx_ck (gx_ix (v3_1 + 2) Ln = true) (gx_bd (f_X11_happy (xs (v3_1 + 1).toNatClampNeg) (xs (v3_1 + 2).toNatClampNeg) μ2) (fun (r328 : Int32) (μ329 : gx_M) => gx_bd (f_X12_happy (xs (v3_1 + 1).toNatClampNeg) (xs (v3_1 + 2).toNatClampNeg) μ329) (fun (r330 : Int32) (μ331 : gx_M) => if r328 = r330 then J6 μ331 else some (false, μ331))))) else if t7 = 32 then gx_ck (gx_ix (v3_1 + 1) Ln = true) (gx_br (f_X11_count (xs (v3_1 + 1).toNatClampNeg) μ2) (fun (r335 : Int32) => gx_bd (f_X12_count (xs (v3_1 + 1).toNatClampNeg) μ2) (fun (r336 : Int32) (μ337 : gx_M) => if r335 = r336 then J6 μ337 else some (false, μ337)))) else if t7 = 33 then gx_ck (gx_ix (v3_1 + 1) Ln = true) (gx_bd (f_X11_image (xs (v3_1 + 1).toNatClampNeg) μ2) (fun (r341 : Bool) (μ342 : gx_M) => gx_bd (f_X12_image (xs (v3_1 + 1).toNatClampNeg) μ342) (fun (r343 : Bool) (μ344 : gx_M) => if (gx_bi r341) = (gx_bi r343) then J6 μ344 else some (false, μ344)))) else if t7 = 34 then gx_ck (gx_ix (v3_1 + 1) Ln = true) (gx_bd (f_X11_again (xs (v3_1 + 1).toNatClampNeg) μ2) (fun (r348 : Bool) (μ349 : gx_M) => gx_bd (f_X12_again (xs (v3_1 + 1).toNatClampNeg) μ349) (fun (r350 : Bool) (μ351 : gx_M) => if (gx_bi r348) = (gx_bi r350) then J6 μ351 else some (false, μ351)))) else J6 μ2)))
def f_law (xs : Nat → Int32) (Ln : Nat) (μ : gx_M) : Option (Bool × gx_M) := L_law_18 Ln xs (fun (μ355 : gx_M) => some (true, μ355)) 4000 0 μ
theorem okL_law_18 {E : gx_E} {l : Launch} {Ln : Nat} {xs : Nat → Int32} {fk : Nat} {uq : Option Nat} {adK adV : Nat → Nat} (hE : gx_EX E fk uq adK adV) {b : Nat} (hB : gx_EB E b Ln xs) {k3 : gx_M → Option (Bool × gx_M)} (hk : ∀ (μ354 : gx_M), GoW E l Y_law 12 gx_eB 1673 [] [] μ354 (k3 μ354)) : ∀ (n : Nat) (v3_1 : Int32) (μ2 : gx_M), GoW E l Y_law 12 gx_eB 18 [some (.ref b), some (.ref (E.2.2.1 + 0)), some (.ref (E.2.2.1 + 206)), some (.int v3_1)] [] μ2 (L_law_18 Ln xs k3 n v3_1 μ2) := by
  intro n
  induction n with
  | zero => intros; exact W_no
  | succ n ih =>
    intro v3_1 μ2
    rw [L_law_18.eq_2]
    refine W_s (s_iload_n dL_law_18 rfl rfl) ?_
    refine W_s (s_aload_n dL_law_19 rfl rfl) ?_
    refine W_s (s_slen hB dL_law_20) ?_
    refine W_s (s_bipush dL_law_21 kcb_6) ?_
    refine W_s (s_isub dL_law_23) ?_
    refine W_ite (fun h4 => ?_) (fun h4 => ?_)
    · refine W_s (s_icmp_gt_t dL_law_24 rfl h4) ?_
      exact W_wk (hk μ2) le_n
    · refine W_s (s_icmp_gt_f dL_law_24 rfl h4) ?_
      refine W_s (s_aload_n dL_law_27 rfl rfl) ?_
      refine W_s (s_iload_n dL_law_28 rfl rfl) ?_
      refine W_ck (fun h5 => ?_)
      refine W_s (s_sld hB dL_law_29 (gx_ixv h5)) ?_
      refine W_s (s_bipush dL_law_30 kcb_63) ?_
      refine W_s (s_iand dL_law_32) ?_
      refine W_fun (fun J => ∀ (μ353 : gx_M), GoW E l Y_law 12 gx_eB 1667 [some (.ref b), some (.ref (E.2.2.1 + 0)), some (.ref (E.2.2.1 + 206)), some (.int v3_1)] [] μ353 (J μ353)) ?_ (fun J6 hJ6 => ?_)
      · intro μ353
        refine W_s (s_iinc dL_law_1667 rfl (kinc_6 v3_1) (Nat.le_of_ble_eq_true rfl)) ?_
        refine W_s (s_goto dL_law_1670 rfl) ?_
        exact W_wk (ih (v3_1 + 6) μ353) (le_s rfl (le_s rfl (le_s rfl (le_s rfl le_n))))
      · skip
        refine W_letI (fun t7 => ?_)
        refine W_ite (fun h8 => ?_) (fun h8 => ?_)
        · refine W_s (s_tsw_eq (c := 0) dL_law_33 h8 (by decide) (by decide) rfl rfl) ?_
          refine W_s (s_aload_n dL_law_188 rfl rfl) ?_
          refine W_s (s_aload_n dL_law_189 rfl rfl) ?_
          refine W_s (s_iload_n dL_law_190 rfl rfl) ?_
          refine W_s (s_iconst dL_law_191 kci_1) ?_
          refine W_s (s_iadd dL_law_192) ?_
          refine W_ck (fun h9 => ?_)
          refine W_s (s_sld hB dL_law_193 (gx_ixv h9)) ?_
          refine W_s (s_aload_n dL_law_194 rfl rfl) ?_
          refine W_s (s_iload_n dL_law_195 rfl rfl) ?_
          refine W_s (s_iconst dL_law_196 kci_2) ?_
          refine W_s (s_iadd dL_law_197) ?_
          refine W_ck (fun h10 => ?_)
          refine W_s (s_sld hB dL_law_198 (gx_ixv h10)) ?_
          refine W_s (s_aload_n dL_law_199 rfl rfl) ?_
          refine W_s (s_iload_n dL_law_200 rfl rfl) ?_
          refine W_s (s_iconst dL_law_201 kci_3) ?_
          refine W_s (s_iadd dL_law_202) ?_
          refine W_ck (fun h11 => ?_)
          refine W_s (s_sld hB dL_law_203 (gx_ixv h11)) ?_
          refine W_s (s_aload_n dL_law_204 rfl rfl) ?_
          refine W_s (s_iload_n dL_law_205 rfl rfl) ?_
          refine W_s (s_iconst dL_law_206 kci_4) ?_
          refine W_s (s_iadd dL_law_207) ?_
          refine W_ck (fun h12 => ?_)
          refine W_s (s_sld hB dL_law_208 (gx_ixv h12)) ?_
          refine W_s (s_aload_n dL_law_209 rfl rfl) ?_
          refine W_s (s_iload_n dL_law_210 rfl rfl) ?_
          refine W_s (s_iconst dL_law_211 kci_5) ?_
          refine W_s (s_iadd dL_law_212) ?_
          refine W_ck (fun h13 => ?_)
          refine W_s (s_sld hB dL_law_213 (gx_ixv h13)) ?_
          refine W_bd (ec := gx_eI) (fun r_ μ_ hr_ => s_callV (As := [.int _, .int _, .int _, .int _, .int _]) dL_law_214 Lk_RL_13 rfl g_0 (by decide) rfl (Nat.le_of_ble_eq_true rfl) (Nat.le_of_ble_eq_true rfl) (ev_X11_feed (xs (v3_1 + 1).toNatClampNeg) (xs (v3_1 + 2).toNatClampNeg) (xs (v3_1 + 3).toNatClampNeg) (xs (v3_1 + 4).toNatClampNeg) (xs (v3_1 + 5).toNatClampNeg) μ2 hr_)) (fun r14 μ15 => ?_)
          refine W_s (s_aload_n dL_law_217 rfl rfl) ?_
          refine W_s (s_aload_n dL_law_218 rfl rfl) ?_
          refine W_s (s_iload_n dL_law_219 rfl rfl) ?_
          refine W_s (s_iconst dL_law_220 kci_1) ?_
          refine W_s (s_iadd dL_law_221) ?_
          refine W_s (s_sld hB dL_law_222 (gx_ixv h9)) ?_
          refine W_s (s_aload_n dL_law_223 rfl rfl) ?_
          refine W_s (s_iload_n dL_law_224 rfl rfl) ?_
          refine W_s (s_iconst dL_law_225 kci_2) ?_
          refine W_s (s_iadd dL_law_226) ?_
          refine W_s (s_sld hB dL_law_227 (gx_ixv h10)) ?_
          refine W_s (s_aload_n dL_law_228 rfl rfl) ?_
          refine W_s (s_iload_n dL_law_229 rfl rfl) ?_
          refine W_s (s_iconst dL_law_230 kci_3) ?_
          refine W_s (s_iadd dL_law_231) ?_
          refine W_s (s_sld hB dL_law_232 (gx_ixv h11)) ?_
          refine W_s (s_aload_n dL_law_233 rfl rfl) ?_
          refine W_s (s_iload_n dL_law_234 rfl rfl) ?_
          refine W_s (s_iconst dL_law_235 kci_4) ?_
          refine W_s (s_iadd dL_law_236) ?_
          refine W_s (s_sld hB dL_law_237 (gx_ixv h12)) ?_
          refine W_s (s_aload_n dL_law_238 rfl rfl) ?_
          refine W_s (s_iload_n dL_law_239 rfl rfl) ?_
          refine W_s (s_iconst dL_law_240 kci_5) ?_
          refine W_s (s_iadd dL_law_241) ?_
          refine W_s (s_sld hB dL_law_242 (gx_ixv h13)) ?_
          refine W_bd (ec := gx_eI) (fun r_ μ_ hr_ => s_callV (As := [.int _, .int _, .int _, .int _, .int _]) dL_law_243 Lk_RL_17 rfl g_206 (by decide) rfl (Nat.le_of_ble_eq_true rfl) (Nat.le_of_ble_eq_true rfl) (ev_X12_feed (xs (v3_1 + 1).toNatClampNeg) (xs (v3_1 + 2).toNatClampNeg) (xs (v3_1 + 3).toNatClampNeg) (xs (v3_1 + 4).toNatClampNeg) (xs (v3_1 + 5).toNatClampNeg) μ15 hr_)) (fun r16 μ17 => ?_)
          refine W_ite (fun h18 => ?_) (fun h18 => ?_)
          · refine W_s (s_icmp_eq_t dL_law_246 rfl h18) ?_
            exact W_wk (hJ6 μ17) (le_s rfl (le_s rfl (le_s rfl (le_s rfl le_n))))
          · refine W_s (s_icmp_eq_f dL_law_246 rfl h18) ?_
            refine W_s (s_iconst dL_law_249 kci_0) ?_
            exact W_r (r := false) (f_int (ty := .boolean) (x := gx_bi false) dL_law_250 rfl (gx_bn false))
        · skip
          refine W_ite (fun h19 => ?_) (fun h19 => ?_)
          · refine W_s (s_tsw_eq (c := 1) dL_law_33 h19 (by decide) (by decide) rfl rfl) ?_
            refine W_s (s_aload_n dL_law_251 rfl rfl) ?_
            refine W_s (s_aload_n dL_law_252 rfl rfl) ?_
            refine W_s (s_iload_n dL_law_253 rfl rfl) ?_
            refine W_s (s_iconst dL_law_254 kci_1) ?_
            refine W_s (s_iadd dL_law_255) ?_
            refine W_ck (fun h20 => ?_)
            refine W_s (s_sld hB dL_law_256 (gx_ixv h20)) ?_
            refine W_bd (ec := gx_eI) (fun r_ μ_ hr_ => s_callV (As := [.int _]) dL_law_257 Lk_RL_18 rfl g_0 (by decide) rfl (Nat.le_of_ble_eq_true rfl) (Nat.le_of_ble_eq_true rfl) (ev_X11_end (xs (v3_1 + 1).toNatClampNeg) μ2 hr_)) (fun r21 μ22 => ?_)
            refine W_s (s_aload_n dL_law_260 rfl rfl) ?_
            refine W_s (s_aload_n dL_law_261 rfl rfl) ?_
            refine W_s (s_iload_n dL_law_262 rfl rfl) ?_
            refine W_s (s_iconst dL_law_263 kci_1) ?_
            refine W_s (s_iadd dL_law_264) ?_
            refine W_s (s_sld hB dL_law_265 (gx_ixv h20)) ?_
            refine W_bd (ec := gx_eI) (fun r_ μ_ hr_ => s_callV (As := [.int _]) dL_law_266 Lk_RL_22 rfl g_206 (by decide) rfl (Nat.le_of_ble_eq_true rfl) (Nat.le_of_ble_eq_true rfl) (ev_X12_end (xs (v3_1 + 1).toNatClampNeg) μ22 hr_)) (fun r23 μ24 => ?_)
            refine W_ite (fun h25 => ?_) (fun h25 => ?_)
            · refine W_s (s_icmp_eq_t dL_law_269 rfl h25) ?_
              exact W_wk (hJ6 μ24) (le_s rfl (le_s rfl (le_s rfl (le_s rfl le_n))))
            · refine W_s (s_icmp_eq_f dL_law_269 rfl h25) ?_
              refine W_s (s_iconst dL_law_272 kci_0) ?_
              exact W_r (r := false) (f_int (ty := .boolean) (x := gx_bi false) dL_law_273 rfl (gx_bn false))
          · skip
            refine W_ite (fun h26 => ?_) (fun h26 => ?_)
            · refine W_s (s_tsw_eq (c := 2) dL_law_33 h26 (by decide) (by decide) rfl rfl) ?_
              refine W_s (s_aload_n dL_law_274 rfl rfl) ?_
              refine W_s (s_aload_n dL_law_275 rfl rfl) ?_
              refine W_s (s_iload_n dL_law_276 rfl rfl) ?_
              refine W_s (s_iconst dL_law_277 kci_1) ?_
              refine W_s (s_iadd dL_law_278) ?_
              refine W_ck (fun h27 => ?_)
              refine W_s (s_sld hB dL_law_279 (gx_ixv h27)) ?_
              refine W_s (s_aload_n dL_law_280 rfl rfl) ?_
              refine W_s (s_iload_n dL_law_281 rfl rfl) ?_
              refine W_s (s_iconst dL_law_282 kci_2) ?_
              refine W_s (s_iadd dL_law_283) ?_
              refine W_ck (fun h28 => ?_)
              refine W_s (s_sld hB dL_law_284 (gx_ixv h28)) ?_
              refine W_bd (ec := gx_eI) (fun r_ μ_ hr_ => s_callV (As := [.int _, .int _]) dL_law_285 Lk_RL_23 rfl g_0 (by decide) rfl (Nat.le_of_ble_eq_true rfl) (Nat.le_of_ble_eq_true rfl) (ev_X11_text hE (xs (v3_1 + 1).toNatClampNeg) (xs (v3_1 + 2).toNatClampNeg) μ2 hr_)) (fun r29 μ30 => ?_)
              refine W_s (s_aload_n dL_law_288 rfl rfl) ?_
              refine W_s (s_aload_n dL_law_289 rfl rfl) ?_
              refine W_s (s_iload_n dL_law_290 rfl rfl) ?_
              refine W_s (s_iconst dL_law_291 kci_1) ?_
              refine W_s (s_iadd dL_law_292) ?_
              refine W_s (s_sld hB dL_law_293 (gx_ixv h27)) ?_
              refine W_s (s_aload_n dL_law_294 rfl rfl) ?_
              refine W_s (s_iload_n dL_law_295 rfl rfl) ?_
              refine W_s (s_iconst dL_law_296 kci_2) ?_
              refine W_s (s_iadd dL_law_297) ?_
              refine W_s (s_sld hB dL_law_298 (gx_ixv h28)) ?_
              refine W_bd (ec := gx_eI) (fun r_ μ_ hr_ => s_callV (As := [.int _, .int _]) dL_law_299 Lk_RL_27 rfl g_206 (by decide) rfl (Nat.le_of_ble_eq_true rfl) (Nat.le_of_ble_eq_true rfl) (ev_X12_text (xs (v3_1 + 1).toNatClampNeg) (xs (v3_1 + 2).toNatClampNeg) μ30 hr_)) (fun r31 μ32 => ?_)
              refine W_ite (fun h33 => ?_) (fun h33 => ?_)
              · refine W_s (s_icmp_eq_t dL_law_302 rfl h33) ?_
                exact W_wk (hJ6 μ32) (le_s rfl (le_s rfl (le_s rfl (le_s rfl le_n))))
              · refine W_s (s_icmp_eq_f dL_law_302 rfl h33) ?_
                refine W_s (s_iconst dL_law_305 kci_0) ?_
                exact W_r (r := false) (f_int (ty := .boolean) (x := gx_bi false) dL_law_306 rfl (gx_bn false))
            · skip
              refine W_ite (fun h34 => ?_) (fun h34 => ?_)
              · refine W_s (s_tsw_eq (c := 3) dL_law_33 h34 (by decide) (by decide) rfl rfl) ?_
                refine W_s (s_aload_n dL_law_307 rfl rfl) ?_
                refine W_s (s_aload_n dL_law_308 rfl rfl) ?_
                refine W_s (s_iload_n dL_law_309 rfl rfl) ?_
                refine W_s (s_iconst dL_law_310 kci_1) ?_
                refine W_s (s_iadd dL_law_311) ?_
                refine W_ck (fun h35 => ?_)
                refine W_s (s_sld hB dL_law_312 (gx_ixv h35)) ?_
                refine W_s (s_callV (As := [.int _]) dL_law_313 Lk_RL_28 rfl g_0 (by decide) rfl (Nat.le_of_ble_eq_true rfl) (Nat.le_of_ble_eq_true rfl) (ev_X11_fault (xs (v3_1 + 1).toNatClampNeg) μ2)) ?_
                refine W_s (s_aload_n dL_law_316 rfl rfl) ?_
                refine W_s (s_aload_n dL_law_317 rfl rfl) ?_
                refine W_s (s_iload_n dL_law_318 rfl rfl) ?_
                refine W_s (s_iconst dL_law_319 kci_1) ?_
                refine W_s (s_iadd dL_law_320) ?_
                refine W_s (s_sld hB dL_law_321 (gx_ixv h35)) ?_
                refine W_bd (ec := gx_eI) (fun r_ μ_ hr_ => s_callV (As := [.int _]) dL_law_322 Lk_RL_31 rfl g_206 (by decide) rfl (Nat.le_of_ble_eq_true rfl) (Nat.le_of_ble_eq_true rfl) (ev_X12_fault (xs (v3_1 + 1).toNatClampNeg) μ2 hr_)) (fun r36 μ37 => ?_)
                refine W_ite (fun h38 => ?_) (fun h38 => ?_)
                · refine W_s (s_icmp_eq_t dL_law_325 rfl h38) ?_
                  exact W_wk (hJ6 μ37) (le_s rfl (le_s rfl (le_s rfl (le_s rfl le_n))))
                · refine W_s (s_icmp_eq_f dL_law_325 rfl h38) ?_
                  refine W_s (s_iconst dL_law_328 kci_0) ?_
                  exact W_r (r := false) (f_int (ty := .boolean) (x := gx_bi false) dL_law_329 rfl (gx_bn false))
              · skip
                refine W_ite (fun h39 => ?_) (fun h39 => ?_)
                · refine W_s (s_tsw_eq (c := 4) dL_law_33 h39 (by decide) (by decide) rfl rfl) ?_
                  refine W_s (s_aload_n dL_law_330 rfl rfl) ?_
                  refine W_s (s_aload_n dL_law_331 rfl rfl) ?_
                  refine W_s (s_iload_n dL_law_332 rfl rfl) ?_
                  refine W_s (s_iconst dL_law_333 kci_1) ?_
                  refine W_s (s_iadd dL_law_334) ?_
                  refine W_ck (fun h40 => ?_)
                  refine W_s (s_sld hB dL_law_335 (gx_ixv h40)) ?_
                  refine W_s (s_aload_n dL_law_336 rfl rfl) ?_
                  refine W_s (s_iload_n dL_law_337 rfl rfl) ?_
                  refine W_s (s_iconst dL_law_338 kci_2) ?_
                  refine W_s (s_iadd dL_law_339) ?_
                  refine W_ck (fun h41 => ?_)
                  refine W_s (s_sld hB dL_law_340 (gx_ixv h41)) ?_
                  refine W_br (ec := gx_eI) (fun r_ hr_ => s_callV (As := [.int _, .int _]) dL_law_341 Lk_RL_32 rfl g_0 (by decide) rfl (Nat.le_of_ble_eq_true rfl) (Nat.le_of_ble_eq_true rfl) (ev_X11_street (xs (v3_1 + 1).toNatClampNeg) (xs (v3_1 + 2).toNatClampNeg) μ2 hr_)) (fun r42 => ?_)
                  refine W_s (s_aload_n dL_law_344 rfl rfl) ?_
                  refine W_s (s_aload_n dL_law_345 rfl rfl) ?_
                  refine W_s (s_iload_n dL_law_346 rfl rfl) ?_
                  refine W_s (s_iconst dL_law_347 kci_1) ?_
                  refine W_s (s_iadd dL_law_348) ?_
                  refine W_s (s_sld hB dL_law_349 (gx_ixv h40)) ?_
                  refine W_s (s_aload_n dL_law_350 rfl rfl) ?_
                  refine W_s (s_iload_n dL_law_351 rfl rfl) ?_
                  refine W_s (s_iconst dL_law_352 kci_2) ?_
                  refine W_s (s_iadd dL_law_353) ?_
                  refine W_s (s_sld hB dL_law_354 (gx_ixv h41)) ?_
                  refine W_bd (ec := gx_eI) (fun r_ μ_ hr_ => s_callV (As := [.int _, .int _]) dL_law_355 Lk_RL_35 rfl g_206 (by decide) rfl (Nat.le_of_ble_eq_true rfl) (Nat.le_of_ble_eq_true rfl) (ev_X12_street (xs (v3_1 + 1).toNatClampNeg) (xs (v3_1 + 2).toNatClampNeg) μ2 hr_)) (fun r43 μ44 => ?_)
                  refine W_ite (fun h45 => ?_) (fun h45 => ?_)
                  · refine W_s (s_icmp_eq_t dL_law_358 rfl h45) ?_
                    exact W_wk (hJ6 μ44) (le_s rfl (le_s rfl (le_s rfl (le_s rfl le_n))))
                  · refine W_s (s_icmp_eq_f dL_law_358 rfl h45) ?_
                    refine W_s (s_iconst dL_law_361 kci_0) ?_
                    exact W_r (r := false) (f_int (ty := .boolean) (x := gx_bi false) dL_law_362 rfl (gx_bn false))
                · skip
                  refine W_ite (fun h46 => ?_) (fun h46 => ?_)
                  · refine W_s (s_tsw_eq (c := 5) dL_law_33 h46 (by decide) (by decide) rfl rfl) ?_
                    refine W_s (s_aload_n dL_law_363 rfl rfl) ?_
                    refine W_s (s_aload_n dL_law_364 rfl rfl) ?_
                    refine W_s (s_iload_n dL_law_365 rfl rfl) ?_
                    refine W_s (s_iconst dL_law_366 kci_1) ?_
                    refine W_s (s_iadd dL_law_367) ?_
                    refine W_ck (fun h47 => ?_)
                    refine W_s (s_sld hB dL_law_368 (gx_ixv h47)) ?_
                    refine W_s (s_aload_n dL_law_369 rfl rfl) ?_
                    refine W_s (s_iload_n dL_law_370 rfl rfl) ?_
                    refine W_s (s_iconst dL_law_371 kci_2) ?_
                    refine W_s (s_iadd dL_law_372) ?_
                    refine W_ck (fun h48 => ?_)
                    refine W_s (s_sld hB dL_law_373 (gx_ixv h48)) ?_
                    refine W_s (s_aload_n dL_law_374 rfl rfl) ?_
                    refine W_s (s_iload_n dL_law_375 rfl rfl) ?_
                    refine W_s (s_iconst dL_law_376 kci_3) ?_
                    refine W_s (s_iadd dL_law_377) ?_
                    refine W_ck (fun h49 => ?_)
                    refine W_s (s_sld hB dL_law_378 (gx_ixv h49)) ?_
                    refine W_br (ec := gx_eI) (fun r_ hr_ => s_callV (As := [.int _, .int _, .int _]) dL_law_379 Lk_RL_36 rfl g_0 (by decide) rfl (Nat.le_of_ble_eq_true rfl) (Nat.le_of_ble_eq_true rfl) (ev_X11_deed (xs (v3_1 + 1).toNatClampNeg) (xs (v3_1 + 2).toNatClampNeg) (xs (v3_1 + 3).toNatClampNeg) μ2 hr_)) (fun r50 => ?_)
                    refine W_s (s_aload_n dL_law_382 rfl rfl) ?_
                    refine W_s (s_aload_n dL_law_383 rfl rfl) ?_
                    refine W_s (s_iload_n dL_law_384 rfl rfl) ?_
                    refine W_s (s_iconst dL_law_385 kci_1) ?_
                    refine W_s (s_iadd dL_law_386) ?_
                    refine W_s (s_sld hB dL_law_387 (gx_ixv h47)) ?_
                    refine W_s (s_aload_n dL_law_388 rfl rfl) ?_
                    refine W_s (s_iload_n dL_law_389 rfl rfl) ?_
                    refine W_s (s_iconst dL_law_390 kci_2) ?_
                    refine W_s (s_iadd dL_law_391) ?_
                    refine W_s (s_sld hB dL_law_392 (gx_ixv h48)) ?_
                    refine W_s (s_aload_n dL_law_393 rfl rfl) ?_
                    refine W_s (s_iload_n dL_law_394 rfl rfl) ?_
                    refine W_s (s_iconst dL_law_395 kci_3) ?_
                    refine W_s (s_iadd dL_law_396) ?_
                    refine W_s (s_sld hB dL_law_397 (gx_ixv h49)) ?_
                    refine W_bd (ec := gx_eI) (fun r_ μ_ hr_ => s_callV (As := [.int _, .int _, .int _]) dL_law_398 Lk_RL_40 rfl g_206 (by decide) rfl (Nat.le_of_ble_eq_true rfl) (Nat.le_of_ble_eq_true rfl) (ev_X12_deed (xs (v3_1 + 1).toNatClampNeg) (xs (v3_1 + 2).toNatClampNeg) (xs (v3_1 + 3).toNatClampNeg) μ2 hr_)) (fun r51 μ52 => ?_)
                    refine W_ite (fun h53 => ?_) (fun h53 => ?_)
                    · refine W_s (s_icmp_eq_t dL_law_401 rfl h53) ?_
                      exact W_wk (hJ6 μ52) (le_s rfl (le_s rfl (le_s rfl (le_s rfl le_n))))
                    · refine W_s (s_icmp_eq_f dL_law_401 rfl h53) ?_
                      refine W_s (s_iconst dL_law_404 kci_0) ?_
                      exact W_r (r := false) (f_int (ty := .boolean) (x := gx_bi false) dL_law_405 rfl (gx_bn false))
                  · skip
                    refine W_ite (fun h54 => ?_) (fun h54 => ?_)
                    · refine W_s (s_tsw_eq (c := 6) dL_law_33 h54 (by decide) (by decide) rfl rfl) ?_
                      refine W_s (s_aload_n dL_law_406 rfl rfl) ?_
                      refine W_s (s_aload_n dL_law_407 rfl rfl) ?_
                      refine W_s (s_iload_n dL_law_408 rfl rfl) ?_
                      refine W_s (s_iconst dL_law_409 kci_1) ?_
                      refine W_s (s_iadd dL_law_410) ?_
                      refine W_ck (fun h55 => ?_)
                      refine W_s (s_sld hB dL_law_411 (gx_ixv h55)) ?_
                      refine W_s (s_aload_n dL_law_412 rfl rfl) ?_
                      refine W_s (s_iload_n dL_law_413 rfl rfl) ?_
                      refine W_s (s_iconst dL_law_414 kci_2) ?_
                      refine W_s (s_iadd dL_law_415) ?_
                      refine W_ck (fun h56 => ?_)
                      refine W_s (s_sld hB dL_law_416 (gx_ixv h56)) ?_
                      refine W_bd (ec := gx_eI) (fun r_ μ_ hr_ => s_callV (As := [.int _, .int _]) dL_law_417 Lk_RL_41 rfl g_0 (by decide) rfl (Nat.le_of_ble_eq_true rfl) (Nat.le_of_ble_eq_true rfl) (ev_X11_till (xs (v3_1 + 1).toNatClampNeg) (xs (v3_1 + 2).toNatClampNeg) μ2 hr_)) (fun r57 μ58 => ?_)
                      refine W_s (s_aload_n dL_law_420 rfl rfl) ?_
                      refine W_s (s_aload_n dL_law_421 rfl rfl) ?_
                      refine W_s (s_iload_n dL_law_422 rfl rfl) ?_
                      refine W_s (s_iconst dL_law_423 kci_1) ?_
                      refine W_s (s_iadd dL_law_424) ?_
                      refine W_s (s_sld hB dL_law_425 (gx_ixv h55)) ?_
                      refine W_s (s_aload_n dL_law_426 rfl rfl) ?_
                      refine W_s (s_iload_n dL_law_427 rfl rfl) ?_
                      refine W_s (s_iconst dL_law_428 kci_2) ?_
                      refine W_s (s_iadd dL_law_429) ?_
                      refine W_s (s_sld hB dL_law_430 (gx_ixv h56)) ?_
                      refine W_bd (ec := gx_eI) (fun r_ μ_ hr_ => s_callV (As := [.int _, .int _]) dL_law_431 Lk_RL_44 rfl g_206 (by decide) rfl (Nat.le_of_ble_eq_true rfl) (Nat.le_of_ble_eq_true rfl) (ev_X12_till (xs (v3_1 + 1).toNatClampNeg) (xs (v3_1 + 2).toNatClampNeg) μ58 hr_)) (fun r59 μ60 => ?_)
                      refine W_ite (fun h61 => ?_) (fun h61 => ?_)
                      · refine W_s (s_icmp_eq_t dL_law_434 rfl h61) ?_
                        exact W_wk (hJ6 μ60) (le_s rfl (le_s rfl (le_s rfl (le_s rfl le_n))))
                      · refine W_s (s_icmp_eq_f dL_law_434 rfl h61) ?_
                        refine W_s (s_iconst dL_law_437 kci_0) ?_
                        exact W_r (r := false) (f_int (ty := .boolean) (x := gx_bi false) dL_law_438 rfl (gx_bn false))
                    · skip
                      refine W_ite (fun h62 => ?_) (fun h62 => ?_)
                      · refine W_s (s_tsw_eq (c := 7) dL_law_33 h62 (by decide) (by decide) rfl rfl) ?_
                        refine W_s (s_aload_n dL_law_439 rfl rfl) ?_
                        refine W_s (s_aload_n dL_law_440 rfl rfl) ?_
                        refine W_s (s_iload_n dL_law_441 rfl rfl) ?_
                        refine W_s (s_iconst dL_law_442 kci_1) ?_
                        refine W_s (s_iadd dL_law_443) ?_
                        refine W_ck (fun h63 => ?_)
                        refine W_s (s_sld hB dL_law_444 (gx_ixv h63)) ?_
                        refine W_s (s_aload_n dL_law_445 rfl rfl) ?_
                        refine W_s (s_iload_n dL_law_446 rfl rfl) ?_
                        refine W_s (s_iconst dL_law_447 kci_2) ?_
                        refine W_s (s_iadd dL_law_448) ?_
                        refine W_ck (fun h64 => ?_)
                        refine W_s (s_sld hB dL_law_449 (gx_ixv h64)) ?_
                        refine W_s (s_aload_n dL_law_450 rfl rfl) ?_
                        refine W_s (s_iload_n dL_law_451 rfl rfl) ?_
                        refine W_s (s_iconst dL_law_452 kci_3) ?_
                        refine W_s (s_iadd dL_law_453) ?_
                        refine W_ck (fun h65 => ?_)
                        refine W_s (s_sld hB dL_law_454 (gx_ixv h65)) ?_
                        refine W_s (s_aload_n dL_law_455 rfl rfl) ?_
                        refine W_s (s_iload_n dL_law_456 rfl rfl) ?_
                        refine W_s (s_iconst dL_law_457 kci_4) ?_
                        refine W_s (s_iadd dL_law_458) ?_
                        refine W_ck (fun h66 => ?_)
                        refine W_s (s_sld hB dL_law_459 (gx_ixv h66)) ?_
                        refine W_bd (ec := gx_eI) (fun r_ μ_ hr_ => s_callV (As := [.int _, .int _, .int _, .int _]) dL_law_460 Lk_RL_45 rfl g_0 (by decide) rfl (Nat.le_of_ble_eq_true rfl) (Nat.le_of_ble_eq_true rfl) (ev_X11_state hE (xs (v3_1 + 1).toNatClampNeg) (xs (v3_1 + 2).toNatClampNeg) (xs (v3_1 + 3).toNatClampNeg) (xs (v3_1 + 4).toNatClampNeg) μ2 hr_)) (fun r67 μ68 => ?_)
                        refine W_s (s_aload_n dL_law_463 rfl rfl) ?_
                        refine W_s (s_aload_n dL_law_464 rfl rfl) ?_
                        refine W_s (s_iload_n dL_law_465 rfl rfl) ?_
                        refine W_s (s_iconst dL_law_466 kci_1) ?_
                        refine W_s (s_iadd dL_law_467) ?_
                        refine W_s (s_sld hB dL_law_468 (gx_ixv h63)) ?_
                        refine W_s (s_aload_n dL_law_469 rfl rfl) ?_
                        refine W_s (s_iload_n dL_law_470 rfl rfl) ?_
                        refine W_s (s_iconst dL_law_471 kci_2) ?_
                        refine W_s (s_iadd dL_law_472) ?_
                        refine W_s (s_sld hB dL_law_473 (gx_ixv h64)) ?_
                        refine W_s (s_aload_n dL_law_474 rfl rfl) ?_
                        refine W_s (s_iload_n dL_law_475 rfl rfl) ?_
                        refine W_s (s_iconst dL_law_476 kci_3) ?_
                        refine W_s (s_iadd dL_law_477) ?_
                        refine W_s (s_sld hB dL_law_478 (gx_ixv h65)) ?_
                        refine W_s (s_aload_n dL_law_479 rfl rfl) ?_
                        refine W_s (s_iload_n dL_law_480 rfl rfl) ?_
                        refine W_s (s_iconst dL_law_481 kci_4) ?_
                        refine W_s (s_iadd dL_law_482) ?_
                        refine W_s (s_sld hB dL_law_483 (gx_ixv h66)) ?_
                        refine W_bd (ec := gx_eI) (fun r_ μ_ hr_ => s_callV (As := [.int _, .int _, .int _, .int _]) dL_law_484 Lk_RL_49 rfl g_206 (by decide) rfl (Nat.le_of_ble_eq_true rfl) (Nat.le_of_ble_eq_true rfl) (ev_X12_state (xs (v3_1 + 1).toNatClampNeg) (xs (v3_1 + 2).toNatClampNeg) (xs (v3_1 + 3).toNatClampNeg) (xs (v3_1 + 4).toNatClampNeg) μ68 hr_)) (fun r69 μ70 => ?_)
                        refine W_ite (fun h71 => ?_) (fun h71 => ?_)
                        · refine W_s (s_icmp_eq_t dL_law_487 rfl h71) ?_
                          exact W_wk (hJ6 μ70) (le_s rfl (le_s rfl (le_s rfl (le_s rfl le_n))))
                        · refine W_s (s_icmp_eq_f dL_law_487 rfl h71) ?_
                          refine W_s (s_iconst dL_law_490 kci_0) ?_
                          exact W_r (r := false) (f_int (ty := .boolean) (x := gx_bi false) dL_law_491 rfl (gx_bn false))
                      · skip
                        refine W_ite (fun h72 => ?_) (fun h72 => ?_)
                        · refine W_s (s_tsw_eq (c := 8) dL_law_33 h72 (by decide) (by decide) rfl rfl) ?_
                          refine W_s (s_aload_n dL_law_492 rfl rfl) ?_
                          refine W_s (s_aload_n dL_law_493 rfl rfl) ?_
                          refine W_s (s_iload_n dL_law_494 rfl rfl) ?_
                          refine W_s (s_iconst dL_law_495 kci_1) ?_
                          refine W_s (s_iadd dL_law_496) ?_
                          refine W_ck (fun h73 => ?_)
                          refine W_s (s_sld hB dL_law_497 (gx_ixv h73)) ?_
                          refine W_s (s_aload_n dL_law_498 rfl rfl) ?_
                          refine W_s (s_iload_n dL_law_499 rfl rfl) ?_
                          refine W_s (s_iconst dL_law_500 kci_2) ?_
                          refine W_s (s_iadd dL_law_501) ?_
                          refine W_ck (fun h74 => ?_)
                          refine W_s (s_sld hB dL_law_502 (gx_ixv h74)) ?_
                          refine W_s (s_aload_n dL_law_503 rfl rfl) ?_
                          refine W_s (s_iload_n dL_law_504 rfl rfl) ?_
                          refine W_s (s_iconst dL_law_505 kci_3) ?_
                          refine W_s (s_iadd dL_law_506) ?_
                          refine W_ck (fun h75 => ?_)
                          refine W_s (s_sld hB dL_law_507 (gx_ixv h75)) ?_
                          refine W_s (s_aload_n dL_law_508 rfl rfl) ?_
                          refine W_s (s_iload_n dL_law_509 rfl rfl) ?_
                          refine W_s (s_iconst dL_law_510 kci_4) ?_
                          refine W_s (s_iadd dL_law_511) ?_
                          refine W_ck (fun h76 => ?_)
                          refine W_s (s_sld hB dL_law_512 (gx_ixv h76)) ?_
                          refine W_fun (fun J => ∀ (j0_79 : Bool) (μ80 : gx_M), GoW E l Y_law 12 gx_eB 521 [some (.ref b), some (.ref (E.2.2.1 + 0)), some (.ref (E.2.2.1 + 206)), some (.int v3_1)] [.int (gx_bi j0_79), .int (xs (v3_1 + 3).toNatClampNeg), .int (xs (v3_1 + 2).toNatClampNeg), .int (xs (v3_1 + 1).toNatClampNeg), .ref (E.2.2.1 + 0)] μ80 (J j0_79 μ80)) ?_ (fun J77 hJ77 => ?_)
                          · intro j0_79 μ80
                            refine W_bd (ec := gx_eI) (fun r_ μ_ hr_ => s_callV (As := [.int _, .int _, .int _, .int _]) dL_law_521 Lk_RL_50 rfl g_0 (by decide) rfl (Nat.le_of_ble_eq_true rfl) (Nat.le_of_ble_eq_true rfl) (ev_X11_run (xs (v3_1 + 1).toNatClampNeg) (xs (v3_1 + 2).toNatClampNeg) (xs (v3_1 + 3).toNatClampNeg) j0_79 μ80 hr_)) (fun r81 μ82 => ?_)
                            refine W_s (s_aload_n dL_law_524 rfl rfl) ?_
                            refine W_s (s_aload_n dL_law_525 rfl rfl) ?_
                            refine W_s (s_iload_n dL_law_526 rfl rfl) ?_
                            refine W_s (s_iconst dL_law_527 kci_1) ?_
                            refine W_s (s_iadd dL_law_528) ?_
                            refine W_s (s_sld hB dL_law_529 (gx_ixv h73)) ?_
                            refine W_s (s_aload_n dL_law_530 rfl rfl) ?_
                            refine W_s (s_iload_n dL_law_531 rfl rfl) ?_
                            refine W_s (s_iconst dL_law_532 kci_2) ?_
                            refine W_s (s_iadd dL_law_533) ?_
                            refine W_s (s_sld hB dL_law_534 (gx_ixv h74)) ?_
                            refine W_s (s_aload_n dL_law_535 rfl rfl) ?_
                            refine W_s (s_iload_n dL_law_536 rfl rfl) ?_
                            refine W_s (s_iconst dL_law_537 kci_3) ?_
                            refine W_s (s_iadd dL_law_538) ?_
                            refine W_s (s_sld hB dL_law_539 (gx_ixv h75)) ?_
                            refine W_s (s_aload_n dL_law_540 rfl rfl) ?_
                            refine W_s (s_iload_n dL_law_541 rfl rfl) ?_
                            refine W_s (s_iconst dL_law_542 kci_4) ?_
                            refine W_s (s_iadd dL_law_543) ?_
                            refine W_s (s_sld hB dL_law_544 (gx_ixv h76)) ?_
                            refine W_fun (fun J => ∀ (j0_85 : Bool) (μ86 : gx_M), GoW E l Y_law 12 gx_eB 553 [some (.ref b), some (.ref (E.2.2.1 + 0)), some (.ref (E.2.2.1 + 206)), some (.int v3_1)] [.int (gx_bi j0_85), .int (xs (v3_1 + 3).toNatClampNeg), .int (xs (v3_1 + 2).toNatClampNeg), .int (xs (v3_1 + 1).toNatClampNeg), .ref (E.2.2.1 + 206), .int r81] μ86 (J j0_85 μ86)) ?_ (fun J83 hJ83 => ?_)
                            · intro j0_85 μ86
                              refine W_bd (ec := gx_eI) (fun r_ μ_ hr_ => s_callV (As := [.int _, .int _, .int _, .int _]) dL_law_553 Lk_RL_54 rfl g_206 (by decide) rfl (Nat.le_of_ble_eq_true rfl) (Nat.le_of_ble_eq_true rfl) (ev_X12_run (xs (v3_1 + 1).toNatClampNeg) (xs (v3_1 + 2).toNatClampNeg) (xs (v3_1 + 3).toNatClampNeg) j0_85 μ86 hr_)) (fun r87 μ88 => ?_)
                              refine W_ite (fun h89 => ?_) (fun h89 => ?_)
                              · refine W_s (s_icmp_eq_t dL_law_556 rfl h89) ?_
                                exact W_wk (hJ6 μ88) (le_s rfl (le_s rfl (le_s rfl (le_s rfl le_n))))
                              · refine W_s (s_icmp_eq_f dL_law_556 rfl h89) ?_
                                refine W_s (s_iconst dL_law_559 kci_0) ?_
                                exact W_r (r := false) (f_int (ty := .boolean) (x := gx_bi false) dL_law_560 rfl (gx_bn false))
                            · skip
                              refine W_ite (fun h84 => ?_) (fun h84 => ?_)
                              · refine W_s (s_if_eq_t dL_law_545 rfl h84) ?_
                                refine W_s (s_iconst dL_law_552 kci_0) ?_
                                exact W_wk (hJ83 false μ82) (le_s rfl (le_s rfl (le_s rfl (le_s rfl le_n))))
                              · refine W_s (s_if_eq_f dL_law_545 rfl h84) ?_
                                refine W_s (s_iconst dL_law_548 kci_1) ?_
                                refine W_s (s_goto dL_law_549 rfl) ?_
                                exact W_wk (hJ83 true μ82) (le_s rfl (le_s rfl (le_s rfl (le_s rfl le_n))))
                          · skip
                            refine W_ite (fun h78 => ?_) (fun h78 => ?_)
                            · refine W_s (s_if_eq_t dL_law_513 rfl h78) ?_
                              refine W_s (s_iconst dL_law_520 kci_0) ?_
                              exact W_wk (hJ77 false μ2) (le_s rfl (le_s rfl (le_s rfl (le_s rfl le_n))))
                            · refine W_s (s_if_eq_f dL_law_513 rfl h78) ?_
                              refine W_s (s_iconst dL_law_516 kci_1) ?_
                              refine W_s (s_goto dL_law_517 rfl) ?_
                              exact W_wk (hJ77 true μ2) (le_s rfl (le_s rfl (le_s rfl (le_s rfl le_n))))
                        · skip
                          refine W_ite (fun h90 => ?_) (fun h90 => ?_)
                          · refine W_s (s_tsw_eq (c := 9) dL_law_33 h90 (by decide) (by decide) rfl rfl) ?_
                            refine W_s (s_aload_n dL_law_561 rfl rfl) ?_
                            refine W_s (s_aload_n dL_law_562 rfl rfl) ?_
                            refine W_s (s_iload_n dL_law_563 rfl rfl) ?_
                            refine W_s (s_iconst dL_law_564 kci_1) ?_
                            refine W_s (s_iadd dL_law_565) ?_
                            refine W_ck (fun h91 => ?_)
                            refine W_s (s_sld hB dL_law_566 (gx_ixv h91)) ?_
                            refine W_s (s_aload_n dL_law_567 rfl rfl) ?_
                            refine W_s (s_iload_n dL_law_568 rfl rfl) ?_
                            refine W_s (s_iconst dL_law_569 kci_2) ?_
                            refine W_s (s_iadd dL_law_570) ?_
                            refine W_ck (fun h92 => ?_)
                            refine W_s (s_sld hB dL_law_571 (gx_ixv h92)) ?_
                            refine W_s (s_aload_n dL_law_572 rfl rfl) ?_
                            refine W_s (s_iload_n dL_law_573 rfl rfl) ?_
                            refine W_s (s_iconst dL_law_574 kci_3) ?_
                            refine W_s (s_iadd dL_law_575) ?_
                            refine W_ck (fun h93 => ?_)
                            refine W_s (s_sld hB dL_law_576 (gx_ixv h93)) ?_
                            refine W_s (s_aload_n dL_law_577 rfl rfl) ?_
                            refine W_s (s_iload_n dL_law_578 rfl rfl) ?_
                            refine W_s (s_iconst dL_law_579 kci_4) ?_
                            refine W_s (s_iadd dL_law_580) ?_
                            refine W_ck (fun h94 => ?_)
                            refine W_s (s_sld hB dL_law_581 (gx_ixv h94)) ?_
                            refine W_bd (ec := gx_eI) (fun r_ μ_ hr_ => s_callV (As := [.int _, .int _, .int _, .int _]) dL_law_582 Lk_RL_55 rfl g_0 (by decide) rfl (Nat.le_of_ble_eq_true rfl) (Nat.le_of_ble_eq_true rfl) (ev_X11_errands (xs (v3_1 + 1).toNatClampNeg) (xs (v3_1 + 2).toNatClampNeg) (xs (v3_1 + 3).toNatClampNeg) (xs (v3_1 + 4).toNatClampNeg) μ2 hr_)) (fun r95 μ96 => ?_)
                            refine W_s (s_aload_n dL_law_585 rfl rfl) ?_
                            refine W_s (s_aload_n dL_law_586 rfl rfl) ?_
                            refine W_s (s_iload_n dL_law_587 rfl rfl) ?_
                            refine W_s (s_iconst dL_law_588 kci_1) ?_
                            refine W_s (s_iadd dL_law_589) ?_
                            refine W_s (s_sld hB dL_law_590 (gx_ixv h91)) ?_
                            refine W_s (s_aload_n dL_law_591 rfl rfl) ?_
                            refine W_s (s_iload_n dL_law_592 rfl rfl) ?_
                            refine W_s (s_iconst dL_law_593 kci_2) ?_
                            refine W_s (s_iadd dL_law_594) ?_
                            refine W_s (s_sld hB dL_law_595 (gx_ixv h92)) ?_
                            refine W_s (s_aload_n dL_law_596 rfl rfl) ?_
                            refine W_s (s_iload_n dL_law_597 rfl rfl) ?_
                            refine W_s (s_iconst dL_law_598 kci_3) ?_
                            refine W_s (s_iadd dL_law_599) ?_
                            refine W_s (s_sld hB dL_law_600 (gx_ixv h93)) ?_
                            refine W_s (s_aload_n dL_law_601 rfl rfl) ?_
                            refine W_s (s_iload_n dL_law_602 rfl rfl) ?_
                            refine W_s (s_iconst dL_law_603 kci_4) ?_
                            refine W_s (s_iadd dL_law_604) ?_
                            refine W_s (s_sld hB dL_law_605 (gx_ixv h94)) ?_
                            refine W_bd (ec := gx_eI) (fun r_ μ_ hr_ => s_callV (As := [.int _, .int _, .int _, .int _]) dL_law_606 Lk_RL_58 rfl g_206 (by decide) rfl (Nat.le_of_ble_eq_true rfl) (Nat.le_of_ble_eq_true rfl) (ev_X12_errands (xs (v3_1 + 1).toNatClampNeg) (xs (v3_1 + 2).toNatClampNeg) (xs (v3_1 + 3).toNatClampNeg) (xs (v3_1 + 4).toNatClampNeg) μ96 hr_)) (fun r97 μ98 => ?_)
                            refine W_ite (fun h99 => ?_) (fun h99 => ?_)
                            · refine W_s (s_icmp_eq_t dL_law_609 rfl h99) ?_
                              exact W_wk (hJ6 μ98) (le_s rfl (le_s rfl (le_s rfl (le_s rfl le_n))))
                            · refine W_s (s_icmp_eq_f dL_law_609 rfl h99) ?_
                              refine W_s (s_iconst dL_law_612 kci_0) ?_
                              exact W_r (r := false) (f_int (ty := .boolean) (x := gx_bi false) dL_law_613 rfl (gx_bn false))
                          · skip
                            refine W_ite (fun h100 => ?_) (fun h100 => ?_)
                            · refine W_s (s_tsw_eq (c := 10) dL_law_33 h100 (by decide) (by decide) rfl rfl) ?_
                              refine W_s (s_aload_n dL_law_614 rfl rfl) ?_
                              refine W_s (s_aload_n dL_law_615 rfl rfl) ?_
                              refine W_s (s_iload_n dL_law_616 rfl rfl) ?_
                              refine W_s (s_iconst dL_law_617 kci_1) ?_
                              refine W_s (s_iadd dL_law_618) ?_
                              refine W_ck (fun h101 => ?_)
                              refine W_s (s_sld hB dL_law_619 (gx_ixv h101)) ?_
                              refine W_s (s_aload_n dL_law_620 rfl rfl) ?_
                              refine W_s (s_iload_n dL_law_621 rfl rfl) ?_
                              refine W_s (s_iconst dL_law_622 kci_2) ?_
                              refine W_s (s_iadd dL_law_623) ?_
                              refine W_ck (fun h102 => ?_)
                              refine W_s (s_sld hB dL_law_624 (gx_ixv h102)) ?_
                              refine W_s (s_aload_n dL_law_625 rfl rfl) ?_
                              refine W_s (s_iload_n dL_law_626 rfl rfl) ?_
                              refine W_s (s_iconst dL_law_627 kci_3) ?_
                              refine W_s (s_iadd dL_law_628) ?_
                              refine W_ck (fun h103 => ?_)
                              refine W_s (s_sld hB dL_law_629 (gx_ixv h103)) ?_
                              refine W_fun (fun J => ∀ (j0_106 : Bool) (μ107 : gx_M), GoW E l Y_law 12 gx_eB 638 [some (.ref b), some (.ref (E.2.2.1 + 0)), some (.ref (E.2.2.1 + 206)), some (.int v3_1)] [.int (gx_bi j0_106), .int (xs (v3_1 + 2).toNatClampNeg), .int (xs (v3_1 + 1).toNatClampNeg), .ref (E.2.2.1 + 0)] μ107 (J j0_106 μ107)) ?_ (fun J104 hJ104 => ?_)
                              · intro j0_106 μ107
                                refine W_bd (ec := gx_eI) (fun r_ μ_ hr_ => s_callV (As := [.int _, .int _, .int _]) dL_law_638 Lk_RL_59 rfl g_0 (by decide) rfl (Nat.le_of_ble_eq_true rfl) (Nat.le_of_ble_eq_true rfl) (ev_X11_plan (xs (v3_1 + 1).toNatClampNeg) (xs (v3_1 + 2).toNatClampNeg) j0_106 μ107 hr_)) (fun r108 μ109 => ?_)
                                refine W_s (s_aload_n dL_law_641 rfl rfl) ?_
                                refine W_s (s_aload_n dL_law_642 rfl rfl) ?_
                                refine W_s (s_iload_n dL_law_643 rfl rfl) ?_
                                refine W_s (s_iconst dL_law_644 kci_1) ?_
                                refine W_s (s_iadd dL_law_645) ?_
                                refine W_s (s_sld hB dL_law_646 (gx_ixv h101)) ?_
                                refine W_s (s_aload_n dL_law_647 rfl rfl) ?_
                                refine W_s (s_iload_n dL_law_648 rfl rfl) ?_
                                refine W_s (s_iconst dL_law_649 kci_2) ?_
                                refine W_s (s_iadd dL_law_650) ?_
                                refine W_s (s_sld hB dL_law_651 (gx_ixv h102)) ?_
                                refine W_s (s_aload_n dL_law_652 rfl rfl) ?_
                                refine W_s (s_iload_n dL_law_653 rfl rfl) ?_
                                refine W_s (s_iconst dL_law_654 kci_3) ?_
                                refine W_s (s_iadd dL_law_655) ?_
                                refine W_s (s_sld hB dL_law_656 (gx_ixv h103)) ?_
                                refine W_fun (fun J => ∀ (j0_112 : Bool) (μ113 : gx_M), GoW E l Y_law 12 gx_eB 665 [some (.ref b), some (.ref (E.2.2.1 + 0)), some (.ref (E.2.2.1 + 206)), some (.int v3_1)] [.int (gx_bi j0_112), .int (xs (v3_1 + 2).toNatClampNeg), .int (xs (v3_1 + 1).toNatClampNeg), .ref (E.2.2.1 + 206), .int r108] μ113 (J j0_112 μ113)) ?_ (fun J110 hJ110 => ?_)
                                · intro j0_112 μ113
                                  refine W_bd (ec := gx_eI) (fun r_ μ_ hr_ => s_callV (As := [.int _, .int _, .int _]) dL_law_665 Lk_RL_63 rfl g_206 (by decide) rfl (Nat.le_of_ble_eq_true rfl) (Nat.le_of_ble_eq_true rfl) (ev_X12_plan (xs (v3_1 + 1).toNatClampNeg) (xs (v3_1 + 2).toNatClampNeg) j0_112 μ113 hr_)) (fun r114 μ115 => ?_)
                                  refine W_ite (fun h116 => ?_) (fun h116 => ?_)
                                  · refine W_s (s_icmp_eq_t dL_law_668 rfl h116) ?_
                                    exact W_wk (hJ6 μ115) (le_s rfl (le_s rfl (le_s rfl (le_s rfl le_n))))
                                  · refine W_s (s_icmp_eq_f dL_law_668 rfl h116) ?_
                                    refine W_s (s_iconst dL_law_671 kci_0) ?_
                                    exact W_r (r := false) (f_int (ty := .boolean) (x := gx_bi false) dL_law_672 rfl (gx_bn false))
                                · skip
                                  refine W_ite (fun h111 => ?_) (fun h111 => ?_)
                                  · refine W_s (s_if_eq_t dL_law_657 rfl h111) ?_
                                    refine W_s (s_iconst dL_law_664 kci_0) ?_
                                    exact W_wk (hJ110 false μ109) (le_s rfl (le_s rfl (le_s rfl (le_s rfl le_n))))
                                  · refine W_s (s_if_eq_f dL_law_657 rfl h111) ?_
                                    refine W_s (s_iconst dL_law_660 kci_1) ?_
                                    refine W_s (s_goto dL_law_661 rfl) ?_
                                    exact W_wk (hJ110 true μ109) (le_s rfl (le_s rfl (le_s rfl (le_s rfl le_n))))
                              · skip
                                refine W_ite (fun h105 => ?_) (fun h105 => ?_)
                                · refine W_s (s_if_eq_t dL_law_630 rfl h105) ?_
                                  refine W_s (s_iconst dL_law_637 kci_0) ?_
                                  exact W_wk (hJ104 false μ2) (le_s rfl (le_s rfl (le_s rfl (le_s rfl le_n))))
                                · refine W_s (s_if_eq_f dL_law_630 rfl h105) ?_
                                  refine W_s (s_iconst dL_law_633 kci_1) ?_
                                  refine W_s (s_goto dL_law_634 rfl) ?_
                                  exact W_wk (hJ104 true μ2) (le_s rfl (le_s rfl (le_s rfl (le_s rfl le_n))))
                            · skip
                              refine W_ite (fun h117 => ?_) (fun h117 => ?_)
                              · refine W_s (s_tsw_eq (c := 11) dL_law_33 h117 (by decide) (by decide) rfl rfl) ?_
                                refine W_s (s_aload_n dL_law_673 rfl rfl) ?_
                                refine W_s (s_aload_n dL_law_674 rfl rfl) ?_
                                refine W_s (s_iload_n dL_law_675 rfl rfl) ?_
                                refine W_s (s_iconst dL_law_676 kci_1) ?_
                                refine W_s (s_iadd dL_law_677) ?_
                                refine W_ck (fun h118 => ?_)
                                refine W_s (s_sld hB dL_law_678 (gx_ixv h118)) ?_
                                refine W_s (s_aload_n dL_law_679 rfl rfl) ?_
                                refine W_s (s_iload_n dL_law_680 rfl rfl) ?_
                                refine W_s (s_iconst dL_law_681 kci_2) ?_
                                refine W_s (s_iadd dL_law_682) ?_
                                refine W_ck (fun h119 => ?_)
                                refine W_s (s_sld hB dL_law_683 (gx_ixv h119)) ?_
                                refine W_fun (fun J => ∀ (j0_122 : Bool) (μ123 : gx_M), GoW E l Y_law 12 gx_eB 692 [some (.ref b), some (.ref (E.2.2.1 + 0)), some (.ref (E.2.2.1 + 206)), some (.int v3_1)] [.int (gx_bi j0_122), .int (xs (v3_1 + 1).toNatClampNeg), .ref (E.2.2.1 + 0)] μ123 (J j0_122 μ123)) ?_ (fun J120 hJ120 => ?_)
                                · intro j0_122 μ123
                                  refine W_bd (ec := gx_eI) (fun r_ μ_ hr_ => s_callV (As := [.int _, .int _]) dL_law_692 Lk_RL_64 rfl g_0 (by decide) rfl (Nat.le_of_ble_eq_true rfl) (Nat.le_of_ble_eq_true rfl) (ev_X11_halves (xs (v3_1 + 1).toNatClampNeg) j0_122 μ123 hr_)) (fun r124 μ125 => ?_)
                                  refine W_s (s_aload_n dL_law_695 rfl rfl) ?_
                                  refine W_s (s_aload_n dL_law_696 rfl rfl) ?_
                                  refine W_s (s_iload_n dL_law_697 rfl rfl) ?_
                                  refine W_s (s_iconst dL_law_698 kci_1) ?_
                                  refine W_s (s_iadd dL_law_699) ?_
                                  refine W_s (s_sld hB dL_law_700 (gx_ixv h118)) ?_
                                  refine W_s (s_aload_n dL_law_701 rfl rfl) ?_
                                  refine W_s (s_iload_n dL_law_702 rfl rfl) ?_
                                  refine W_s (s_iconst dL_law_703 kci_2) ?_
                                  refine W_s (s_iadd dL_law_704) ?_
                                  refine W_s (s_sld hB dL_law_705 (gx_ixv h119)) ?_
                                  refine W_fun (fun J => ∀ (j0_128 : Bool) (μ129 : gx_M), GoW E l Y_law 12 gx_eB 714 [some (.ref b), some (.ref (E.2.2.1 + 0)), some (.ref (E.2.2.1 + 206)), some (.int v3_1)] [.int (gx_bi j0_128), .int (xs (v3_1 + 1).toNatClampNeg), .ref (E.2.2.1 + 206), .int r124] μ129 (J j0_128 μ129)) ?_ (fun J126 hJ126 => ?_)
                                  · intro j0_128 μ129
                                    refine W_bd (ec := gx_eI) (fun r_ μ_ hr_ => s_callV (As := [.int _, .int _]) dL_law_714 Lk_RL_68 rfl g_206 (by decide) rfl (Nat.le_of_ble_eq_true rfl) (Nat.le_of_ble_eq_true rfl) (ev_X12_halves (xs (v3_1 + 1).toNatClampNeg) j0_128 μ129 hr_)) (fun r130 μ131 => ?_)
                                    refine W_ite (fun h132 => ?_) (fun h132 => ?_)
                                    · refine W_s (s_icmp_eq_t dL_law_717 rfl h132) ?_
                                      exact W_wk (hJ6 μ131) (le_s rfl (le_s rfl (le_s rfl (le_s rfl le_n))))
                                    · refine W_s (s_icmp_eq_f dL_law_717 rfl h132) ?_
                                      refine W_s (s_iconst dL_law_720 kci_0) ?_
                                      exact W_r (r := false) (f_int (ty := .boolean) (x := gx_bi false) dL_law_721 rfl (gx_bn false))
                                  · skip
                                    refine W_ite (fun h127 => ?_) (fun h127 => ?_)
                                    · refine W_s (s_if_eq_t dL_law_706 rfl h127) ?_
                                      refine W_s (s_iconst dL_law_713 kci_0) ?_
                                      exact W_wk (hJ126 false μ125) (le_s rfl (le_s rfl (le_s rfl (le_s rfl le_n))))
                                    · refine W_s (s_if_eq_f dL_law_706 rfl h127) ?_
                                      refine W_s (s_iconst dL_law_709 kci_1) ?_
                                      refine W_s (s_goto dL_law_710 rfl) ?_
                                      exact W_wk (hJ126 true μ125) (le_s rfl (le_s rfl (le_s rfl (le_s rfl le_n))))
                                · skip
                                  refine W_ite (fun h121 => ?_) (fun h121 => ?_)
                                  · refine W_s (s_if_eq_t dL_law_684 rfl h121) ?_
                                    refine W_s (s_iconst dL_law_691 kci_0) ?_
                                    exact W_wk (hJ120 false μ2) (le_s rfl (le_s rfl (le_s rfl (le_s rfl le_n))))
                                  · refine W_s (s_if_eq_f dL_law_684 rfl h121) ?_
                                    refine W_s (s_iconst dL_law_687 kci_1) ?_
                                    refine W_s (s_goto dL_law_688 rfl) ?_
                                    exact W_wk (hJ120 true μ2) (le_s rfl (le_s rfl (le_s rfl (le_s rfl le_n))))
                              · skip
                                refine W_ite (fun h133 => ?_) (fun h133 => ?_)
                                · refine W_s (s_tsw_eq (c := 12) dL_law_33 h133 (by decide) (by decide) rfl rfl) ?_
                                  refine W_s (s_aload_n dL_law_722 rfl rfl) ?_
                                  refine W_s (s_aload_n dL_law_723 rfl rfl) ?_
                                  refine W_s (s_iload_n dL_law_724 rfl rfl) ?_
                                  refine W_s (s_iconst dL_law_725 kci_1) ?_
                                  refine W_s (s_iadd dL_law_726) ?_
                                  refine W_ck (fun h134 => ?_)
                                  refine W_s (s_sld hB dL_law_727 (gx_ixv h134)) ?_
                                  refine W_s (s_aload_n dL_law_728 rfl rfl) ?_
                                  refine W_s (s_iload_n dL_law_729 rfl rfl) ?_
                                  refine W_s (s_iconst dL_law_730 kci_2) ?_
                                  refine W_s (s_iadd dL_law_731) ?_
                                  refine W_ck (fun h135 => ?_)
                                  refine W_s (s_sld hB dL_law_732 (gx_ixv h135)) ?_
                                  refine W_s (s_aload_n dL_law_733 rfl rfl) ?_
                                  refine W_s (s_iload_n dL_law_734 rfl rfl) ?_
                                  refine W_s (s_iconst dL_law_735 kci_3) ?_
                                  refine W_s (s_iadd dL_law_736) ?_
                                  refine W_ck (fun h136 => ?_)
                                  refine W_s (s_sld hB dL_law_737 (gx_ixv h136)) ?_
                                  refine W_fun (fun J => ∀ (j0_139 : Bool) (μ140 : gx_M), GoW E l Y_law 12 gx_eB 746 [some (.ref b), some (.ref (E.2.2.1 + 0)), some (.ref (E.2.2.1 + 206)), some (.int v3_1)] [.int (gx_bi j0_139), .int (xs (v3_1 + 2).toNatClampNeg), .int (xs (v3_1 + 1).toNatClampNeg), .ref (E.2.2.1 + 0)] μ140 (J j0_139 μ140)) ?_ (fun J137 hJ137 => ?_)
                                  · intro j0_139 μ140
                                    refine W_br (ec := gx_eI) (fun r_ hr_ => s_callV (As := [.int _, .int _, .int _]) dL_law_746 Lk_RL_69 rfl g_0 (by decide) rfl (Nat.le_of_ble_eq_true rfl) (Nat.le_of_ble_eq_true rfl) (ev_X11_free (xs (v3_1 + 1).toNatClampNeg) (xs (v3_1 + 2).toNatClampNeg) j0_139 μ140 hr_)) (fun r141 => ?_)
                                    refine W_s (s_aload_n dL_law_749 rfl rfl) ?_
                                    refine W_s (s_aload_n dL_law_750 rfl rfl) ?_
                                    refine W_s (s_iload_n dL_law_751 rfl rfl) ?_
                                    refine W_s (s_iconst dL_law_752 kci_1) ?_
                                    refine W_s (s_iadd dL_law_753) ?_
                                    refine W_s (s_sld hB dL_law_754 (gx_ixv h134)) ?_
                                    refine W_s (s_aload_n dL_law_755 rfl rfl) ?_
                                    refine W_s (s_iload_n dL_law_756 rfl rfl) ?_
                                    refine W_s (s_iconst dL_law_757 kci_2) ?_
                                    refine W_s (s_iadd dL_law_758) ?_
                                    refine W_s (s_sld hB dL_law_759 (gx_ixv h135)) ?_
                                    refine W_s (s_aload_n dL_law_760 rfl rfl) ?_
                                    refine W_s (s_iload_n dL_law_761 rfl rfl) ?_
                                    refine W_s (s_iconst dL_law_762 kci_3) ?_
                                    refine W_s (s_iadd dL_law_763) ?_
                                    refine W_s (s_sld hB dL_law_764 (gx_ixv h136)) ?_
                                    refine W_fun (fun J => ∀ (j0_144 : Bool) (μ145 : gx_M), GoW E l Y_law 12 gx_eB 773 [some (.ref b), some (.ref (E.2.2.1 + 0)), some (.ref (E.2.2.1 + 206)), some (.int v3_1)] [.int (gx_bi j0_144), .int (xs (v3_1 + 2).toNatClampNeg), .int (xs (v3_1 + 1).toNatClampNeg), .ref (E.2.2.1 + 206), .int r141] μ145 (J j0_144 μ145)) ?_ (fun J142 hJ142 => ?_)
                                    · intro j0_144 μ145
                                      refine W_bd (ec := gx_eI) (fun r_ μ_ hr_ => s_callV (As := [.int _, .int _, .int _]) dL_law_773 Lk_RL_72 rfl g_206 (by decide) rfl (Nat.le_of_ble_eq_true rfl) (Nat.le_of_ble_eq_true rfl) (ev_X12_free (xs (v3_1 + 1).toNatClampNeg) (xs (v3_1 + 2).toNatClampNeg) j0_144 μ145 hr_)) (fun r146 μ147 => ?_)
                                      refine W_ite (fun h148 => ?_) (fun h148 => ?_)
                                      · refine W_s (s_icmp_eq_t dL_law_776 rfl h148) ?_
                                        exact W_wk (hJ6 μ147) (le_s rfl (le_s rfl (le_s rfl (le_s rfl le_n))))
                                      · refine W_s (s_icmp_eq_f dL_law_776 rfl h148) ?_
                                        refine W_s (s_iconst dL_law_779 kci_0) ?_
                                        exact W_r (r := false) (f_int (ty := .boolean) (x := gx_bi false) dL_law_780 rfl (gx_bn false))
                                    · skip
                                      refine W_ite (fun h143 => ?_) (fun h143 => ?_)
                                      · refine W_s (s_if_eq_t dL_law_765 rfl h143) ?_
                                        refine W_s (s_iconst dL_law_772 kci_0) ?_
                                        exact W_wk (hJ142 false μ140) (le_s rfl (le_s rfl (le_s rfl (le_s rfl le_n))))
                                      · refine W_s (s_if_eq_f dL_law_765 rfl h143) ?_
                                        refine W_s (s_iconst dL_law_768 kci_1) ?_
                                        refine W_s (s_goto dL_law_769 rfl) ?_
                                        exact W_wk (hJ142 true μ140) (le_s rfl (le_s rfl (le_s rfl (le_s rfl le_n))))
                                  · skip
                                    refine W_ite (fun h138 => ?_) (fun h138 => ?_)
                                    · refine W_s (s_if_eq_t dL_law_738 rfl h138) ?_
                                      refine W_s (s_iconst dL_law_745 kci_0) ?_
                                      exact W_wk (hJ137 false μ2) (le_s rfl (le_s rfl (le_s rfl (le_s rfl le_n))))
                                    · refine W_s (s_if_eq_f dL_law_738 rfl h138) ?_
                                      refine W_s (s_iconst dL_law_741 kci_1) ?_
                                      refine W_s (s_goto dL_law_742 rfl) ?_
                                      exact W_wk (hJ137 true μ2) (le_s rfl (le_s rfl (le_s rfl (le_s rfl le_n))))
                                · skip
                                  refine W_ite (fun h149 => ?_) (fun h149 => ?_)
                                  · refine W_s (s_tsw_eq (c := 13) dL_law_33 h149 (by decide) (by decide) rfl rfl) ?_
                                    refine W_s (s_aload_n dL_law_781 rfl rfl) ?_
                                    refine W_s (s_aload_n dL_law_782 rfl rfl) ?_
                                    refine W_s (s_iload_n dL_law_783 rfl rfl) ?_
                                    refine W_s (s_iconst dL_law_784 kci_1) ?_
                                    refine W_s (s_iadd dL_law_785) ?_
                                    refine W_ck (fun h150 => ?_)
                                    refine W_s (s_sld hB dL_law_786 (gx_ixv h150)) ?_
                                    refine W_s (s_aload_n dL_law_787 rfl rfl) ?_
                                    refine W_s (s_iload_n dL_law_788 rfl rfl) ?_
                                    refine W_s (s_iconst dL_law_789 kci_2) ?_
                                    refine W_s (s_iadd dL_law_790) ?_
                                    refine W_ck (fun h151 => ?_)
                                    refine W_s (s_sld hB dL_law_791 (gx_ixv h151)) ?_
                                    refine W_s (s_aload_n dL_law_792 rfl rfl) ?_
                                    refine W_s (s_iload_n dL_law_793 rfl rfl) ?_
                                    refine W_s (s_iconst dL_law_794 kci_3) ?_
                                    refine W_s (s_iadd dL_law_795) ?_
                                    refine W_ck (fun h152 => ?_)
                                    refine W_s (s_sld hB dL_law_796 (gx_ixv h152)) ?_
                                    refine W_bd (ec := gx_eI) (fun r_ μ_ hr_ => s_callV (As := [.int _, .int _, .int _]) dL_law_797 Lk_RL_73 rfl g_0 (by decide) rfl (Nat.le_of_ble_eq_true rfl) (Nat.le_of_ble_eq_true rfl) (ev_X11_corner (xs (v3_1 + 1).toNatClampNeg) (xs (v3_1 + 2).toNatClampNeg) (xs (v3_1 + 3).toNatClampNeg) μ2 hr_)) (fun r153 μ154 => ?_)
                                    refine W_s (s_aload_n dL_law_800 rfl rfl) ?_
                                    refine W_s (s_aload_n dL_law_801 rfl rfl) ?_
                                    refine W_s (s_iload_n dL_law_802 rfl rfl) ?_
                                    refine W_s (s_iconst dL_law_803 kci_1) ?_
                                    refine W_s (s_iadd dL_law_804) ?_
                                    refine W_s (s_sld hB dL_law_805 (gx_ixv h150)) ?_
                                    refine W_s (s_aload_n dL_law_806 rfl rfl) ?_
                                    refine W_s (s_iload_n dL_law_807 rfl rfl) ?_
                                    refine W_s (s_iconst dL_law_808 kci_2) ?_
                                    refine W_s (s_iadd dL_law_809) ?_
                                    refine W_s (s_sld hB dL_law_810 (gx_ixv h151)) ?_
                                    refine W_s (s_aload_n dL_law_811 rfl rfl) ?_
                                    refine W_s (s_iload_n dL_law_812 rfl rfl) ?_
                                    refine W_s (s_iconst dL_law_813 kci_3) ?_
                                    refine W_s (s_iadd dL_law_814) ?_
                                    refine W_s (s_sld hB dL_law_815 (gx_ixv h152)) ?_
                                    refine W_bd (ec := gx_eI) (fun r_ μ_ hr_ => s_callV (As := [.int _, .int _, .int _]) dL_law_816 Lk_RL_76 rfl g_206 (by decide) rfl (Nat.le_of_ble_eq_true rfl) (Nat.le_of_ble_eq_true rfl) (ev_X12_corner (xs (v3_1 + 1).toNatClampNeg) (xs (v3_1 + 2).toNatClampNeg) (xs (v3_1 + 3).toNatClampNeg) μ154 hr_)) (fun r155 μ156 => ?_)
                                    refine W_ite (fun h157 => ?_) (fun h157 => ?_)
                                    · refine W_s (s_icmp_eq_t dL_law_819 rfl h157) ?_
                                      exact W_wk (hJ6 μ156) (le_s rfl (le_s rfl (le_s rfl (le_s rfl le_n))))
                                    · refine W_s (s_icmp_eq_f dL_law_819 rfl h157) ?_
                                      refine W_s (s_iconst dL_law_822 kci_0) ?_
                                      exact W_r (r := false) (f_int (ty := .boolean) (x := gx_bi false) dL_law_823 rfl (gx_bn false))
                                  · skip
                                    refine W_ite (fun h158 => ?_) (fun h158 => ?_)
                                    · refine W_s (s_tsw_eq (c := 14) dL_law_33 h158 (by decide) (by decide) rfl rfl) ?_
                                      refine W_s (s_aload_n dL_law_824 rfl rfl) ?_
                                      refine W_s (s_aload_n dL_law_825 rfl rfl) ?_
                                      refine W_s (s_iload_n dL_law_826 rfl rfl) ?_
                                      refine W_s (s_iconst dL_law_827 kci_1) ?_
                                      refine W_s (s_iadd dL_law_828) ?_
                                      refine W_ck (fun h159 => ?_)
                                      refine W_s (s_sld hB dL_law_829 (gx_ixv h159)) ?_
                                      refine W_s (s_aload_n dL_law_830 rfl rfl) ?_
                                      refine W_s (s_iload_n dL_law_831 rfl rfl) ?_
                                      refine W_s (s_iconst dL_law_832 kci_2) ?_
                                      refine W_s (s_iadd dL_law_833) ?_
                                      refine W_ck (fun h160 => ?_)
                                      refine W_s (s_sld hB dL_law_834 (gx_ixv h160)) ?_
                                      refine W_s (s_aload_n dL_law_835 rfl rfl) ?_
                                      refine W_s (s_iload_n dL_law_836 rfl rfl) ?_
                                      refine W_s (s_iconst dL_law_837 kci_3) ?_
                                      refine W_s (s_iadd dL_law_838) ?_
                                      refine W_ck (fun h161 => ?_)
                                      refine W_s (s_sld hB dL_law_839 (gx_ixv h161)) ?_
                                      refine W_s (s_aload_n dL_law_840 rfl rfl) ?_
                                      refine W_s (s_iload_n dL_law_841 rfl rfl) ?_
                                      refine W_s (s_iconst dL_law_842 kci_4) ?_
                                      refine W_s (s_iadd dL_law_843) ?_
                                      refine W_ck (fun h162 => ?_)
                                      refine W_s (s_sld hB dL_law_844 (gx_ixv h162)) ?_
                                      refine W_fun (fun J => ∀ (j0_165 : Bool) (μ166 : gx_M), GoW E l Y_law 12 gx_eB 853 [some (.ref b), some (.ref (E.2.2.1 + 0)), some (.ref (E.2.2.1 + 206)), some (.int v3_1)] [.int (gx_bi j0_165), .int (xs (v3_1 + 3).toNatClampNeg), .int (xs (v3_1 + 2).toNatClampNeg), .int (xs (v3_1 + 1).toNatClampNeg), .ref (E.2.2.1 + 0)] μ166 (J j0_165 μ166)) ?_ (fun J163 hJ163 => ?_)
                                      · intro j0_165 μ166
                                        refine W_br (ec := gx_eL) (fun r_ hr_ => s_callV (As := [.int _, .int _, .int _, .int _]) dL_law_853 Lk_RL_77 rfl g_0 (by decide) rfl (Nat.le_of_ble_eq_true rfl) (Nat.le_of_ble_eq_true rfl) (ev_X11_tin (xs (v3_1 + 1).toNatClampNeg) (xs (v3_1 + 2).toNatClampNeg) (xs (v3_1 + 3).toNatClampNeg) j0_165 μ166 hr_)) (fun r167 => ?_)
                                        refine W_s (s_aload_n dL_law_856 rfl rfl) ?_
                                        refine W_s (s_aload_n dL_law_857 rfl rfl) ?_
                                        refine W_s (s_iload_n dL_law_858 rfl rfl) ?_
                                        refine W_s (s_iconst dL_law_859 kci_1) ?_
                                        refine W_s (s_iadd dL_law_860) ?_
                                        refine W_s (s_sld hB dL_law_861 (gx_ixv h159)) ?_
                                        refine W_s (s_aload_n dL_law_862 rfl rfl) ?_
                                        refine W_s (s_iload_n dL_law_863 rfl rfl) ?_
                                        refine W_s (s_iconst dL_law_864 kci_2) ?_
                                        refine W_s (s_iadd dL_law_865) ?_
                                        refine W_s (s_sld hB dL_law_866 (gx_ixv h160)) ?_
                                        refine W_s (s_aload_n dL_law_867 rfl rfl) ?_
                                        refine W_s (s_iload_n dL_law_868 rfl rfl) ?_
                                        refine W_s (s_iconst dL_law_869 kci_3) ?_
                                        refine W_s (s_iadd dL_law_870) ?_
                                        refine W_s (s_sld hB dL_law_871 (gx_ixv h161)) ?_
                                        refine W_s (s_aload_n dL_law_872 rfl rfl) ?_
                                        refine W_s (s_iload_n dL_law_873 rfl rfl) ?_
                                        refine W_s (s_iconst dL_law_874 kci_4) ?_
                                        refine W_s (s_iadd dL_law_875) ?_
                                        refine W_s (s_sld hB dL_law_876 (gx_ixv h162)) ?_
                                        refine W_fun (fun J => ∀ (j0_170 : Bool) (μ171 : gx_M), GoW E l Y_law 12 gx_eB 885 [some (.ref b), some (.ref (E.2.2.1 + 0)), some (.ref (E.2.2.1 + 206)), some (.int v3_1)] [.int (gx_bi j0_170), .int (xs (v3_1 + 3).toNatClampNeg), .int (xs (v3_1 + 2).toNatClampNeg), .int (xs (v3_1 + 1).toNatClampNeg), .ref (E.2.2.1 + 206), .long r167] μ171 (J j0_170 μ171)) ?_ (fun J168 hJ168 => ?_)
                                        · intro j0_170 μ171
                                          refine W_bd (ec := gx_eL) (fun r_ μ_ hr_ => s_callV (As := [.int _, .int _, .int _, .int _]) dL_law_885 Lk_RL_81 rfl g_206 (by decide) rfl (Nat.le_of_ble_eq_true rfl) (Nat.le_of_ble_eq_true rfl) (ev_X12_tin (xs (v3_1 + 1).toNatClampNeg) (xs (v3_1 + 2).toNatClampNeg) (xs (v3_1 + 3).toNatClampNeg) j0_170 μ171 hr_)) (fun r172 μ173 => ?_)
                                          refine W_s (s_lcmp dL_law_888) ?_
                                          refine W_ite (fun h174 => ?_) (fun h174 => ?_)
                                          · refine W_s (s_if_eq_t dL_law_889 rfl ((lgc_eq r167 r172).mpr h174)) ?_
                                            exact W_wk (hJ6 μ173) (le_s rfl (le_s rfl (le_s rfl (le_s rfl le_n))))
                                          · refine W_s (s_if_eq_f dL_law_889 rfl (fun hc => h174 ((lgc_eq r167 r172).mp hc))) ?_
                                            refine W_s (s_iconst dL_law_892 kci_0) ?_
                                            exact W_r (r := false) (f_int (ty := .boolean) (x := gx_bi false) dL_law_893 rfl (gx_bn false))
                                        · skip
                                          refine W_ite (fun h169 => ?_) (fun h169 => ?_)
                                          · refine W_s (s_if_eq_t dL_law_877 rfl h169) ?_
                                            refine W_s (s_iconst dL_law_884 kci_0) ?_
                                            exact W_wk (hJ168 false μ166) (le_s rfl (le_s rfl (le_s rfl (le_s rfl le_n))))
                                          · refine W_s (s_if_eq_f dL_law_877 rfl h169) ?_
                                            refine W_s (s_iconst dL_law_880 kci_1) ?_
                                            refine W_s (s_goto dL_law_881 rfl) ?_
                                            exact W_wk (hJ168 true μ166) (le_s rfl (le_s rfl (le_s rfl (le_s rfl le_n))))
                                      · skip
                                        refine W_ite (fun h164 => ?_) (fun h164 => ?_)
                                        · refine W_s (s_if_eq_t dL_law_845 rfl h164) ?_
                                          refine W_s (s_iconst dL_law_852 kci_0) ?_
                                          exact W_wk (hJ163 false μ2) (le_s rfl (le_s rfl (le_s rfl (le_s rfl le_n))))
                                        · refine W_s (s_if_eq_f dL_law_845 rfl h164) ?_
                                          refine W_s (s_iconst dL_law_848 kci_1) ?_
                                          refine W_s (s_goto dL_law_849 rfl) ?_
                                          exact W_wk (hJ163 true μ2) (le_s rfl (le_s rfl (le_s rfl (le_s rfl le_n))))
                                    · skip
                                      refine W_ite (fun h175 => ?_) (fun h175 => ?_)
                                      · refine W_s (s_tsw_eq (c := 15) dL_law_33 h175 (by decide) (by decide) rfl rfl) ?_
                                        refine W_s (s_aload_n dL_law_894 rfl rfl) ?_
                                        refine W_s (s_aload_n dL_law_895 rfl rfl) ?_
                                        refine W_s (s_iload_n dL_law_896 rfl rfl) ?_
                                        refine W_s (s_iconst dL_law_897 kci_1) ?_
                                        refine W_s (s_iadd dL_law_898) ?_
                                        refine W_ck (fun h176 => ?_)
                                        refine W_s (s_sld hB dL_law_899 (gx_ixv h176)) ?_
                                        refine W_s (s_aload_n dL_law_900 rfl rfl) ?_
                                        refine W_s (s_iload_n dL_law_901 rfl rfl) ?_
                                        refine W_s (s_iconst dL_law_902 kci_2) ?_
                                        refine W_s (s_iadd dL_law_903) ?_
                                        refine W_ck (fun h177 => ?_)
                                        refine W_s (s_sld hB dL_law_904 (gx_ixv h177)) ?_
                                        refine W_br (ec := gx_eL) (fun r_ hr_ => s_callV (As := [.int _, .int _]) dL_law_905 Lk_RL_82 rfl g_0 (by decide) rfl (Nat.le_of_ble_eq_true rfl) (Nat.le_of_ble_eq_true rfl) (ev_X11_waits (xs (v3_1 + 1).toNatClampNeg) (xs (v3_1 + 2).toNatClampNeg) μ2 hr_)) (fun r178 => ?_)
                                        refine W_s (s_aload_n dL_law_908 rfl rfl) ?_
                                        refine W_s (s_aload_n dL_law_909 rfl rfl) ?_
                                        refine W_s (s_iload_n dL_law_910 rfl rfl) ?_
                                        refine W_s (s_iconst dL_law_911 kci_1) ?_
                                        refine W_s (s_iadd dL_law_912) ?_
                                        refine W_s (s_sld hB dL_law_913 (gx_ixv h176)) ?_
                                        refine W_s (s_aload_n dL_law_914 rfl rfl) ?_
                                        refine W_s (s_iload_n dL_law_915 rfl rfl) ?_
                                        refine W_s (s_iconst dL_law_916 kci_2) ?_
                                        refine W_s (s_iadd dL_law_917) ?_
                                        refine W_s (s_sld hB dL_law_918 (gx_ixv h177)) ?_
                                        refine W_bd (ec := gx_eL) (fun r_ μ_ hr_ => s_callV (As := [.int _, .int _]) dL_law_919 Lk_RL_86 rfl g_206 (by decide) rfl (Nat.le_of_ble_eq_true rfl) (Nat.le_of_ble_eq_true rfl) (ev_X12_waits (xs (v3_1 + 1).toNatClampNeg) (xs (v3_1 + 2).toNatClampNeg) μ2 hr_)) (fun r179 μ180 => ?_)
                                        refine W_s (s_lcmp dL_law_922) ?_
                                        refine W_ite (fun h181 => ?_) (fun h181 => ?_)
                                        · refine W_s (s_if_eq_t dL_law_923 rfl ((lgc_eq r178 r179).mpr h181)) ?_
                                          exact W_wk (hJ6 μ180) (le_s rfl (le_s rfl (le_s rfl (le_s rfl le_n))))
                                        · refine W_s (s_if_eq_f dL_law_923 rfl (fun hc => h181 ((lgc_eq r178 r179).mp hc))) ?_
                                          refine W_s (s_iconst dL_law_926 kci_0) ?_
                                          exact W_r (r := false) (f_int (ty := .boolean) (x := gx_bi false) dL_law_927 rfl (gx_bn false))
                                      · skip
                                        refine W_ite (fun h182 => ?_) (fun h182 => ?_)
                                        · refine W_s (s_tsw_eq (c := 16) dL_law_33 h182 (by decide) (by decide) rfl rfl) ?_
                                          refine W_s (s_aload_n dL_law_928 rfl rfl) ?_
                                          refine W_s (s_aload_n dL_law_929 rfl rfl) ?_
                                          refine W_s (s_iload_n dL_law_930 rfl rfl) ?_
                                          refine W_s (s_iconst dL_law_931 kci_1) ?_
                                          refine W_s (s_iadd dL_law_932) ?_
                                          refine W_ck (fun h183 => ?_)
                                          refine W_s (s_sld hB dL_law_933 (gx_ixv h183)) ?_
                                          refine W_s (s_aload_n dL_law_934 rfl rfl) ?_
                                          refine W_s (s_iload_n dL_law_935 rfl rfl) ?_
                                          refine W_s (s_iconst dL_law_936 kci_2) ?_
                                          refine W_s (s_iadd dL_law_937) ?_
                                          refine W_ck (fun h184 => ?_)
                                          refine W_s (s_sld hB dL_law_938 (gx_ixv h184)) ?_
                                          refine W_s (s_aload_n dL_law_939 rfl rfl) ?_
                                          refine W_s (s_iload_n dL_law_940 rfl rfl) ?_
                                          refine W_s (s_iconst dL_law_941 kci_3) ?_
                                          refine W_s (s_iadd dL_law_942) ?_
                                          refine W_ck (fun h185 => ?_)
                                          refine W_s (s_sld hB dL_law_943 (gx_ixv h185)) ?_
                                          refine W_br (ec := gx_eI) (fun r_ hr_ => s_callV (As := [.int _, .int _, .int _]) dL_law_944 Lk_RL_87 rfl g_0 (by decide) rfl (Nat.le_of_ble_eq_true rfl) (Nat.le_of_ble_eq_true rfl) (ev_X11_fact (xs (v3_1 + 1).toNatClampNeg) (xs (v3_1 + 2).toNatClampNeg) (xs (v3_1 + 3).toNatClampNeg) μ2 hr_)) (fun r186 => ?_)
                                          refine W_s (s_aload_n dL_law_947 rfl rfl) ?_
                                          refine W_s (s_aload_n dL_law_948 rfl rfl) ?_
                                          refine W_s (s_iload_n dL_law_949 rfl rfl) ?_
                                          refine W_s (s_iconst dL_law_950 kci_1) ?_
                                          refine W_s (s_iadd dL_law_951) ?_
                                          refine W_s (s_sld hB dL_law_952 (gx_ixv h183)) ?_
                                          refine W_s (s_aload_n dL_law_953 rfl rfl) ?_
                                          refine W_s (s_iload_n dL_law_954 rfl rfl) ?_
                                          refine W_s (s_iconst dL_law_955 kci_2) ?_
                                          refine W_s (s_iadd dL_law_956) ?_
                                          refine W_s (s_sld hB dL_law_957 (gx_ixv h184)) ?_
                                          refine W_s (s_aload_n dL_law_958 rfl rfl) ?_
                                          refine W_s (s_iload_n dL_law_959 rfl rfl) ?_
                                          refine W_s (s_iconst dL_law_960 kci_3) ?_
                                          refine W_s (s_iadd dL_law_961) ?_
                                          refine W_s (s_sld hB dL_law_962 (gx_ixv h185)) ?_
                                          refine W_bd (ec := gx_eI) (fun r_ μ_ hr_ => s_callV (As := [.int _, .int _, .int _]) dL_law_963 Lk_RL_90 rfl g_206 (by decide) rfl (Nat.le_of_ble_eq_true rfl) (Nat.le_of_ble_eq_true rfl) (ev_X12_fact (xs (v3_1 + 1).toNatClampNeg) (xs (v3_1 + 2).toNatClampNeg) (xs (v3_1 + 3).toNatClampNeg) μ2 hr_)) (fun r187 μ188 => ?_)
                                          refine W_ite (fun h189 => ?_) (fun h189 => ?_)
                                          · refine W_s (s_icmp_eq_t dL_law_966 rfl h189) ?_
                                            exact W_wk (hJ6 μ188) (le_s rfl (le_s rfl (le_s rfl (le_s rfl le_n))))
                                          · refine W_s (s_icmp_eq_f dL_law_966 rfl h189) ?_
                                            refine W_s (s_iconst dL_law_969 kci_0) ?_
                                            exact W_r (r := false) (f_int (ty := .boolean) (x := gx_bi false) dL_law_970 rfl (gx_bn false))
                                        · skip
                                          refine W_ite (fun h190 => ?_) (fun h190 => ?_)
                                          · refine W_s (s_tsw_eq (c := 17) dL_law_33 h190 (by decide) (by decide) rfl rfl) ?_
                                            refine W_s (s_aload_n dL_law_971 rfl rfl) ?_
                                            refine W_s (s_aload_n dL_law_972 rfl rfl) ?_
                                            refine W_s (s_iload_n dL_law_973 rfl rfl) ?_
                                            refine W_s (s_iconst dL_law_974 kci_1) ?_
                                            refine W_s (s_iadd dL_law_975) ?_
                                            refine W_ck (fun h191 => ?_)
                                            refine W_s (s_sld hB dL_law_976 (gx_ixv h191)) ?_
                                            refine W_s (s_aload_n dL_law_977 rfl rfl) ?_
                                            refine W_s (s_iload_n dL_law_978 rfl rfl) ?_
                                            refine W_s (s_iconst dL_law_979 kci_2) ?_
                                            refine W_s (s_iadd dL_law_980) ?_
                                            refine W_ck (fun h192 => ?_)
                                            refine W_s (s_sld hB dL_law_981 (gx_ixv h192)) ?_
                                            refine W_bd (ec := gx_eI) (fun r_ μ_ hr_ => s_callV (As := [.int _, .int _]) dL_law_982 Lk_RL_91 rfl g_0 (by decide) rfl (Nat.le_of_ble_eq_true rfl) (Nat.le_of_ble_eq_true rfl) (ev_X11_fits (xs (v3_1 + 1).toNatClampNeg) (xs (v3_1 + 2).toNatClampNeg) μ2 hr_)) (fun r193 μ194 => ?_)
                                            refine W_s (s_aload_n dL_law_985 rfl rfl) ?_
                                            refine W_s (s_aload_n dL_law_986 rfl rfl) ?_
                                            refine W_s (s_iload_n dL_law_987 rfl rfl) ?_
                                            refine W_s (s_iconst dL_law_988 kci_1) ?_
                                            refine W_s (s_iadd dL_law_989) ?_
                                            refine W_s (s_sld hB dL_law_990 (gx_ixv h191)) ?_
                                            refine W_s (s_aload_n dL_law_991 rfl rfl) ?_
                                            refine W_s (s_iload_n dL_law_992 rfl rfl) ?_
                                            refine W_s (s_iconst dL_law_993 kci_2) ?_
                                            refine W_s (s_iadd dL_law_994) ?_
                                            refine W_s (s_sld hB dL_law_995 (gx_ixv h192)) ?_
                                            refine W_bd (ec := gx_eI) (fun r_ μ_ hr_ => s_callV (As := [.int _, .int _]) dL_law_996 Lk_RL_94 rfl g_206 (by decide) rfl (Nat.le_of_ble_eq_true rfl) (Nat.le_of_ble_eq_true rfl) (ev_X12_fits (xs (v3_1 + 1).toNatClampNeg) (xs (v3_1 + 2).toNatClampNeg) μ194 hr_)) (fun r195 μ196 => ?_)
                                            refine W_ite (fun h197 => ?_) (fun h197 => ?_)
                                            · refine W_s (s_icmp_eq_t dL_law_999 rfl h197) ?_
                                              exact W_wk (hJ6 μ196) (le_s rfl (le_s rfl (le_s rfl (le_s rfl le_n))))
                                            · refine W_s (s_icmp_eq_f dL_law_999 rfl h197) ?_
                                              refine W_s (s_iconst dL_law_1002 kci_0) ?_
                                              exact W_r (r := false) (f_int (ty := .boolean) (x := gx_bi false) dL_law_1003 rfl (gx_bn false))
                                          · skip
                                            refine W_ite (fun h198 => ?_) (fun h198 => ?_)
                                            · refine W_s (s_tsw_eq (c := 18) dL_law_33 h198 (by decide) (by decide) rfl rfl) ?_
                                              refine W_s (s_aload_n dL_law_1004 rfl rfl) ?_
                                              refine W_s (s_aload_n dL_law_1005 rfl rfl) ?_
                                              refine W_s (s_iload_n dL_law_1006 rfl rfl) ?_
                                              refine W_s (s_iconst dL_law_1007 kci_1) ?_
                                              refine W_s (s_iadd dL_law_1008) ?_
                                              refine W_ck (fun h199 => ?_)
                                              refine W_s (s_sld hB dL_law_1009 (gx_ixv h199)) ?_
                                              refine W_s (s_aload_n dL_law_1010 rfl rfl) ?_
                                              refine W_s (s_iload_n dL_law_1011 rfl rfl) ?_
                                              refine W_s (s_iconst dL_law_1012 kci_2) ?_
                                              refine W_s (s_iadd dL_law_1013) ?_
                                              refine W_ck (fun h200 => ?_)
                                              refine W_s (s_sld hB dL_law_1014 (gx_ixv h200)) ?_
                                              refine W_bd (ec := gx_eI) (fun r_ μ_ hr_ => s_callV (As := [.int _, .int _]) dL_law_1015 Lk_RL_95 rfl g_0 (by decide) rfl (Nat.le_of_ble_eq_true rfl) (Nat.le_of_ble_eq_true rfl) (ev_X11_swap (xs (v3_1 + 1).toNatClampNeg) (xs (v3_1 + 2).toNatClampNeg) μ2 hr_)) (fun r201 μ202 => ?_)
                                              refine W_s (s_aload_n dL_law_1018 rfl rfl) ?_
                                              refine W_s (s_aload_n dL_law_1019 rfl rfl) ?_
                                              refine W_s (s_iload_n dL_law_1020 rfl rfl) ?_
                                              refine W_s (s_iconst dL_law_1021 kci_1) ?_
                                              refine W_s (s_iadd dL_law_1022) ?_
                                              refine W_s (s_sld hB dL_law_1023 (gx_ixv h199)) ?_
                                              refine W_s (s_aload_n dL_law_1024 rfl rfl) ?_
                                              refine W_s (s_iload_n dL_law_1025 rfl rfl) ?_
                                              refine W_s (s_iconst dL_law_1026 kci_2) ?_
                                              refine W_s (s_iadd dL_law_1027) ?_
                                              refine W_s (s_sld hB dL_law_1028 (gx_ixv h200)) ?_
                                              refine W_bd (ec := gx_eI) (fun r_ μ_ hr_ => s_callV (As := [.int _, .int _]) dL_law_1029 Lk_RL_98 rfl g_206 (by decide) rfl (Nat.le_of_ble_eq_true rfl) (Nat.le_of_ble_eq_true rfl) (ev_X12_swap (xs (v3_1 + 1).toNatClampNeg) (xs (v3_1 + 2).toNatClampNeg) μ202 hr_)) (fun r203 μ204 => ?_)
                                              refine W_ite (fun h205 => ?_) (fun h205 => ?_)
                                              · refine W_s (s_icmp_eq_t dL_law_1032 rfl h205) ?_
                                                exact W_wk (hJ6 μ204) (le_s rfl (le_s rfl (le_s rfl (le_s rfl le_n))))
                                              · refine W_s (s_icmp_eq_f dL_law_1032 rfl h205) ?_
                                                refine W_s (s_iconst dL_law_1035 kci_0) ?_
                                                exact W_r (r := false) (f_int (ty := .boolean) (x := gx_bi false) dL_law_1036 rfl (gx_bn false))
                                            · skip
                                              refine W_ite (fun h206 => ?_) (fun h206 => ?_)
                                              · refine W_s (s_tsw_eq (c := 19) dL_law_33 h206 (by decide) (by decide) rfl rfl) ?_
                                                refine W_s (s_aload_n dL_law_1037 rfl rfl) ?_
                                                refine W_s (s_aload_n dL_law_1038 rfl rfl) ?_
                                                refine W_s (s_iload_n dL_law_1039 rfl rfl) ?_
                                                refine W_s (s_iconst dL_law_1040 kci_1) ?_
                                                refine W_s (s_iadd dL_law_1041) ?_
                                                refine W_ck (fun h207 => ?_)
                                                refine W_s (s_sld hB dL_law_1042 (gx_ixv h207)) ?_
                                                refine W_s (s_aload_n dL_law_1043 rfl rfl) ?_
                                                refine W_s (s_iload_n dL_law_1044 rfl rfl) ?_
                                                refine W_s (s_iconst dL_law_1045 kci_2) ?_
                                                refine W_s (s_iadd dL_law_1046) ?_
                                                refine W_ck (fun h208 => ?_)
                                                refine W_s (s_sld hB dL_law_1047 (gx_ixv h208)) ?_
                                                refine W_s (s_aload_n dL_law_1048 rfl rfl) ?_
                                                refine W_s (s_iload_n dL_law_1049 rfl rfl) ?_
                                                refine W_s (s_iconst dL_law_1050 kci_3) ?_
                                                refine W_s (s_iadd dL_law_1051) ?_
                                                refine W_ck (fun h209 => ?_)
                                                refine W_s (s_sld hB dL_law_1052 (gx_ixv h209)) ?_
                                                refine W_s (s_aload_n dL_law_1053 rfl rfl) ?_
                                                refine W_s (s_iload_n dL_law_1054 rfl rfl) ?_
                                                refine W_s (s_iconst dL_law_1055 kci_4) ?_
                                                refine W_s (s_iadd dL_law_1056) ?_
                                                refine W_ck (fun h210 => ?_)
                                                refine W_s (s_sld hB dL_law_1057 (gx_ixv h210)) ?_
                                                refine W_bd (ec := gx_eI) (fun r_ μ_ hr_ => s_callV (As := [.int _, .int _, .int _, .int _]) dL_law_1058 Lk_RL_99 rfl g_0 (by decide) rfl (Nat.le_of_ble_eq_true rfl) (Nat.le_of_ble_eq_true rfl) (ev_X11_drawn hE (xs (v3_1 + 1).toNatClampNeg) (xs (v3_1 + 2).toNatClampNeg) (xs (v3_1 + 3).toNatClampNeg) (xs (v3_1 + 4).toNatClampNeg) μ2 hr_)) (fun r211 μ212 => ?_)
                                                refine W_s (s_aload_n dL_law_1061 rfl rfl) ?_
                                                refine W_s (s_aload_n dL_law_1062 rfl rfl) ?_
                                                refine W_s (s_iload_n dL_law_1063 rfl rfl) ?_
                                                refine W_s (s_iconst dL_law_1064 kci_1) ?_
                                                refine W_s (s_iadd dL_law_1065) ?_
                                                refine W_s (s_sld hB dL_law_1066 (gx_ixv h207)) ?_
                                                refine W_s (s_aload_n dL_law_1067 rfl rfl) ?_
                                                refine W_s (s_iload_n dL_law_1068 rfl rfl) ?_
                                                refine W_s (s_iconst dL_law_1069 kci_2) ?_
                                                refine W_s (s_iadd dL_law_1070) ?_
                                                refine W_s (s_sld hB dL_law_1071 (gx_ixv h208)) ?_
                                                refine W_s (s_aload_n dL_law_1072 rfl rfl) ?_
                                                refine W_s (s_iload_n dL_law_1073 rfl rfl) ?_
                                                refine W_s (s_iconst dL_law_1074 kci_3) ?_
                                                refine W_s (s_iadd dL_law_1075) ?_
                                                refine W_s (s_sld hB dL_law_1076 (gx_ixv h209)) ?_
                                                refine W_s (s_aload_n dL_law_1077 rfl rfl) ?_
                                                refine W_s (s_iload_n dL_law_1078 rfl rfl) ?_
                                                refine W_s (s_iconst dL_law_1079 kci_4) ?_
                                                refine W_s (s_iadd dL_law_1080) ?_
                                                refine W_s (s_sld hB dL_law_1081 (gx_ixv h210)) ?_
                                                refine W_bd (ec := gx_eI) (fun r_ μ_ hr_ => s_callV (As := [.int _, .int _, .int _, .int _]) dL_law_1082 Lk_RL_102 rfl g_206 (by decide) rfl (Nat.le_of_ble_eq_true rfl) (Nat.le_of_ble_eq_true rfl) (ev_X12_drawn (xs (v3_1 + 1).toNatClampNeg) (xs (v3_1 + 2).toNatClampNeg) (xs (v3_1 + 3).toNatClampNeg) (xs (v3_1 + 4).toNatClampNeg) μ212 hr_)) (fun r213 μ214 => ?_)
                                                refine W_ite (fun h215 => ?_) (fun h215 => ?_)
                                                · refine W_s (s_icmp_eq_t dL_law_1085 rfl h215) ?_
                                                  exact W_wk (hJ6 μ214) (le_s rfl (le_s rfl (le_s rfl (le_s rfl le_n))))
                                                · refine W_s (s_icmp_eq_f dL_law_1085 rfl h215) ?_
                                                  refine W_s (s_iconst dL_law_1088 kci_0) ?_
                                                  exact W_r (r := false) (f_int (ty := .boolean) (x := gx_bi false) dL_law_1089 rfl (gx_bn false))
                                              · skip
                                                refine W_ite (fun h216 => ?_) (fun h216 => ?_)
                                                · refine W_s (s_tsw_eq (c := 20) dL_law_33 h216 (by decide) (by decide) rfl rfl) ?_
                                                  refine W_s (s_aload_n dL_law_1090 rfl rfl) ?_
                                                  refine W_s (s_aload_n dL_law_1091 rfl rfl) ?_
                                                  refine W_s (s_iload_n dL_law_1092 rfl rfl) ?_
                                                  refine W_s (s_iconst dL_law_1093 kci_1) ?_
                                                  refine W_s (s_iadd dL_law_1094) ?_
                                                  refine W_ck (fun h217 => ?_)
                                                  refine W_s (s_sld hB dL_law_1095 (gx_ixv h217)) ?_
                                                  refine W_s (s_aload_n dL_law_1096 rfl rfl) ?_
                                                  refine W_s (s_iload_n dL_law_1097 rfl rfl) ?_
                                                  refine W_s (s_iconst dL_law_1098 kci_2) ?_
                                                  refine W_s (s_iadd dL_law_1099) ?_
                                                  refine W_ck (fun h218 => ?_)
                                                  refine W_s (s_sld hB dL_law_1100 (gx_ixv h218)) ?_
                                                  refine W_s (s_aload_n dL_law_1101 rfl rfl) ?_
                                                  refine W_s (s_iload_n dL_law_1102 rfl rfl) ?_
                                                  refine W_s (s_iconst dL_law_1103 kci_3) ?_
                                                  refine W_s (s_iadd dL_law_1104) ?_
                                                  refine W_ck (fun h219 => ?_)
                                                  refine W_s (s_sld hB dL_law_1105 (gx_ixv h219)) ?_
                                                  refine W_bd (ec := gx_eI) (fun r_ μ_ hr_ => s_callV (As := [.int _, .int _, .int _]) dL_law_1106 Lk_RL_103 rfl g_0 (by decide) rfl (Nat.le_of_ble_eq_true rfl) (Nat.le_of_ble_eq_true rfl) (ev_X11_robbed (xs (v3_1 + 1).toNatClampNeg) (xs (v3_1 + 2).toNatClampNeg) (xs (v3_1 + 3).toNatClampNeg) μ2 hr_)) (fun r220 μ221 => ?_)
                                                  refine W_s (s_aload_n dL_law_1109 rfl rfl) ?_
                                                  refine W_s (s_aload_n dL_law_1110 rfl rfl) ?_
                                                  refine W_s (s_iload_n dL_law_1111 rfl rfl) ?_
                                                  refine W_s (s_iconst dL_law_1112 kci_1) ?_
                                                  refine W_s (s_iadd dL_law_1113) ?_
                                                  refine W_s (s_sld hB dL_law_1114 (gx_ixv h217)) ?_
                                                  refine W_s (s_aload_n dL_law_1115 rfl rfl) ?_
                                                  refine W_s (s_iload_n dL_law_1116 rfl rfl) ?_
                                                  refine W_s (s_iconst dL_law_1117 kci_2) ?_
                                                  refine W_s (s_iadd dL_law_1118) ?_
                                                  refine W_s (s_sld hB dL_law_1119 (gx_ixv h218)) ?_
                                                  refine W_s (s_aload_n dL_law_1120 rfl rfl) ?_
                                                  refine W_s (s_iload_n dL_law_1121 rfl rfl) ?_
                                                  refine W_s (s_iconst dL_law_1122 kci_3) ?_
                                                  refine W_s (s_iadd dL_law_1123) ?_
                                                  refine W_s (s_sld hB dL_law_1124 (gx_ixv h219)) ?_
                                                  refine W_bd (ec := gx_eI) (fun r_ μ_ hr_ => s_callV (As := [.int _, .int _, .int _]) dL_law_1125 Lk_RL_106 rfl g_206 (by decide) rfl (Nat.le_of_ble_eq_true rfl) (Nat.le_of_ble_eq_true rfl) (ev_X12_robbed (xs (v3_1 + 1).toNatClampNeg) (xs (v3_1 + 2).toNatClampNeg) (xs (v3_1 + 3).toNatClampNeg) μ221 hr_)) (fun r222 μ223 => ?_)
                                                  refine W_ite (fun h224 => ?_) (fun h224 => ?_)
                                                  · refine W_s (s_icmp_eq_t dL_law_1128 rfl h224) ?_
                                                    exact W_wk (hJ6 μ223) (le_s rfl (le_s rfl (le_s rfl (le_s rfl le_n))))
                                                  · refine W_s (s_icmp_eq_f dL_law_1128 rfl h224) ?_
                                                    refine W_s (s_iconst dL_law_1131 kci_0) ?_
                                                    exact W_r (r := false) (f_int (ty := .boolean) (x := gx_bi false) dL_law_1132 rfl (gx_bn false))
                                                · skip
                                                  refine W_ite (fun h225 => ?_) (fun h225 => ?_)
                                                  · refine W_s (s_tsw_eq (c := 21) dL_law_33 h225 (by decide) (by decide) rfl rfl) ?_
                                                    refine W_s (s_aload_n dL_law_1133 rfl rfl) ?_
                                                    refine W_s (s_aload_n dL_law_1134 rfl rfl) ?_
                                                    refine W_s (s_iload_n dL_law_1135 rfl rfl) ?_
                                                    refine W_s (s_iconst dL_law_1136 kci_1) ?_
                                                    refine W_s (s_iadd dL_law_1137) ?_
                                                    refine W_ck (fun h226 => ?_)
                                                    refine W_s (s_sld hB dL_law_1138 (gx_ixv h226)) ?_
                                                    refine W_s (s_aload_n dL_law_1139 rfl rfl) ?_
                                                    refine W_s (s_iload_n dL_law_1140 rfl rfl) ?_
                                                    refine W_s (s_iconst dL_law_1141 kci_2) ?_
                                                    refine W_s (s_iadd dL_law_1142) ?_
                                                    refine W_ck (fun h227 => ?_)
                                                    refine W_s (s_sld hB dL_law_1143 (gx_ixv h227)) ?_
                                                    refine W_s (s_aload_n dL_law_1144 rfl rfl) ?_
                                                    refine W_s (s_iload_n dL_law_1145 rfl rfl) ?_
                                                    refine W_s (s_iconst dL_law_1146 kci_3) ?_
                                                    refine W_s (s_iadd dL_law_1147) ?_
                                                    refine W_ck (fun h228 => ?_)
                                                    refine W_s (s_sld hB dL_law_1148 (gx_ixv h228)) ?_
                                                    refine W_br (ec := gx_eI) (fun r_ hr_ => s_callV (As := [.int _, .int _, .int _]) dL_law_1149 Lk_RL_107 rfl g_0 (by decide) rfl (Nat.le_of_ble_eq_true rfl) (Nat.le_of_ble_eq_true rfl) (ev_X11_shared (xs (v3_1 + 1).toNatClampNeg) (xs (v3_1 + 2).toNatClampNeg) (xs (v3_1 + 3).toNatClampNeg) μ2 hr_)) (fun r229 => ?_)
                                                    refine W_s (s_aload_n dL_law_1152 rfl rfl) ?_
                                                    refine W_s (s_aload_n dL_law_1153 rfl rfl) ?_
                                                    refine W_s (s_iload_n dL_law_1154 rfl rfl) ?_
                                                    refine W_s (s_iconst dL_law_1155 kci_1) ?_
                                                    refine W_s (s_iadd dL_law_1156) ?_
                                                    refine W_s (s_sld hB dL_law_1157 (gx_ixv h226)) ?_
                                                    refine W_s (s_aload_n dL_law_1158 rfl rfl) ?_
                                                    refine W_s (s_iload_n dL_law_1159 rfl rfl) ?_
                                                    refine W_s (s_iconst dL_law_1160 kci_2) ?_
                                                    refine W_s (s_iadd dL_law_1161) ?_
                                                    refine W_s (s_sld hB dL_law_1162 (gx_ixv h227)) ?_
                                                    refine W_s (s_aload_n dL_law_1163 rfl rfl) ?_
                                                    refine W_s (s_iload_n dL_law_1164 rfl rfl) ?_
                                                    refine W_s (s_iconst dL_law_1165 kci_3) ?_
                                                    refine W_s (s_iadd dL_law_1166) ?_
                                                    refine W_s (s_sld hB dL_law_1167 (gx_ixv h228)) ?_
                                                    refine W_bd (ec := gx_eI) (fun r_ μ_ hr_ => s_callV (As := [.int _, .int _, .int _]) dL_law_1168 Lk_RL_110 rfl g_206 (by decide) rfl (Nat.le_of_ble_eq_true rfl) (Nat.le_of_ble_eq_true rfl) (ev_X12_shared (xs (v3_1 + 1).toNatClampNeg) (xs (v3_1 + 2).toNatClampNeg) (xs (v3_1 + 3).toNatClampNeg) μ2 hr_)) (fun r230 μ231 => ?_)
                                                    refine W_ite (fun h232 => ?_) (fun h232 => ?_)
                                                    · refine W_s (s_icmp_eq_t dL_law_1171 rfl h232) ?_
                                                      exact W_wk (hJ6 μ231) (le_s rfl (le_s rfl (le_s rfl (le_s rfl le_n))))
                                                    · refine W_s (s_icmp_eq_f dL_law_1171 rfl h232) ?_
                                                      refine W_s (s_iconst dL_law_1174 kci_0) ?_
                                                      exact W_r (r := false) (f_int (ty := .boolean) (x := gx_bi false) dL_law_1175 rfl (gx_bn false))
                                                  · skip
                                                    refine W_ite (fun h233 => ?_) (fun h233 => ?_)
                                                    · refine W_s (s_tsw_eq (c := 22) dL_law_33 h233 (by decide) (by decide) rfl rfl) ?_
                                                      refine W_s (s_aload_n dL_law_1176 rfl rfl) ?_
                                                      refine W_s (s_aload_n dL_law_1177 rfl rfl) ?_
                                                      refine W_s (s_iload_n dL_law_1178 rfl rfl) ?_
                                                      refine W_s (s_iconst dL_law_1179 kci_1) ?_
                                                      refine W_s (s_iadd dL_law_1180) ?_
                                                      refine W_ck (fun h234 => ?_)
                                                      refine W_s (s_sld hB dL_law_1181 (gx_ixv h234)) ?_
                                                      refine W_s (s_aload_n dL_law_1182 rfl rfl) ?_
                                                      refine W_s (s_iload_n dL_law_1183 rfl rfl) ?_
                                                      refine W_s (s_iconst dL_law_1184 kci_2) ?_
                                                      refine W_s (s_iadd dL_law_1185) ?_
                                                      refine W_ck (fun h235 => ?_)
                                                      refine W_s (s_sld hB dL_law_1186 (gx_ixv h235)) ?_
                                                      refine W_s (s_aload_n dL_law_1187 rfl rfl) ?_
                                                      refine W_s (s_iload_n dL_law_1188 rfl rfl) ?_
                                                      refine W_s (s_iconst dL_law_1189 kci_3) ?_
                                                      refine W_s (s_iadd dL_law_1190) ?_
                                                      refine W_ck (fun h236 => ?_)
                                                      refine W_s (s_sld hB dL_law_1191 (gx_ixv h236)) ?_
                                                      refine W_s (s_aload_n dL_law_1192 rfl rfl) ?_
                                                      refine W_s (s_iload_n dL_law_1193 rfl rfl) ?_
                                                      refine W_s (s_iconst dL_law_1194 kci_4) ?_
                                                      refine W_s (s_iadd dL_law_1195) ?_
                                                      refine W_ck (fun h237 => ?_)
                                                      refine W_s (s_sld hB dL_law_1196 (gx_ixv h237)) ?_
                                                      refine W_fun (fun J => ∀ (j0_240 : Bool) (μ241 : gx_M), GoW E l Y_law 12 gx_eB 1205 [some (.ref b), some (.ref (E.2.2.1 + 0)), some (.ref (E.2.2.1 + 206)), some (.int v3_1)] [.int (gx_bi j0_240), .int (xs (v3_1 + 3).toNatClampNeg), .int (xs (v3_1 + 2).toNatClampNeg), .int (xs (v3_1 + 1).toNatClampNeg), .ref (E.2.2.1 + 0)] μ241 (J j0_240 μ241)) ?_ (fun J238 hJ238 => ?_)
                                                      · intro j0_240 μ241
                                                        refine W_bd (ec := gx_eI) (fun r_ μ_ hr_ => s_callV (As := [.int _, .int _, .int _, .int _]) dL_law_1205 Lk_RL_111 rfl g_0 (by decide) rfl (Nat.le_of_ble_eq_true rfl) (Nat.le_of_ble_eq_true rfl) (ev_X11_gift (xs (v3_1 + 1).toNatClampNeg) (xs (v3_1 + 2).toNatClampNeg) (xs (v3_1 + 3).toNatClampNeg) j0_240 μ241 hr_)) (fun r242 μ243 => ?_)
                                                        refine W_s (s_aload_n dL_law_1208 rfl rfl) ?_
                                                        refine W_s (s_aload_n dL_law_1209 rfl rfl) ?_
                                                        refine W_s (s_iload_n dL_law_1210 rfl rfl) ?_
                                                        refine W_s (s_iconst dL_law_1211 kci_1) ?_
                                                        refine W_s (s_iadd dL_law_1212) ?_
                                                        refine W_s (s_sld hB dL_law_1213 (gx_ixv h234)) ?_
                                                        refine W_s (s_aload_n dL_law_1214 rfl rfl) ?_
                                                        refine W_s (s_iload_n dL_law_1215 rfl rfl) ?_
                                                        refine W_s (s_iconst dL_law_1216 kci_2) ?_
                                                        refine W_s (s_iadd dL_law_1217) ?_
                                                        refine W_s (s_sld hB dL_law_1218 (gx_ixv h235)) ?_
                                                        refine W_s (s_aload_n dL_law_1219 rfl rfl) ?_
                                                        refine W_s (s_iload_n dL_law_1220 rfl rfl) ?_
                                                        refine W_s (s_iconst dL_law_1221 kci_3) ?_
                                                        refine W_s (s_iadd dL_law_1222) ?_
                                                        refine W_s (s_sld hB dL_law_1223 (gx_ixv h236)) ?_
                                                        refine W_s (s_aload_n dL_law_1224 rfl rfl) ?_
                                                        refine W_s (s_iload_n dL_law_1225 rfl rfl) ?_
                                                        refine W_s (s_iconst dL_law_1226 kci_4) ?_
                                                        refine W_s (s_iadd dL_law_1227) ?_
                                                        refine W_s (s_sld hB dL_law_1228 (gx_ixv h237)) ?_
                                                        refine W_fun (fun J => ∀ (j0_246 : Bool) (μ247 : gx_M), GoW E l Y_law 12 gx_eB 1237 [some (.ref b), some (.ref (E.2.2.1 + 0)), some (.ref (E.2.2.1 + 206)), some (.int v3_1)] [.int (gx_bi j0_246), .int (xs (v3_1 + 3).toNatClampNeg), .int (xs (v3_1 + 2).toNatClampNeg), .int (xs (v3_1 + 1).toNatClampNeg), .ref (E.2.2.1 + 206), .int r242] μ247 (J j0_246 μ247)) ?_ (fun J244 hJ244 => ?_)
                                                        · intro j0_246 μ247
                                                          refine W_bd (ec := gx_eI) (fun r_ μ_ hr_ => s_callV (As := [.int _, .int _, .int _, .int _]) dL_law_1237 Lk_RL_114 rfl g_206 (by decide) rfl (Nat.le_of_ble_eq_true rfl) (Nat.le_of_ble_eq_true rfl) (ev_X12_gift (xs (v3_1 + 1).toNatClampNeg) (xs (v3_1 + 2).toNatClampNeg) (xs (v3_1 + 3).toNatClampNeg) j0_246 μ247 hr_)) (fun r248 μ249 => ?_)
                                                          refine W_ite (fun h250 => ?_) (fun h250 => ?_)
                                                          · refine W_s (s_icmp_eq_t dL_law_1240 rfl h250) ?_
                                                            exact W_wk (hJ6 μ249) (le_s rfl (le_s rfl (le_s rfl (le_s rfl le_n))))
                                                          · refine W_s (s_icmp_eq_f dL_law_1240 rfl h250) ?_
                                                            refine W_s (s_iconst dL_law_1243 kci_0) ?_
                                                            exact W_r (r := false) (f_int (ty := .boolean) (x := gx_bi false) dL_law_1244 rfl (gx_bn false))
                                                        · skip
                                                          refine W_ite (fun h245 => ?_) (fun h245 => ?_)
                                                          · refine W_s (s_if_eq_t dL_law_1229 rfl h245) ?_
                                                            refine W_s (s_iconst dL_law_1236 kci_0) ?_
                                                            exact W_wk (hJ244 false μ243) (le_s rfl (le_s rfl (le_s rfl (le_s rfl le_n))))
                                                          · refine W_s (s_if_eq_f dL_law_1229 rfl h245) ?_
                                                            refine W_s (s_iconst dL_law_1232 kci_1) ?_
                                                            refine W_s (s_goto dL_law_1233 rfl) ?_
                                                            exact W_wk (hJ244 true μ243) (le_s rfl (le_s rfl (le_s rfl (le_s rfl le_n))))
                                                      · skip
                                                        refine W_ite (fun h239 => ?_) (fun h239 => ?_)
                                                        · refine W_s (s_if_eq_t dL_law_1197 rfl h239) ?_
                                                          refine W_s (s_iconst dL_law_1204 kci_0) ?_
                                                          exact W_wk (hJ238 false μ2) (le_s rfl (le_s rfl (le_s rfl (le_s rfl le_n))))
                                                        · refine W_s (s_if_eq_f dL_law_1197 rfl h239) ?_
                                                          refine W_s (s_iconst dL_law_1200 kci_1) ?_
                                                          refine W_s (s_goto dL_law_1201 rfl) ?_
                                                          exact W_wk (hJ238 true μ2) (le_s rfl (le_s rfl (le_s rfl (le_s rfl le_n))))
                                                    · skip
                                                      refine W_ite (fun h251 => ?_) (fun h251 => ?_)
                                                      · refine W_s (s_tsw_eq (c := 23) dL_law_33 h251 (by decide) (by decide) rfl rfl) ?_
                                                        refine W_s (s_aload_n dL_law_1245 rfl rfl) ?_
                                                        refine W_s (s_aload_n dL_law_1246 rfl rfl) ?_
                                                        refine W_s (s_iload_n dL_law_1247 rfl rfl) ?_
                                                        refine W_s (s_iconst dL_law_1248 kci_1) ?_
                                                        refine W_s (s_iadd dL_law_1249) ?_
                                                        refine W_ck (fun h252 => ?_)
                                                        refine W_s (s_sld hB dL_law_1250 (gx_ixv h252)) ?_
                                                        refine W_s (s_aload_n dL_law_1251 rfl rfl) ?_
                                                        refine W_s (s_iload_n dL_law_1252 rfl rfl) ?_
                                                        refine W_s (s_iconst dL_law_1253 kci_2) ?_
                                                        refine W_s (s_iadd dL_law_1254) ?_
                                                        refine W_ck (fun h253 => ?_)
                                                        refine W_s (s_sld hB dL_law_1255 (gx_ixv h253)) ?_
                                                        refine W_s (s_aload_n dL_law_1256 rfl rfl) ?_
                                                        refine W_s (s_iload_n dL_law_1257 rfl rfl) ?_
                                                        refine W_s (s_iconst dL_law_1258 kci_3) ?_
                                                        refine W_s (s_iadd dL_law_1259) ?_
                                                        refine W_ck (fun h254 => ?_)
                                                        refine W_s (s_sld hB dL_law_1260 (gx_ixv h254)) ?_
                                                        refine W_bd (ec := gx_eI) (fun r_ μ_ hr_ => s_callV (As := [.int _, .int _, .int _]) dL_law_1261 Lk_RL_115 rfl g_0 (by decide) rfl (Nat.le_of_ble_eq_true rfl) (Nat.le_of_ble_eq_true rfl) (ev_X11_missed (xs (v3_1 + 1).toNatClampNeg) (xs (v3_1 + 2).toNatClampNeg) (xs (v3_1 + 3).toNatClampNeg) μ2 hr_)) (fun r255 μ256 => ?_)
                                                        refine W_s (s_aload_n dL_law_1264 rfl rfl) ?_
                                                        refine W_s (s_aload_n dL_law_1265 rfl rfl) ?_
                                                        refine W_s (s_iload_n dL_law_1266 rfl rfl) ?_
                                                        refine W_s (s_iconst dL_law_1267 kci_1) ?_
                                                        refine W_s (s_iadd dL_law_1268) ?_
                                                        refine W_s (s_sld hB dL_law_1269 (gx_ixv h252)) ?_
                                                        refine W_s (s_aload_n dL_law_1270 rfl rfl) ?_
                                                        refine W_s (s_iload_n dL_law_1271 rfl rfl) ?_
                                                        refine W_s (s_iconst dL_law_1272 kci_2) ?_
                                                        refine W_s (s_iadd dL_law_1273) ?_
                                                        refine W_s (s_sld hB dL_law_1274 (gx_ixv h253)) ?_
                                                        refine W_s (s_aload_n dL_law_1275 rfl rfl) ?_
                                                        refine W_s (s_iload_n dL_law_1276 rfl rfl) ?_
                                                        refine W_s (s_iconst dL_law_1277 kci_3) ?_
                                                        refine W_s (s_iadd dL_law_1278) ?_
                                                        refine W_s (s_sld hB dL_law_1279 (gx_ixv h254)) ?_
                                                        refine W_bd (ec := gx_eI) (fun r_ μ_ hr_ => s_callV (As := [.int _, .int _, .int _]) dL_law_1280 Lk_RL_118 rfl g_206 (by decide) rfl (Nat.le_of_ble_eq_true rfl) (Nat.le_of_ble_eq_true rfl) (ev_X12_missed (xs (v3_1 + 1).toNatClampNeg) (xs (v3_1 + 2).toNatClampNeg) (xs (v3_1 + 3).toNatClampNeg) μ256 hr_)) (fun r257 μ258 => ?_)
                                                        refine W_ite (fun h259 => ?_) (fun h259 => ?_)
                                                        · refine W_s (s_icmp_eq_t dL_law_1283 rfl h259) ?_
                                                          exact W_wk (hJ6 μ258) (le_s rfl (le_s rfl (le_s rfl (le_s rfl le_n))))
                                                        · refine W_s (s_icmp_eq_f dL_law_1283 rfl h259) ?_
                                                          refine W_s (s_iconst dL_law_1286 kci_0) ?_
                                                          exact W_r (r := false) (f_int (ty := .boolean) (x := gx_bi false) dL_law_1287 rfl (gx_bn false))
                                                      · skip
                                                        refine W_ite (fun h260 => ?_) (fun h260 => ?_)
                                                        · refine W_s (s_tsw_eq (c := 24) dL_law_33 h260 (by decide) (by decide) rfl rfl) ?_
                                                          refine W_s (s_aload_n dL_law_1288 rfl rfl) ?_
                                                          refine W_s (s_aload_n dL_law_1289 rfl rfl) ?_
                                                          refine W_s (s_iload_n dL_law_1290 rfl rfl) ?_
                                                          refine W_s (s_iconst dL_law_1291 kci_1) ?_
                                                          refine W_s (s_iadd dL_law_1292) ?_
                                                          refine W_ck (fun h261 => ?_)
                                                          refine W_s (s_sld hB dL_law_1293 (gx_ixv h261)) ?_
                                                          refine W_s (s_aload_n dL_law_1294 rfl rfl) ?_
                                                          refine W_s (s_iload_n dL_law_1295 rfl rfl) ?_
                                                          refine W_s (s_iconst dL_law_1296 kci_2) ?_
                                                          refine W_s (s_iadd dL_law_1297) ?_
                                                          refine W_ck (fun h262 => ?_)
                                                          refine W_s (s_sld hB dL_law_1298 (gx_ixv h262)) ?_
                                                          refine W_fun (fun J => ∀ (j0_265 : Bool) (μ266 : gx_M), GoW E l Y_law 12 gx_eB 1307 [some (.ref b), some (.ref (E.2.2.1 + 0)), some (.ref (E.2.2.1 + 206)), some (.int v3_1)] [.int (gx_bi j0_265), .int (xs (v3_1 + 1).toNatClampNeg), .ref (E.2.2.1 + 0)] μ266 (J j0_265 μ266)) ?_ (fun J263 hJ263 => ?_)
                                                          · intro j0_265 μ266
                                                            refine W_br (ec := gx_eI) (fun r_ hr_ => s_callV (As := [.int _, .int _]) dL_law_1307 Lk_RL_119 rfl g_0 (by decide) rfl (Nat.le_of_ble_eq_true rfl) (Nat.le_of_ble_eq_true rfl) (ev_X11_wanted (xs (v3_1 + 1).toNatClampNeg) j0_265 μ266 hr_)) (fun r267 => ?_)
                                                            refine W_s (s_aload_n dL_law_1310 rfl rfl) ?_
                                                            refine W_s (s_aload_n dL_law_1311 rfl rfl) ?_
                                                            refine W_s (s_iload_n dL_law_1312 rfl rfl) ?_
                                                            refine W_s (s_iconst dL_law_1313 kci_1) ?_
                                                            refine W_s (s_iadd dL_law_1314) ?_
                                                            refine W_s (s_sld hB dL_law_1315 (gx_ixv h261)) ?_
                                                            refine W_s (s_aload_n dL_law_1316 rfl rfl) ?_
                                                            refine W_s (s_iload_n dL_law_1317 rfl rfl) ?_
                                                            refine W_s (s_iconst dL_law_1318 kci_2) ?_
                                                            refine W_s (s_iadd dL_law_1319) ?_
                                                            refine W_s (s_sld hB dL_law_1320 (gx_ixv h262)) ?_
                                                            refine W_fun (fun J => ∀ (j0_270 : Bool) (μ271 : gx_M), GoW E l Y_law 12 gx_eB 1329 [some (.ref b), some (.ref (E.2.2.1 + 0)), some (.ref (E.2.2.1 + 206)), some (.int v3_1)] [.int (gx_bi j0_270), .int (xs (v3_1 + 1).toNatClampNeg), .ref (E.2.2.1 + 206), .int r267] μ271 (J j0_270 μ271)) ?_ (fun J268 hJ268 => ?_)
                                                            · intro j0_270 μ271
                                                              refine W_bd (ec := gx_eI) (fun r_ μ_ hr_ => s_callV (As := [.int _, .int _]) dL_law_1329 Lk_RL_122 rfl g_206 (by decide) rfl (Nat.le_of_ble_eq_true rfl) (Nat.le_of_ble_eq_true rfl) (ev_X12_wanted (xs (v3_1 + 1).toNatClampNeg) j0_270 μ271 hr_)) (fun r272 μ273 => ?_)
                                                              refine W_ite (fun h274 => ?_) (fun h274 => ?_)
                                                              · refine W_s (s_icmp_eq_t dL_law_1332 rfl h274) ?_
                                                                exact W_wk (hJ6 μ273) (le_s rfl (le_s rfl (le_s rfl (le_s rfl le_n))))
                                                              · refine W_s (s_icmp_eq_f dL_law_1332 rfl h274) ?_
                                                                refine W_s (s_iconst dL_law_1335 kci_0) ?_
                                                                exact W_r (r := false) (f_int (ty := .boolean) (x := gx_bi false) dL_law_1336 rfl (gx_bn false))
                                                            · skip
                                                              refine W_ite (fun h269 => ?_) (fun h269 => ?_)
                                                              · refine W_s (s_if_eq_t dL_law_1321 rfl h269) ?_
                                                                refine W_s (s_iconst dL_law_1328 kci_0) ?_
                                                                exact W_wk (hJ268 false μ266) (le_s rfl (le_s rfl (le_s rfl (le_s rfl le_n))))
                                                              · refine W_s (s_if_eq_f dL_law_1321 rfl h269) ?_
                                                                refine W_s (s_iconst dL_law_1324 kci_1) ?_
                                                                refine W_s (s_goto dL_law_1325 rfl) ?_
                                                                exact W_wk (hJ268 true μ266) (le_s rfl (le_s rfl (le_s rfl (le_s rfl le_n))))
                                                          · skip
                                                            refine W_ite (fun h264 => ?_) (fun h264 => ?_)
                                                            · refine W_s (s_if_eq_t dL_law_1299 rfl h264) ?_
                                                              refine W_s (s_iconst dL_law_1306 kci_0) ?_
                                                              exact W_wk (hJ263 false μ2) (le_s rfl (le_s rfl (le_s rfl (le_s rfl le_n))))
                                                            · refine W_s (s_if_eq_f dL_law_1299 rfl h264) ?_
                                                              refine W_s (s_iconst dL_law_1302 kci_1) ?_
                                                              refine W_s (s_goto dL_law_1303 rfl) ?_
                                                              exact W_wk (hJ263 true μ2) (le_s rfl (le_s rfl (le_s rfl (le_s rfl le_n))))
                                                        · skip
                                                          refine W_ite (fun h275 => ?_) (fun h275 => ?_)
                                                          · refine W_s (s_tsw_eq (c := 25) dL_law_33 h275 (by decide) (by decide) rfl rfl) ?_
                                                            refine W_s (s_aload_n dL_law_1337 rfl rfl) ?_
                                                            refine W_s (s_aload_n dL_law_1338 rfl rfl) ?_
                                                            refine W_s (s_iload_n dL_law_1339 rfl rfl) ?_
                                                            refine W_s (s_iconst dL_law_1340 kci_1) ?_
                                                            refine W_s (s_iadd dL_law_1341) ?_
                                                            refine W_ck (fun h276 => ?_)
                                                            refine W_s (s_sld hB dL_law_1342 (gx_ixv h276)) ?_
                                                            refine W_s (s_aload_n dL_law_1343 rfl rfl) ?_
                                                            refine W_s (s_iload_n dL_law_1344 rfl rfl) ?_
                                                            refine W_s (s_iconst dL_law_1345 kci_2) ?_
                                                            refine W_s (s_iadd dL_law_1346) ?_
                                                            refine W_ck (fun h277 => ?_)
                                                            refine W_s (s_sld hB dL_law_1347 (gx_ixv h277)) ?_
                                                            refine W_bd (ec := gx_eI) (fun r_ μ_ hr_ => s_callV (As := [.int _, .int _]) dL_law_1348 Lk_RL_123 rfl g_0 (by decide) rfl (Nat.le_of_ble_eq_true rfl) (Nat.le_of_ble_eq_true rfl) (ev_X11_left (xs (v3_1 + 1).toNatClampNeg) (xs (v3_1 + 2).toNatClampNeg) μ2 hr_)) (fun r278 μ279 => ?_)
                                                            refine W_s (s_aload_n dL_law_1351 rfl rfl) ?_
                                                            refine W_s (s_aload_n dL_law_1352 rfl rfl) ?_
                                                            refine W_s (s_iload_n dL_law_1353 rfl rfl) ?_
                                                            refine W_s (s_iconst dL_law_1354 kci_1) ?_
                                                            refine W_s (s_iadd dL_law_1355) ?_
                                                            refine W_s (s_sld hB dL_law_1356 (gx_ixv h276)) ?_
                                                            refine W_s (s_aload_n dL_law_1357 rfl rfl) ?_
                                                            refine W_s (s_iload_n dL_law_1358 rfl rfl) ?_
                                                            refine W_s (s_iconst dL_law_1359 kci_2) ?_
                                                            refine W_s (s_iadd dL_law_1360) ?_
                                                            refine W_s (s_sld hB dL_law_1361 (gx_ixv h277)) ?_
                                                            refine W_bd (ec := gx_eI) (fun r_ μ_ hr_ => s_callV (As := [.int _, .int _]) dL_law_1362 Lk_RL_126 rfl g_206 (by decide) rfl (Nat.le_of_ble_eq_true rfl) (Nat.le_of_ble_eq_true rfl) (ev_X12_left (xs (v3_1 + 1).toNatClampNeg) (xs (v3_1 + 2).toNatClampNeg) μ279 hr_)) (fun r280 μ281 => ?_)
                                                            refine W_ite (fun h282 => ?_) (fun h282 => ?_)
                                                            · refine W_s (s_icmp_eq_t dL_law_1365 rfl h282) ?_
                                                              exact W_wk (hJ6 μ281) (le_s rfl (le_s rfl (le_s rfl (le_s rfl le_n))))
                                                            · refine W_s (s_icmp_eq_f dL_law_1365 rfl h282) ?_
                                                              refine W_s (s_iconst dL_law_1368 kci_0) ?_
                                                              exact W_r (r := false) (f_int (ty := .boolean) (x := gx_bi false) dL_law_1369 rfl (gx_bn false))
                                                          · skip
                                                            refine W_ite (fun h283 => ?_) (fun h283 => ?_)
                                                            · refine W_s (s_tsw_eq (c := 26) dL_law_33 h283 (by decide) (by decide) rfl rfl) ?_
                                                              refine W_s (s_aload_n dL_law_1370 rfl rfl) ?_
                                                              refine W_s (s_aload_n dL_law_1371 rfl rfl) ?_
                                                              refine W_s (s_iload_n dL_law_1372 rfl rfl) ?_
                                                              refine W_s (s_iconst dL_law_1373 kci_1) ?_
                                                              refine W_s (s_iadd dL_law_1374) ?_
                                                              refine W_ck (fun h284 => ?_)
                                                              refine W_s (s_sld hB dL_law_1375 (gx_ixv h284)) ?_
                                                              refine W_s (s_aload_n dL_law_1376 rfl rfl) ?_
                                                              refine W_s (s_iload_n dL_law_1377 rfl rfl) ?_
                                                              refine W_s (s_iconst dL_law_1378 kci_2) ?_
                                                              refine W_s (s_iadd dL_law_1379) ?_
                                                              refine W_ck (fun h285 => ?_)
                                                              refine W_s (s_sld hB dL_law_1380 (gx_ixv h285)) ?_
                                                              refine W_s (s_aload_n dL_law_1381 rfl rfl) ?_
                                                              refine W_s (s_iload_n dL_law_1382 rfl rfl) ?_
                                                              refine W_s (s_iconst dL_law_1383 kci_3) ?_
                                                              refine W_s (s_iadd dL_law_1384) ?_
                                                              refine W_ck (fun h286 => ?_)
                                                              refine W_s (s_sld hB dL_law_1385 (gx_ixv h286)) ?_
                                                              refine W_bd (ec := gx_eI) (fun r_ μ_ hr_ => s_callV (As := [.int _, .int _, .int _]) dL_law_1386 Lk_RL_127 rfl g_0 (by decide) rfl (Nat.le_of_ble_eq_true rfl) (Nat.le_of_ble_eq_true rfl) (ev_X11_early (xs (v3_1 + 1).toNatClampNeg) (xs (v3_1 + 2).toNatClampNeg) (xs (v3_1 + 3).toNatClampNeg) μ2 hr_)) (fun r287 μ288 => ?_)
                                                              refine W_s (s_aload_n dL_law_1389 rfl rfl) ?_
                                                              refine W_s (s_aload_n dL_law_1390 rfl rfl) ?_
                                                              refine W_s (s_iload_n dL_law_1391 rfl rfl) ?_
                                                              refine W_s (s_iconst dL_law_1392 kci_1) ?_
                                                              refine W_s (s_iadd dL_law_1393) ?_
                                                              refine W_s (s_sld hB dL_law_1394 (gx_ixv h284)) ?_
                                                              refine W_s (s_aload_n dL_law_1395 rfl rfl) ?_
                                                              refine W_s (s_iload_n dL_law_1396 rfl rfl) ?_
                                                              refine W_s (s_iconst dL_law_1397 kci_2) ?_
                                                              refine W_s (s_iadd dL_law_1398) ?_
                                                              refine W_s (s_sld hB dL_law_1399 (gx_ixv h285)) ?_
                                                              refine W_s (s_aload_n dL_law_1400 rfl rfl) ?_
                                                              refine W_s (s_iload_n dL_law_1401 rfl rfl) ?_
                                                              refine W_s (s_iconst dL_law_1402 kci_3) ?_
                                                              refine W_s (s_iadd dL_law_1403) ?_
                                                              refine W_s (s_sld hB dL_law_1404 (gx_ixv h286)) ?_
                                                              refine W_bd (ec := gx_eI) (fun r_ μ_ hr_ => s_callV (As := [.int _, .int _, .int _]) dL_law_1405 Lk_RL_130 rfl g_206 (by decide) rfl (Nat.le_of_ble_eq_true rfl) (Nat.le_of_ble_eq_true rfl) (ev_X12_early (xs (v3_1 + 1).toNatClampNeg) (xs (v3_1 + 2).toNatClampNeg) (xs (v3_1 + 3).toNatClampNeg) μ288 hr_)) (fun r289 μ290 => ?_)
                                                              refine W_ite (fun h291 => ?_) (fun h291 => ?_)
                                                              · refine W_s (s_icmp_eq_t dL_law_1408 rfl h291) ?_
                                                                exact W_wk (hJ6 μ290) (le_s rfl (le_s rfl (le_s rfl (le_s rfl le_n))))
                                                              · refine W_s (s_icmp_eq_f dL_law_1408 rfl h291) ?_
                                                                refine W_s (s_iconst dL_law_1411 kci_0) ?_
                                                                exact W_r (r := false) (f_int (ty := .boolean) (x := gx_bi false) dL_law_1412 rfl (gx_bn false))
                                                            · skip
                                                              refine W_ite (fun h292 => ?_) (fun h292 => ?_)
                                                              · refine W_s (s_tsw_eq (c := 27) dL_law_33 h292 (by decide) (by decide) rfl rfl) ?_
                                                                refine W_s (s_aload_n dL_law_1413 rfl rfl) ?_
                                                                refine W_s (s_aload_n dL_law_1414 rfl rfl) ?_
                                                                refine W_s (s_iload_n dL_law_1415 rfl rfl) ?_
                                                                refine W_s (s_iconst dL_law_1416 kci_1) ?_
                                                                refine W_s (s_iadd dL_law_1417) ?_
                                                                refine W_ck (fun h293 => ?_)
                                                                refine W_s (s_sld hB dL_law_1418 (gx_ixv h293)) ?_
                                                                refine W_s (s_aload_n dL_law_1419 rfl rfl) ?_
                                                                refine W_s (s_iload_n dL_law_1420 rfl rfl) ?_
                                                                refine W_s (s_iconst dL_law_1421 kci_2) ?_
                                                                refine W_s (s_iadd dL_law_1422) ?_
                                                                refine W_ck (fun h294 => ?_)
                                                                refine W_s (s_sld hB dL_law_1423 (gx_ixv h294)) ?_
                                                                refine W_s (s_aload_n dL_law_1424 rfl rfl) ?_
                                                                refine W_s (s_iload_n dL_law_1425 rfl rfl) ?_
                                                                refine W_s (s_iconst dL_law_1426 kci_3) ?_
                                                                refine W_s (s_iadd dL_law_1427) ?_
                                                                refine W_ck (fun h295 => ?_)
                                                                refine W_s (s_sld hB dL_law_1428 (gx_ixv h295)) ?_
                                                                refine W_bd (ec := gx_eI) (fun r_ μ_ hr_ => s_callV (As := [.int _, .int _, .int _]) dL_law_1429 Lk_RL_131 rfl g_0 (by decide) rfl (Nat.le_of_ble_eq_true rfl) (Nat.le_of_ble_eq_true rfl) (ev_X11_ranked (xs (v3_1 + 1).toNatClampNeg) (xs (v3_1 + 2).toNatClampNeg) (xs (v3_1 + 3).toNatClampNeg) μ2 hr_)) (fun r296 μ297 => ?_)
                                                                refine W_s (s_aload_n dL_law_1432 rfl rfl) ?_
                                                                refine W_s (s_aload_n dL_law_1433 rfl rfl) ?_
                                                                refine W_s (s_iload_n dL_law_1434 rfl rfl) ?_
                                                                refine W_s (s_iconst dL_law_1435 kci_1) ?_
                                                                refine W_s (s_iadd dL_law_1436) ?_
                                                                refine W_s (s_sld hB dL_law_1437 (gx_ixv h293)) ?_
                                                                refine W_s (s_aload_n dL_law_1438 rfl rfl) ?_
                                                                refine W_s (s_iload_n dL_law_1439 rfl rfl) ?_
                                                                refine W_s (s_iconst dL_law_1440 kci_2) ?_
                                                                refine W_s (s_iadd dL_law_1441) ?_
                                                                refine W_s (s_sld hB dL_law_1442 (gx_ixv h294)) ?_
                                                                refine W_s (s_aload_n dL_law_1443 rfl rfl) ?_
                                                                refine W_s (s_iload_n dL_law_1444 rfl rfl) ?_
                                                                refine W_s (s_iconst dL_law_1445 kci_3) ?_
                                                                refine W_s (s_iadd dL_law_1446) ?_
                                                                refine W_s (s_sld hB dL_law_1447 (gx_ixv h295)) ?_
                                                                refine W_bd (ec := gx_eI) (fun r_ μ_ hr_ => s_callV (As := [.int _, .int _, .int _]) dL_law_1448 Lk_RL_134 rfl g_206 (by decide) rfl (Nat.le_of_ble_eq_true rfl) (Nat.le_of_ble_eq_true rfl) (ev_X12_ranked (xs (v3_1 + 1).toNatClampNeg) (xs (v3_1 + 2).toNatClampNeg) (xs (v3_1 + 3).toNatClampNeg) μ297 hr_)) (fun r298 μ299 => ?_)
                                                                refine W_ite (fun h300 => ?_) (fun h300 => ?_)
                                                                · refine W_s (s_icmp_eq_t dL_law_1451 rfl h300) ?_
                                                                  exact W_wk (hJ6 μ299) (le_s rfl (le_s rfl (le_s rfl (le_s rfl le_n))))
                                                                · refine W_s (s_icmp_eq_f dL_law_1451 rfl h300) ?_
                                                                  refine W_s (s_iconst dL_law_1454 kci_0) ?_
                                                                  exact W_r (r := false) (f_int (ty := .boolean) (x := gx_bi false) dL_law_1455 rfl (gx_bn false))
                                                              · skip
                                                                refine W_ite (fun h301 => ?_) (fun h301 => ?_)
                                                                · refine W_s (s_tsw_eq (c := 28) dL_law_33 h301 (by decide) (by decide) rfl rfl) ?_
                                                                  refine W_s (s_aload_n dL_law_1456 rfl rfl) ?_
                                                                  refine W_s (s_aload_n dL_law_1457 rfl rfl) ?_
                                                                  refine W_s (s_iload_n dL_law_1458 rfl rfl) ?_
                                                                  refine W_s (s_iconst dL_law_1459 kci_1) ?_
                                                                  refine W_s (s_iadd dL_law_1460) ?_
                                                                  refine W_ck (fun h302 => ?_)
                                                                  refine W_s (s_sld hB dL_law_1461 (gx_ixv h302)) ?_
                                                                  refine W_s (s_aload_n dL_law_1462 rfl rfl) ?_
                                                                  refine W_s (s_iload_n dL_law_1463 rfl rfl) ?_
                                                                  refine W_s (s_iconst dL_law_1464 kci_2) ?_
                                                                  refine W_s (s_iadd dL_law_1465) ?_
                                                                  refine W_ck (fun h303 => ?_)
                                                                  refine W_s (s_sld hB dL_law_1466 (gx_ixv h303)) ?_
                                                                  refine W_br (ec := gx_eI) (fun r_ hr_ => s_callV (As := [.int _, .int _]) dL_law_1467 Lk_RL_135 rfl g_0 (by decide) rfl (Nat.le_of_ble_eq_true rfl) (Nat.le_of_ble_eq_true rfl) (ev_X11_enough (xs (v3_1 + 1).toNatClampNeg) (xs (v3_1 + 2).toNatClampNeg) μ2 hr_)) (fun r304 => ?_)
                                                                  refine W_s (s_aload_n dL_law_1470 rfl rfl) ?_
                                                                  refine W_s (s_aload_n dL_law_1471 rfl rfl) ?_
                                                                  refine W_s (s_iload_n dL_law_1472 rfl rfl) ?_
                                                                  refine W_s (s_iconst dL_law_1473 kci_1) ?_
                                                                  refine W_s (s_iadd dL_law_1474) ?_
                                                                  refine W_s (s_sld hB dL_law_1475 (gx_ixv h302)) ?_
                                                                  refine W_s (s_aload_n dL_law_1476 rfl rfl) ?_
                                                                  refine W_s (s_iload_n dL_law_1477 rfl rfl) ?_
                                                                  refine W_s (s_iconst dL_law_1478 kci_2) ?_
                                                                  refine W_s (s_iadd dL_law_1479) ?_
                                                                  refine W_s (s_sld hB dL_law_1480 (gx_ixv h303)) ?_
                                                                  refine W_bd (ec := gx_eI) (fun r_ μ_ hr_ => s_callV (As := [.int _, .int _]) dL_law_1481 Lk_RL_138 rfl g_206 (by decide) rfl (Nat.le_of_ble_eq_true rfl) (Nat.le_of_ble_eq_true rfl) (ev_X12_enough (xs (v3_1 + 1).toNatClampNeg) (xs (v3_1 + 2).toNatClampNeg) μ2 hr_)) (fun r305 μ306 => ?_)
                                                                  refine W_ite (fun h307 => ?_) (fun h307 => ?_)
                                                                  · refine W_s (s_icmp_eq_t dL_law_1484 rfl h307) ?_
                                                                    exact W_wk (hJ6 μ306) (le_s rfl (le_s rfl (le_s rfl (le_s rfl le_n))))
                                                                  · refine W_s (s_icmp_eq_f dL_law_1484 rfl h307) ?_
                                                                    refine W_s (s_iconst dL_law_1487 kci_0) ?_
                                                                    exact W_r (r := false) (f_int (ty := .boolean) (x := gx_bi false) dL_law_1488 rfl (gx_bn false))
                                                                · skip
                                                                  refine W_ite (fun h308 => ?_) (fun h308 => ?_)
                                                                  · refine W_s (s_tsw_eq (c := 29) dL_law_33 h308 (by decide) (by decide) rfl rfl) ?_
                                                                    refine W_s (s_aload_n dL_law_1489 rfl rfl) ?_
                                                                    refine W_s (s_aload_n dL_law_1490 rfl rfl) ?_
                                                                    refine W_s (s_iload_n dL_law_1491 rfl rfl) ?_
                                                                    refine W_s (s_iconst dL_law_1492 kci_1) ?_
                                                                    refine W_s (s_iadd dL_law_1493) ?_
                                                                    refine W_ck (fun h309 => ?_)
                                                                    refine W_s (s_sld hB dL_law_1494 (gx_ixv h309)) ?_
                                                                    refine W_s (s_aload_n dL_law_1495 rfl rfl) ?_
                                                                    refine W_s (s_iload_n dL_law_1496 rfl rfl) ?_
                                                                    refine W_s (s_iconst dL_law_1497 kci_2) ?_
                                                                    refine W_s (s_iadd dL_law_1498) ?_
                                                                    refine W_ck (fun h310 => ?_)
                                                                    refine W_s (s_sld hB dL_law_1499 (gx_ixv h310)) ?_
                                                                    refine W_s (s_aload_n dL_law_1500 rfl rfl) ?_
                                                                    refine W_s (s_iload_n dL_law_1501 rfl rfl) ?_
                                                                    refine W_s (s_iconst dL_law_1502 kci_3) ?_
                                                                    refine W_s (s_iadd dL_law_1503) ?_
                                                                    refine W_ck (fun h311 => ?_)
                                                                    refine W_s (s_sld hB dL_law_1504 (gx_ixv h311)) ?_
                                                                    refine W_bd (ec := gx_eI) (fun r_ μ_ hr_ => s_callV (As := [.int _, .int _, .int _]) dL_law_1505 Lk_RL_139 rfl g_0 (by decide) rfl (Nat.le_of_ble_eq_true rfl) (Nat.le_of_ble_eq_true rfl) (ev_X11_after (xs (v3_1 + 1).toNatClampNeg) (xs (v3_1 + 2).toNatClampNeg) (xs (v3_1 + 3).toNatClampNeg) μ2 hr_)) (fun r312 μ313 => ?_)
                                                                    refine W_s (s_aload_n dL_law_1508 rfl rfl) ?_
                                                                    refine W_s (s_aload_n dL_law_1509 rfl rfl) ?_
                                                                    refine W_s (s_iload_n dL_law_1510 rfl rfl) ?_
                                                                    refine W_s (s_iconst dL_law_1511 kci_1) ?_
                                                                    refine W_s (s_iadd dL_law_1512) ?_
                                                                    refine W_s (s_sld hB dL_law_1513 (gx_ixv h309)) ?_
                                                                    refine W_s (s_aload_n dL_law_1514 rfl rfl) ?_
                                                                    refine W_s (s_iload_n dL_law_1515 rfl rfl) ?_
                                                                    refine W_s (s_iconst dL_law_1516 kci_2) ?_
                                                                    refine W_s (s_iadd dL_law_1517) ?_
                                                                    refine W_s (s_sld hB dL_law_1518 (gx_ixv h310)) ?_
                                                                    refine W_s (s_aload_n dL_law_1519 rfl rfl) ?_
                                                                    refine W_s (s_iload_n dL_law_1520 rfl rfl) ?_
                                                                    refine W_s (s_iconst dL_law_1521 kci_3) ?_
                                                                    refine W_s (s_iadd dL_law_1522) ?_
                                                                    refine W_s (s_sld hB dL_law_1523 (gx_ixv h311)) ?_
                                                                    refine W_bd (ec := gx_eI) (fun r_ μ_ hr_ => s_callV (As := [.int _, .int _, .int _]) dL_law_1524 Lk_RL_142 rfl g_206 (by decide) rfl (Nat.le_of_ble_eq_true rfl) (Nat.le_of_ble_eq_true rfl) (ev_X12_after (xs (v3_1 + 1).toNatClampNeg) (xs (v3_1 + 2).toNatClampNeg) (xs (v3_1 + 3).toNatClampNeg) μ313 hr_)) (fun r314 μ315 => ?_)
                                                                    refine W_ite (fun h316 => ?_) (fun h316 => ?_)
                                                                    · refine W_s (s_icmp_eq_t dL_law_1527 rfl h316) ?_
                                                                      exact W_wk (hJ6 μ315) (le_s rfl (le_s rfl (le_s rfl (le_s rfl le_n))))
                                                                    · refine W_s (s_icmp_eq_f dL_law_1527 rfl h316) ?_
                                                                      refine W_s (s_iconst dL_law_1530 kci_0) ?_
                                                                      exact W_r (r := false) (f_int (ty := .boolean) (x := gx_bi false) dL_law_1531 rfl (gx_bn false))
                                                                  · skip
                                                                    refine W_ite (fun h317 => ?_) (fun h317 => ?_)
                                                                    · refine W_s (s_tsw_eq (c := 30) dL_law_33 h317 (by decide) (by decide) rfl rfl) ?_
                                                                      refine W_s (s_aload_n dL_law_1532 rfl rfl) ?_
                                                                      refine W_s (s_aload_n dL_law_1533 rfl rfl) ?_
                                                                      refine W_s (s_iload_n dL_law_1534 rfl rfl) ?_
                                                                      refine W_s (s_iconst dL_law_1535 kci_1) ?_
                                                                      refine W_s (s_iadd dL_law_1536) ?_
                                                                      refine W_ck (fun h318 => ?_)
                                                                      refine W_s (s_sld hB dL_law_1537 (gx_ixv h318)) ?_
                                                                      refine W_s (s_aload_n dL_law_1538 rfl rfl) ?_
                                                                      refine W_s (s_iload_n dL_law_1539 rfl rfl) ?_
                                                                      refine W_s (s_iconst dL_law_1540 kci_2) ?_
                                                                      refine W_s (s_iadd dL_law_1541) ?_
                                                                      refine W_ck (fun h319 => ?_)
                                                                      refine W_s (s_sld hB dL_law_1542 (gx_ixv h319)) ?_
                                                                      refine W_bd (ec := gx_eI) (fun r_ μ_ hr_ => s_callV (As := [.int _, .int _]) dL_law_1543 Lk_RL_143 rfl g_0 (by decide) rfl (Nat.le_of_ble_eq_true rfl) (Nat.le_of_ble_eq_true rfl) (ev_X11_span (xs (v3_1 + 1).toNatClampNeg) (xs (v3_1 + 2).toNatClampNeg) μ2 hr_)) (fun r320 μ321 => ?_)
                                                                      refine W_s (s_aload_n dL_law_1546 rfl rfl) ?_
                                                                      refine W_s (s_aload_n dL_law_1547 rfl rfl) ?_
                                                                      refine W_s (s_iload_n dL_law_1548 rfl rfl) ?_
                                                                      refine W_s (s_iconst dL_law_1549 kci_1) ?_
                                                                      refine W_s (s_iadd dL_law_1550) ?_
                                                                      refine W_s (s_sld hB dL_law_1551 (gx_ixv h318)) ?_
                                                                      refine W_s (s_aload_n dL_law_1552 rfl rfl) ?_
                                                                      refine W_s (s_iload_n dL_law_1553 rfl rfl) ?_
                                                                      refine W_s (s_iconst dL_law_1554 kci_2) ?_
                                                                      refine W_s (s_iadd dL_law_1555) ?_
                                                                      refine W_s (s_sld hB dL_law_1556 (gx_ixv h319)) ?_
                                                                      refine W_bd (ec := gx_eI) (fun r_ μ_ hr_ => s_callV (As := [.int _, .int _]) dL_law_1557 Lk_RL_146 rfl g_206 (by decide) rfl (Nat.le_of_ble_eq_true rfl) (Nat.le_of_ble_eq_true rfl) (ev_X12_span (xs (v3_1 + 1).toNatClampNeg) (xs (v3_1 + 2).toNatClampNeg) μ321 hr_)) (fun r322 μ323 => ?_)
                                                                      refine W_ite (fun h324 => ?_) (fun h324 => ?_)
                                                                      · refine W_s (s_icmp_eq_t dL_law_1560 rfl h324) ?_
                                                                        exact W_wk (hJ6 μ323) (le_s rfl (le_s rfl (le_s rfl (le_s rfl le_n))))
                                                                      · refine W_s (s_icmp_eq_f dL_law_1560 rfl h324) ?_
                                                                        refine W_s (s_iconst dL_law_1563 kci_0) ?_
                                                                        exact W_r (r := false) (f_int (ty := .boolean) (x := gx_bi false) dL_law_1564 rfl (gx_bn false))
                                                                    · skip
                                                                      refine W_ite (fun h325 => ?_) (fun h325 => ?_)
                                                                      · refine W_s (s_tsw_eq (c := 31) dL_law_33 h325 (by decide) (by decide) rfl rfl) ?_
                                                                        refine W_s (s_aload_n dL_law_1565 rfl rfl) ?_
                                                                        refine W_s (s_aload_n dL_law_1566 rfl rfl) ?_
                                                                        refine W_s (s_iload_n dL_law_1567 rfl rfl) ?_
                                                                        refine W_s (s_iconst dL_law_1568 kci_1) ?_
                                                                        refine W_s (s_iadd dL_law_1569) ?_
                                                                        refine W_ck (fun h326 => ?_)
                                                                        refine W_s (s_sld hB dL_law_1570 (gx_ixv h326)) ?_
                                                                        refine W_s (s_aload_n dL_law_1571 rfl rfl) ?_
                                                                        refine W_s (s_iload_n dL_law_1572 rfl rfl) ?_
                                                                        refine W_s (s_iconst dL_law_1573 kci_2) ?_
                                                                        refine W_s (s_iadd dL_law_1574) ?_
                                                                        refine W_ck (fun h327 => ?_)
                                                                        refine W_s (s_sld hB dL_law_1575 (gx_ixv h327)) ?_
                                                                        refine W_bd (ec := gx_eI) (fun r_ μ_ hr_ => s_callV (As := [.int _, .int _]) dL_law_1576 Lk_RL_147 rfl g_0 (by decide) rfl (Nat.le_of_ble_eq_true rfl) (Nat.le_of_ble_eq_true rfl) (ev_X11_happy (xs (v3_1 + 1).toNatClampNeg) (xs (v3_1 + 2).toNatClampNeg) μ2 hr_)) (fun r328 μ329 => ?_)
                                                                        refine W_s (s_aload_n dL_law_1579 rfl rfl) ?_
                                                                        refine W_s (s_aload_n dL_law_1580 rfl rfl) ?_
                                                                        refine W_s (s_iload_n dL_law_1581 rfl rfl) ?_
                                                                        refine W_s (s_iconst dL_law_1582 kci_1) ?_
                                                                        refine W_s (s_iadd dL_law_1583) ?_
                                                                        refine W_s (s_sld hB dL_law_1584 (gx_ixv h326)) ?_
                                                                        refine W_s (s_aload_n dL_law_1585 rfl rfl) ?_
                                                                        refine W_s (s_iload_n dL_law_1586 rfl rfl) ?_
                                                                        refine W_s (s_iconst dL_law_1587 kci_2) ?_
                                                                        refine W_s (s_iadd dL_law_1588) ?_
                                                                        refine W_s (s_sld hB dL_law_1589 (gx_ixv h327)) ?_
                                                                        refine W_bd (ec := gx_eI) (fun r_ μ_ hr_ => s_callV (As := [.int _, .int _]) dL_law_1590 Lk_RL_150 rfl g_206 (by decide) rfl (Nat.le_of_ble_eq_true rfl) (Nat.le_of_ble_eq_true rfl) (ev_X12_happy (xs (v3_1 + 1).toNatClampNeg) (xs (v3_1 + 2).toNatClampNeg) μ329 hr_)) (fun r330 μ331 => ?_)
                                                                        refine W_ite (fun h332 => ?_) (fun h332 => ?_)
                                                                        · refine W_s (s_icmp_eq_t dL_law_1593 rfl h332) ?_
                                                                          exact W_wk (hJ6 μ331) (le_s rfl (le_s rfl (le_s rfl (le_s rfl le_n))))
                                                                        · refine W_s (s_icmp_eq_f dL_law_1593 rfl h332) ?_
                                                                          refine W_s (s_iconst dL_law_1596 kci_0) ?_
                                                                          exact W_r (r := false) (f_int (ty := .boolean) (x := gx_bi false) dL_law_1597 rfl (gx_bn false))
                                                                      · skip
                                                                        refine W_ite (fun h333 => ?_) (fun h333 => ?_)
                                                                        · refine W_s (s_tsw_eq (c := 32) dL_law_33 h333 (by decide) (by decide) rfl rfl) ?_
                                                                          refine W_s (s_aload_n dL_law_1598 rfl rfl) ?_
                                                                          refine W_s (s_aload_n dL_law_1599 rfl rfl) ?_
                                                                          refine W_s (s_iload_n dL_law_1600 rfl rfl) ?_
                                                                          refine W_s (s_iconst dL_law_1601 kci_1) ?_
                                                                          refine W_s (s_iadd dL_law_1602) ?_
                                                                          refine W_ck (fun h334 => ?_)
                                                                          refine W_s (s_sld hB dL_law_1603 (gx_ixv h334)) ?_
                                                                          refine W_br (ec := gx_eI) (fun r_ hr_ => s_callV (As := [.int _]) dL_law_1604 Lk_RL_151 rfl g_0 (by decide) rfl (Nat.le_of_ble_eq_true rfl) (Nat.le_of_ble_eq_true rfl) (ev_X11_count (xs (v3_1 + 1).toNatClampNeg) μ2 hr_)) (fun r335 => ?_)
                                                                          refine W_s (s_aload_n dL_law_1607 rfl rfl) ?_
                                                                          refine W_s (s_aload_n dL_law_1608 rfl rfl) ?_
                                                                          refine W_s (s_iload_n dL_law_1609 rfl rfl) ?_
                                                                          refine W_s (s_iconst dL_law_1610 kci_1) ?_
                                                                          refine W_s (s_iadd dL_law_1611) ?_
                                                                          refine W_s (s_sld hB dL_law_1612 (gx_ixv h334)) ?_
                                                                          refine W_bd (ec := gx_eI) (fun r_ μ_ hr_ => s_callV (As := [.int _]) dL_law_1613 Lk_RL_154 rfl g_206 (by decide) rfl (Nat.le_of_ble_eq_true rfl) (Nat.le_of_ble_eq_true rfl) (ev_X12_count (xs (v3_1 + 1).toNatClampNeg) μ2 hr_)) (fun r336 μ337 => ?_)
                                                                          refine W_ite (fun h338 => ?_) (fun h338 => ?_)
                                                                          · refine W_s (s_icmp_eq_t dL_law_1616 rfl h338) ?_
                                                                            exact W_wk (hJ6 μ337) (le_s rfl (le_s rfl (le_s rfl (le_s rfl le_n))))
                                                                          · refine W_s (s_icmp_eq_f dL_law_1616 rfl h338) ?_
                                                                            refine W_s (s_iconst dL_law_1619 kci_0) ?_
                                                                            exact W_r (r := false) (f_int (ty := .boolean) (x := gx_bi false) dL_law_1620 rfl (gx_bn false))
                                                                        · skip
                                                                          refine W_ite (fun h339 => ?_) (fun h339 => ?_)
                                                                          · refine W_s (s_tsw_eq (c := 33) dL_law_33 h339 (by decide) (by decide) rfl rfl) ?_
                                                                            refine W_s (s_aload_n dL_law_1621 rfl rfl) ?_
                                                                            refine W_s (s_aload_n dL_law_1622 rfl rfl) ?_
                                                                            refine W_s (s_iload_n dL_law_1623 rfl rfl) ?_
                                                                            refine W_s (s_iconst dL_law_1624 kci_1) ?_
                                                                            refine W_s (s_iadd dL_law_1625) ?_
                                                                            refine W_ck (fun h340 => ?_)
                                                                            refine W_s (s_sld hB dL_law_1626 (gx_ixv h340)) ?_
                                                                            refine W_bd (ec := gx_eB) (fun r_ μ_ hr_ => s_callV (As := [.int _]) dL_law_1627 Lk_RL_155 rfl g_0 (by decide) rfl (Nat.le_of_ble_eq_true rfl) (Nat.le_of_ble_eq_true rfl) (ev_X11_image (xs (v3_1 + 1).toNatClampNeg) μ2 hr_)) (fun r341 μ342 => ?_)
                                                                            refine W_s (s_aload_n dL_law_1630 rfl rfl) ?_
                                                                            refine W_s (s_aload_n dL_law_1631 rfl rfl) ?_
                                                                            refine W_s (s_iload_n dL_law_1632 rfl rfl) ?_
                                                                            refine W_s (s_iconst dL_law_1633 kci_1) ?_
                                                                            refine W_s (s_iadd dL_law_1634) ?_
                                                                            refine W_s (s_sld hB dL_law_1635 (gx_ixv h340)) ?_
                                                                            refine W_bd (ec := gx_eB) (fun r_ μ_ hr_ => s_callV (As := [.int _]) dL_law_1636 Lk_RL_159 rfl g_206 (by decide) rfl (Nat.le_of_ble_eq_true rfl) (Nat.le_of_ble_eq_true rfl) (ev_X12_image (xs (v3_1 + 1).toNatClampNeg) μ342 hr_)) (fun r343 μ344 => ?_)
                                                                            refine W_ite (fun h345 => ?_) (fun h345 => ?_)
                                                                            · refine W_s (s_icmp_eq_t dL_law_1639 rfl h345) ?_
                                                                              exact W_wk (hJ6 μ344) (le_s rfl (le_s rfl (le_s rfl (le_s rfl le_n))))
                                                                            · refine W_s (s_icmp_eq_f dL_law_1639 rfl h345) ?_
                                                                              refine W_s (s_iconst dL_law_1642 kci_0) ?_
                                                                              exact W_r (r := false) (f_int (ty := .boolean) (x := gx_bi false) dL_law_1643 rfl (gx_bn false))
                                                                          · skip
                                                                            refine W_ite (fun h346 => ?_) (fun h346 => ?_)
                                                                            · refine W_s (s_tsw_eq (c := 34) dL_law_33 h346 (by decide) (by decide) rfl rfl) ?_
                                                                              refine W_s (s_aload_n dL_law_1644 rfl rfl) ?_
                                                                              refine W_s (s_aload_n dL_law_1645 rfl rfl) ?_
                                                                              refine W_s (s_iload_n dL_law_1646 rfl rfl) ?_
                                                                              refine W_s (s_iconst dL_law_1647 kci_1) ?_
                                                                              refine W_s (s_iadd dL_law_1648) ?_
                                                                              refine W_ck (fun h347 => ?_)
                                                                              refine W_s (s_sld hB dL_law_1649 (gx_ixv h347)) ?_
                                                                              refine W_bd (ec := gx_eB) (fun r_ μ_ hr_ => s_callV (As := [.int _]) dL_law_1650 Lk_RL_160 rfl g_0 (by decide) rfl (Nat.le_of_ble_eq_true rfl) (Nat.le_of_ble_eq_true rfl) (ev_X11_again (xs (v3_1 + 1).toNatClampNeg) μ2 hr_)) (fun r348 μ349 => ?_)
                                                                              refine W_s (s_aload_n dL_law_1653 rfl rfl) ?_
                                                                              refine W_s (s_aload_n dL_law_1654 rfl rfl) ?_
                                                                              refine W_s (s_iload_n dL_law_1655 rfl rfl) ?_
                                                                              refine W_s (s_iconst dL_law_1656 kci_1) ?_
                                                                              refine W_s (s_iadd dL_law_1657) ?_
                                                                              refine W_s (s_sld hB dL_law_1658 (gx_ixv h347)) ?_
                                                                              refine W_bd (ec := gx_eB) (fun r_ μ_ hr_ => s_callV (As := [.int _]) dL_law_1659 Lk_RL_163 rfl g_206 (by decide) rfl (Nat.le_of_ble_eq_true rfl) (Nat.le_of_ble_eq_true rfl) (ev_X12_again (xs (v3_1 + 1).toNatClampNeg) μ349 hr_)) (fun r350 μ351 => ?_)
                                                                              refine W_ite (fun h352 => ?_) (fun h352 => ?_)
                                                                              · refine W_s (s_icmp_eq_t dL_law_1662 rfl h352) ?_
                                                                                exact W_wk (hJ6 μ351) (le_s rfl (le_s rfl (le_s rfl (le_s rfl le_n))))
                                                                              · refine W_s (s_icmp_eq_f dL_law_1662 rfl h352) ?_
                                                                                refine W_s (s_iconst dL_law_1665 kci_0) ?_
                                                                                exact W_r (r := false) (f_int (ty := .boolean) (x := gx_bi false) dL_law_1666 rfl (gx_bn false))
                                                                            · skip
                                                                              refine W_s (s_tsw_out dL_law_33 (gx_out_0_35 h8 h19 h26 h34 h39 h46 h54 h62 h72 h90 h100 h117 h133 h149 h158 h175 h182 h190 h198 h206 h216 h225 h233 h251 h260 h275 h283 h292 h301 h308 h317 h325 h333 h339 h346) rfl) ?_
                                                                              exact W_wk (hJ6 μ2) (le_s rfl (le_s rfl (le_s rfl (le_s rfl le_n))))
theorem ok_law {E : gx_E} {l : Launch} {Ln : Nat} {xs : Nat → Int32} {fk : Nat} {uq : Option Nat} {adK adV : Nat → Nat} (hE : gx_EX E fk uq adK adV) {b : Nat} (hB : gx_EB E b Ln xs) (μ : gx_M) : GoW E l Y_law 12 gx_eB 18 [some (.ref b), some (.ref (E.2.2.1 + 0)), some (.ref (E.2.2.1 + 206)), some (.int 0)] [] μ (f_law xs Ln μ) := by
  unfold f_law
  refine W_wk (okL_law_18 hE hB ?_ 4000 0 μ) (le_s rfl (le_s rfl (le_s rfl (le_s rfl le_n))))
  intro μ355
  refine W_s (s_iconst dL_law_1673 kci_1) ?_
  exact W_r (r := true) (f_int (ty := .boolean) (x := gx_bi true) dL_law_1674 rfl (gx_bn true))
