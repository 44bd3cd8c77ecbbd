section GXT
variable {E : gx_E} {l : Launch} {y : gx_Y} {d : Nat} {pc : Nat} {ls : List (Option Value)} {st : List Value} {G : gx_G} {μ : gx_M}
theorem s_iadd {x z : Int32} (hd : decode y.2.1 pc = .ok (.iadd, 1)) : gS E l y d (pc, ls, .int z :: .int x :: st, G, μ) (pc + 1, ls, .int (x + z) :: st, G, μ) := stp_g fun _ _ _ _ _ _ _ _ _ _ _ _ _ C _ H arr locs hl hR hS k => lv_iadd C.1 C.2.1 hd (k H arr locs hl hR hS)
theorem s_ladd {x z : Int64} (hd : decode y.2.1 pc = .ok (.ladd, 1)) : gS E l y d (pc, ls, .long z :: .long x :: st, G, μ) (pc + 1, ls, .long (x + z) :: st, G, μ) := stp_g fun _ _ _ _ _ _ _ _ _ _ _ _ _ C _ H arr locs hl hR hS k => lv_ladd C.1 C.2.1 hd (k H arr locs hl hR hS)
theorem s_isub {x z : Int32} (hd : decode y.2.1 pc = .ok (.isub, 1)) : gS E l y d (pc, ls, .int z :: .int x :: st, G, μ) (pc + 1, ls, .int (x - z) :: st, G, μ) := stp_g fun _ _ _ _ _ _ _ _ _ _ _ _ _ C _ H arr locs hl hR hS k => lv_isub C.1 C.2.1 hd (k H arr locs hl hR hS)
theorem s_lsub {x z : Int64} (hd : decode y.2.1 pc = .ok (.lsub, 1)) : gS E l y d (pc, ls, .long z :: .long x :: st, G, μ) (pc + 1, ls, .long (x - z) :: st, G, μ) := stp_g fun _ _ _ _ _ _ _ _ _ _ _ _ _ C _ H arr locs hl hR hS k => lv_lsub C.1 C.2.1 hd (k H arr locs hl hR hS)
theorem s_imul {x z : Int32} (hd : decode y.2.1 pc = .ok (.imul, 1)) : gS E l y d (pc, ls, .int z :: .int x :: st, G, μ) (pc + 1, ls, .int (x * z) :: st, G, μ) := stp_g fun _ _ _ _ _ _ _ _ _ _ _ _ _ C _ H arr locs hl hR hS k => lv_imul C.1 C.2.1 hd (k H arr locs hl hR hS)
theorem s_lmul {x z : Int64} (hd : decode y.2.1 pc = .ok (.lmul, 1)) : gS E l y d (pc, ls, .long z :: .long x :: st, G, μ) (pc + 1, ls, .long (x * z) :: st, G, μ) := stp_g fun _ _ _ _ _ _ _ _ _ _ _ _ _ C _ H arr locs hl hR hS k => lv_lmul C.1 C.2.1 hd (k H arr locs hl hR hS)
theorem s_iand {x z : Int32} (hd : decode y.2.1 pc = .ok (.iand, 1)) : gS E l y d (pc, ls, .int z :: .int x :: st, G, μ) (pc + 1, ls, .int (x &&& z) :: st, G, μ) := stp_g fun _ _ _ _ _ _ _ _ _ _ _ _ _ C _ H arr locs hl hR hS k => lv_iand C.1 C.2.1 hd (k H arr locs hl hR hS)
theorem s_land {x z : Int64} (hd : decode y.2.1 pc = .ok (.land, 1)) : gS E l y d (pc, ls, .long z :: .long x :: st, G, μ) (pc + 1, ls, .long (x &&& z) :: st, G, μ) := stp_g fun _ _ _ _ _ _ _ _ _ _ _ _ _ C _ H arr locs hl hR hS k => lv_land C.1 C.2.1 hd (k H arr locs hl hR hS)
theorem s_ior {x z : Int32} (hd : decode y.2.1 pc = .ok (.ior, 1)) : gS E l y d (pc, ls, .int z :: .int x :: st, G, μ) (pc + 1, ls, .int (x ||| z) :: st, G, μ) := stp_g fun _ _ _ _ _ _ _ _ _ _ _ _ _ C _ H arr locs hl hR hS k => lv_ior C.1 C.2.1 hd (k H arr locs hl hR hS)
theorem s_lor {x z : Int64} (hd : decode y.2.1 pc = .ok (.lor, 1)) : gS E l y d (pc, ls, .long z :: .long x :: st, G, μ) (pc + 1, ls, .long (x ||| z) :: st, G, μ) := stp_g fun _ _ _ _ _ _ _ _ _ _ _ _ _ C _ H arr locs hl hR hS k => lv_lor C.1 C.2.1 hd (k H arr locs hl hR hS)
theorem s_ixor {x z : Int32} (hd : decode y.2.1 pc = .ok (.ixor, 1)) : gS E l y d (pc, ls, .int z :: .int x :: st, G, μ) (pc + 1, ls, .int (x ^^^ z) :: st, G, μ) := stp_g fun _ _ _ _ _ _ _ _ _ _ _ _ _ C _ H arr locs hl hR hS k => lv_ixor C.1 C.2.1 hd (k H arr locs hl hR hS)
theorem s_lxor {x z : Int64} (hd : decode y.2.1 pc = .ok (.lxor, 1)) : gS E l y d (pc, ls, .long z :: .long x :: st, G, μ) (pc + 1, ls, .long (x ^^^ z) :: st, G, μ) := stp_g fun _ _ _ _ _ _ _ _ _ _ _ _ _ C _ H arr locs hl hR hS k => lv_lxor C.1 C.2.1 hd (k H arr locs hl hR hS)
theorem s_idiv {x z : Int32} (hd : decode y.2.1 pc = .ok (.idiv, 1)) (hz : ¬ z = 0) : gS E l y d (pc, ls, .int z :: .int x :: st, G, μ) (pc + 1, ls, .int (x / z) :: st, G, μ) := stp_g fun _ _ _ _ _ _ _ _ _ _ _ _ _ C _ H arr locs hl hR hS k => lv_idiv C.1 C.2.1 hd hz (k H arr locs hl hR hS)
theorem s_irem {x z : Int32} (hd : decode y.2.1 pc = .ok (.irem, 1)) (hz : ¬ z = 0) : gS E l y d (pc, ls, .int z :: .int x :: st, G, μ) (pc + 1, ls, .int (x - x / z * z) :: st, G, μ) := stp_g fun _ _ _ _ _ _ _ _ _ _ _ _ _ C _ H arr locs hl hR hS k => lv_irem C.1 C.2.1 hd hz (k H arr locs hl hR hS)
theorem s_ldiv {x z : Int64} (hd : decode y.2.1 pc = .ok (.ldiv, 1)) (hz : ¬ z = 0) : gS E l y d (pc, ls, .long z :: .long x :: st, G, μ) (pc + 1, ls, .long (x / z) :: st, G, μ) := stp_g fun _ _ _ _ _ _ _ _ _ _ _ _ _ C _ H arr locs hl hR hS k => lv_ldiv C.1 C.2.1 hd hz (k H arr locs hl hR hS)
theorem s_lrem {x z : Int64} (hd : decode y.2.1 pc = .ok (.lrem, 1)) (hz : ¬ z = 0) : gS E l y d (pc, ls, .long z :: .long x :: st, G, μ) (pc + 1, ls, .long (x - x / z * z) :: st, G, μ) := stp_g fun _ _ _ _ _ _ _ _ _ _ _ _ _ C _ H arr locs hl hR hS k => lv_lrem C.1 C.2.1 hd hz (k H arr locs hl hR hS)
theorem s_ishl {x z : Int32} (hd : decode y.2.1 pc = .ok (.ishl, 1)) : gS E l y d (pc, ls, .int z :: .int x :: st, G, μ) (pc + 1, ls, .int (x <<< (z &&& 31)) :: st, G, μ) := stp_g fun _ _ _ _ _ _ _ _ _ _ _ _ _ C _ H arr locs hl hR hS k => lv_ishl C.1 C.2.1 hd (k H arr locs hl hR hS)
theorem s_ishr {x z : Int32} (hd : decode y.2.1 pc = .ok (.ishr, 1)) : gS E l y d (pc, ls, .int z :: .int x :: st, G, μ) (pc + 1, ls, .int (x >>> (z &&& 31)) :: st, G, μ) := stp_g fun _ _ _ _ _ _ _ _ _ _ _ _ _ C _ H arr locs hl hR hS k => lv_ishr C.1 C.2.1 hd (k H arr locs hl hR hS)
theorem s_iushr {x z : Int32} (hd : decode y.2.1 pc = .ok (.iushr, 1)) : gS E l y d (pc, ls, .int z :: .int x :: st, G, μ) (pc + 1, ls, .int ((x.toUInt32 >>> (z.toUInt32 &&& Int32.toUInt32 31)).toInt32) :: st, G, μ) := stp_g fun _ _ _ _ _ _ _ _ _ _ _ _ _ C _ H arr locs hl hR hS k => lv_iushr C.1 C.2.1 hd rfl (k H arr locs hl hR hS)
theorem s_lushr {x : Int64} {z : Int32} (hd : decode y.2.1 pc = .ok (.lushr, 1)) : gS E l y d (pc, ls, .int z :: .long x :: st, G, μ) (pc + 1, ls, .long ((x.toUInt64 >>> (z.toInt64.toUInt64 &&& Int64.toUInt64 63)).toInt64) :: st, G, μ) := stp_g fun _ _ _ _ _ _ _ _ _ _ _ _ _ C _ H arr locs hl hR hS k => lv_lushr C.1 C.2.1 hd rfl (k H arr locs hl hR hS)
theorem s_lshl {x : Int64} {z : Int32} (hd : decode y.2.1 pc = .ok (.lshl, 1)) : gS E l y d (pc, ls, .int z :: .long x :: st, G, μ) (pc + 1, ls, .long (x <<< (z.toInt64 &&& 63)) :: st, G, μ) := stp_g fun _ _ _ _ _ _ _ _ _ _ _ _ _ C _ H arr locs hl hR hS k => lv_lshl C.1 C.2.1 hd rfl (k H arr locs hl hR hS)
theorem s_lshr {x : Int64} {z : Int32} (hd : decode y.2.1 pc = .ok (.lshr, 1)) : gS E l y d (pc, ls, .int z :: .long x :: st, G, μ) (pc + 1, ls, .long (x >>> (z.toInt64 &&& 63)) :: st, G, μ) := stp_g fun _ _ _ _ _ _ _ _ _ _ _ _ _ C _ H arr locs hl hR hS k => lv_lshr C.1 C.2.1 hd rfl (k H arr locs hl hR hS)
theorem s_i2l {x : Int32} (hd : decode y.2.1 pc = .ok (.i2l, 1)) : gS E l y d (pc, ls, .int x :: st, G, μ) (pc + 1, ls, .long x.toInt64 :: st, G, μ) := stp_g fun _ _ _ _ _ _ _ _ _ _ _ _ _ C _ H arr locs hl hR hS k => lv_i2l C.1 C.2.1 hd rfl (k H arr locs hl hR hS)
theorem s_l2i {x : Int64} (hd : decode y.2.1 pc = .ok (.l2i, 1)) : gS E l y d (pc, ls, .long x :: st, G, μ) (pc + 1, ls, .int x.toInt32 :: st, G, μ) := stp_g fun _ _ _ _ _ _ _ _ _ _ _ _ _ C _ H arr locs hl hR hS k => lv_l2i C.1 C.2.1 hd rfl (k H arr locs hl hR hS)
theorem s_i2b {x : Int32} (hd : decode y.2.1 pc = .ok (.i2b, 1)) : gS E l y d (pc, ls, .int x :: st, G, μ) (pc + 1, ls, .int x.toInt8.toInt32 :: st, G, μ) := stp_g fun _ _ _ _ _ _ _ _ _ _ _ _ _ C _ H arr locs hl hR hS k => lv_i2b C.1 C.2.1 hd rfl (k H arr locs hl hR hS)
theorem s_lcmp {x z : Int64} (hd : decode y.2.1 pc = .ok (.lcmp, 1)) : gS E l y d (pc, ls, .long z :: .long x :: st, G, μ) (pc + 1, ls, .int (lg_cmp x z) :: st, G, μ) := stp_g fun _ _ _ _ _ _ _ _ _ _ _ _ _ C _ H arr locs hl hR hS k => W.lcmp C.1 C.2.1 hd (k H arr locs hl hR hS)
theorem s_dup {v : Value} (hd : decode y.2.1 pc = .ok (.dup, 1)) (hv : v.category = 1) : gS E l y d (pc, ls, v :: st, G, μ) (pc + 1, ls, v :: v :: st, G, μ) := stp_g fun _ _ _ _ _ _ _ _ _ _ _ _ _ C _ H arr locs hl hR hS k => lv_dup C.1 C.2.1 hd hv (k H arr locs hl hR hS)
theorem s_dup2 {v w : Value} (hd : decode y.2.1 pc = .ok (.dup2, 1)) (hv : v.category = 1) (hw : w.category = 1) : gS E l y d (pc, ls, v :: w :: st, G, μ) (pc + 1, ls, v :: w :: v :: w :: st, G, μ) := stp_g fun _ _ _ _ _ _ _ _ _ _ _ _ _ C _ H arr locs hl hR hS k => lv_dup2_11 C.1 C.2.1 hd hv hw (k H arr locs hl hR hS)
theorem s_pop {v : Value} (hd : decode y.2.1 pc = .ok (.pop, 1)) (hv : v.category = 1) : gS E l y d (pc, ls, v :: st, G, μ) (pc + 1, ls, st, G, μ) := stp_g fun _ _ _ _ _ _ _ _ _ _ _ _ _ C _ H arr locs hl hR hS k => lv_pop C.1 C.2.1 hd hv (k H arr locs hl hR hS)
theorem s_goto {off : Int} {tgt : Nat} (hd : decode y.2.1 pc = .ok (.goto off, 3)) (ht : (pc : Int) + off = (tgt : Int)) : gS E l y d (pc, ls, st, G, μ) (tgt, ls, st, G, μ) := stp_g fun _ _ _ _ _ _ _ _ _ _ _ _ _ C _ H arr locs hl hR hS k => lv_goto C.1 C.2.1 hd ht (k H arr locs hl hR hS)
theorem s_if_eq_t {x : Int32} {off : Int} {tgt : Nat} (hd : decode y.2.1 pc = .ok (.ifCond .eq off, 3)) (ht : (pc : Int) + off = (tgt : Int)) (hc : x = 0) : gS E l y d (pc, ls, .int x :: st, G, μ) (tgt, ls, st, G, μ) := stp_g fun _ _ _ _ _ _ _ _ _ _ _ _ _ C _ H arr locs hl hR hS k => lv_if_eq C.1 C.2.1 hd ht (fun _ => k H arr locs hl hR hS) (fun h => absurd hc h)
theorem s_if_eq_f {x : Int32} {off : Int} {tgt : Nat} (hd : decode y.2.1 pc = .ok (.ifCond .eq off, 3)) (ht : (pc : Int) + off = (tgt : Int)) (hc : ¬ (x = 0)) : gS E l y d (pc, ls, .int x :: st, G, μ) (pc + 3, ls, st, G, μ) := stp_g fun _ _ _ _ _ _ _ _ _ _ _ _ _ C _ H arr locs hl hR hS k => lv_if_eq C.1 C.2.1 hd ht (fun h => absurd h hc) (fun _ => k H arr locs hl hR hS)
theorem s_icmp_eq_t {x z : Int32} {off : Int} {tgt : Nat} (hd : decode y.2.1 pc = .ok (.if_icmp .eq off, 3)) (ht : (pc : Int) + off = (tgt : Int)) (hc : x = z) : gS E l y d (pc, ls, .int z :: .int x :: st, G, μ) (tgt, ls, st, G, μ) := stp_g fun _ _ _ _ _ _ _ _ _ _ _ _ _ C _ H arr locs hl hR hS k => lv_icmp_eq C.1 C.2.1 hd ht (fun _ => k H arr locs hl hR hS) (fun h => absurd hc h)
theorem s_icmp_eq_f {x z : Int32} {off : Int} {tgt : Nat} (hd : decode y.2.1 pc = .ok (.if_icmp .eq off, 3)) (ht : (pc : Int) + off = (tgt : Int)) (hc : ¬ (x = z)) : gS E l y d (pc, ls, .int z :: .int x :: st, G, μ) (pc + 3, ls, st, G, μ) := stp_g fun _ _ _ _ _ _ _ _ _ _ _ _ _ C _ H arr locs hl hR hS k => lv_icmp_eq C.1 C.2.1 hd ht (fun h => absurd h hc) (fun _ => k H arr locs hl hR hS)
theorem s_if_ne_t {x : Int32} {off : Int} {tgt : Nat} (hd : decode y.2.1 pc = .ok (.ifCond .ne off, 3)) (ht : (pc : Int) + off = (tgt : Int)) (hc : ¬ x = 0) : gS E l y d (pc, ls, .int x :: st, G, μ) (tgt, ls, st, G, μ) := stp_g fun _ _ _ _ _ _ _ _ _ _ _ _ _ C _ H arr locs hl hR hS k => lv_if_ne C.1 C.2.1 hd ht (fun _ => k H arr locs hl hR hS) (fun h => absurd h hc)
theorem s_if_ne_f {x : Int32} {off : Int} {tgt : Nat} (hd : decode y.2.1 pc = .ok (.ifCond .ne off, 3)) (ht : (pc : Int) + off = (tgt : Int)) (hc : x = 0) : gS E l y d (pc, ls, .int x :: st, G, μ) (pc + 3, ls, st, G, μ) := stp_g fun _ _ _ _ _ _ _ _ _ _ _ _ _ C _ H arr locs hl hR hS k => lv_if_ne C.1 C.2.1 hd ht (fun h => absurd hc h) (fun _ => k H arr locs hl hR hS)
theorem s_icmp_ne_t {x z : Int32} {off : Int} {tgt : Nat} (hd : decode y.2.1 pc = .ok (.if_icmp .ne off, 3)) (ht : (pc : Int) + off = (tgt : Int)) (hc : ¬ x = z) : gS E l y d (pc, ls, .int z :: .int x :: st, G, μ) (tgt, ls, st, G, μ) := stp_g fun _ _ _ _ _ _ _ _ _ _ _ _ _ C _ H arr locs hl hR hS k => lv_icmp_ne C.1 C.2.1 hd ht (fun _ => k H arr locs hl hR hS) (fun h => absurd h hc)
theorem s_icmp_ne_f {x z : Int32} {off : Int} {tgt : Nat} (hd : decode y.2.1 pc = .ok (.if_icmp .ne off, 3)) (ht : (pc : Int) + off = (tgt : Int)) (hc : x = z) : gS E l y d (pc, ls, .int z :: .int x :: st, G, μ) (pc + 3, ls, st, G, μ) := stp_g fun _ _ _ _ _ _ _ _ _ _ _ _ _ C _ H arr locs hl hR hS k => lv_icmp_ne C.1 C.2.1 hd ht (fun h => absurd hc h) (fun _ => k H arr locs hl hR hS)
theorem s_if_lt_t {x : Int32} {off : Int} {tgt : Nat} (hd : decode y.2.1 pc = .ok (.ifCond .lt off, 3)) (ht : (pc : Int) + off = (tgt : Int)) (hc : x < 0) : gS E l y d (pc, ls, .int x :: st, G, μ) (tgt, ls, st, G, μ) := stp_g fun _ _ _ _ _ _ _ _ _ _ _ _ _ C _ H arr locs hl hR hS k => lv_if_lt C.1 C.2.1 hd ht (fun _ => k H arr locs hl hR hS) (fun h => absurd hc h)
theorem s_if_lt_f {x : Int32} {off : Int} {tgt : Nat} (hd : decode y.2.1 pc = .ok (.ifCond .lt off, 3)) (ht : (pc : Int) + off = (tgt : Int)) (hc : ¬ (x < 0)) : gS E l y d (pc, ls, .int x :: st, G, μ) (pc + 3, ls, st, G, μ) := stp_g fun _ _ _ _ _ _ _ _ _ _ _ _ _ C _ H arr locs hl hR hS k => lv_if_lt C.1 C.2.1 hd ht (fun h => absurd h hc) (fun _ => k H arr locs hl hR hS)
theorem s_icmp_lt_t {x z : Int32} {off : Int} {tgt : Nat} (hd : decode y.2.1 pc = .ok (.if_icmp .lt off, 3)) (ht : (pc : Int) + off = (tgt : Int)) (hc : x < z) : gS E l y d (pc, ls, .int z :: .int x :: st, G, μ) (tgt, ls, st, G, μ) := stp_g fun _ _ _ _ _ _ _ _ _ _ _ _ _ C _ H arr locs hl hR hS k => lv_icmp_lt C.1 C.2.1 hd ht (fun _ => k H arr locs hl hR hS) (fun h => absurd hc h)
theorem s_icmp_lt_f {x z : Int32} {off : Int} {tgt : Nat} (hd : decode y.2.1 pc = .ok (.if_icmp .lt off, 3)) (ht : (pc : Int) + off = (tgt : Int)) (hc : ¬ (x < z)) : gS E l y d (pc, ls, .int z :: .int x :: st, G, μ) (pc + 3, ls, st, G, μ) := stp_g fun _ _ _ _ _ _ _ _ _ _ _ _ _ C _ H arr locs hl hR hS k => lv_icmp_lt C.1 C.2.1 hd ht (fun h => absurd h hc) (fun _ => k H arr locs hl hR hS)
theorem s_if_ge_t {x : Int32} {off : Int} {tgt : Nat} (hd : decode y.2.1 pc = .ok (.ifCond .ge off, 3)) (ht : (pc : Int) + off = (tgt : Int)) (hc : 0 ≤ x) : gS E l y d (pc, ls, .int x :: st, G, μ) (tgt, ls, st, G, μ) := stp_g fun _ _ _ _ _ _ _ _ _ _ _ _ _ C _ H arr locs hl hR hS k => lv_if_ge C.1 C.2.1 hd ht (fun _ => k H arr locs hl hR hS) (fun h => absurd hc h)
theorem s_if_ge_f {x : Int32} {off : Int} {tgt : Nat} (hd : decode y.2.1 pc = .ok (.ifCond .ge off, 3)) (ht : (pc : Int) + off = (tgt : Int)) (hc : ¬ (0 ≤ x)) : gS E l y d (pc, ls, .int x :: st, G, μ) (pc + 3, ls, st, G, μ) := stp_g fun _ _ _ _ _ _ _ _ _ _ _ _ _ C _ H arr locs hl hR hS k => lv_if_ge C.1 C.2.1 hd ht (fun h => absurd h hc) (fun _ => k H arr locs hl hR hS)
theorem s_icmp_ge_t {x z : Int32} {off : Int} {tgt : Nat} (hd : decode y.2.1 pc = .ok (.if_icmp .ge off, 3)) (ht : (pc : Int) + off = (tgt : Int)) (hc : z ≤ x) : gS E l y d (pc, ls, .int z :: .int x :: st, G, μ) (tgt, ls, st, G, μ) := stp_g fun _ _ _ _ _ _ _ _ _ _ _ _ _ C _ H arr locs hl hR hS k => lv_icmp_ge C.1 C.2.1 hd ht (fun _ => k H arr locs hl hR hS) (fun h => absurd hc h)
theorem s_icmp_ge_f {x z : Int32} {off : Int} {tgt : Nat} (hd : decode y.2.1 pc = .ok (.if_icmp .ge off, 3)) (ht : (pc : Int) + off = (tgt : Int)) (hc : ¬ (z ≤ x)) : gS E l y d (pc, ls, .int z :: .int x :: st, G, μ) (pc + 3, ls, st, G, μ) := stp_g fun _ _ _ _ _ _ _ _ _ _ _ _ _ C _ H arr locs hl hR hS k => lv_icmp_ge C.1 C.2.1 hd ht (fun h => absurd h hc) (fun _ => k H arr locs hl hR hS)
theorem s_if_gt_t {x : Int32} {off : Int} {tgt : Nat} (hd : decode y.2.1 pc = .ok (.ifCond .gt off, 3)) (ht : (pc : Int) + off = (tgt : Int)) (hc : 0 < x) : gS E l y d (pc, ls, .int x :: st, G, μ) (tgt, ls, st, G, μ) := stp_g fun _ _ _ _ _ _ _ _ _ _ _ _ _ C _ H arr locs hl hR hS k => lv_if_gt C.1 C.2.1 hd ht (fun _ => k H arr locs hl hR hS) (fun h => absurd hc h)
theorem s_if_gt_f {x : Int32} {off : Int} {tgt : Nat} (hd : decode y.2.1 pc = .ok (.ifCond .gt off, 3)) (ht : (pc : Int) + off = (tgt : Int)) (hc : ¬ (0 < x)) : gS E l y d (pc, ls, .int x :: st, G, μ) (pc + 3, ls, st, G, μ) := stp_g fun _ _ _ _ _ _ _ _ _ _ _ _ _ C _ H arr locs hl hR hS k => lv_if_gt C.1 C.2.1 hd ht (fun h => absurd h hc) (fun _ => k H arr locs hl hR hS)
theorem s_icmp_gt_t {x z : Int32} {off : Int} {tgt : Nat} (hd : decode y.2.1 pc = .ok (.if_icmp .gt off, 3)) (ht : (pc : Int) + off = (tgt : Int)) (hc : z < x) : gS E l y d (pc, ls, .int z :: .int x :: st, G, μ) (tgt, ls, st, G, μ) := stp_g fun _ _ _ _ _ _ _ _ _ _ _ _ _ C _ H arr locs hl hR hS k => lv_icmp_gt C.1 C.2.1 hd ht (fun _ => k H arr locs hl hR hS) (fun h => absurd hc h)
theorem s_icmp_gt_f {x z : Int32} {off : Int} {tgt : Nat} (hd : decode y.2.1 pc = .ok (.if_icmp .gt off, 3)) (ht : (pc : Int) + off = (tgt : Int)) (hc : ¬ (z < x)) : gS E l y d (pc, ls, .int z :: .int x :: st, G, μ) (pc + 3, ls, st, G, μ) := stp_g fun _ _ _ _ _ _ _ _ _ _ _ _ _ C _ H arr locs hl hR hS k => lv_icmp_gt C.1 C.2.1 hd ht (fun h => absurd h hc) (fun _ => k H arr locs hl hR hS)
theorem s_if_le_t {x : Int32} {off : Int} {tgt : Nat} (hd : decode y.2.1 pc = .ok (.ifCond .le off, 3)) (ht : (pc : Int) + off = (tgt : Int)) (hc : x ≤ 0) : gS E l y d (pc, ls, .int x :: st, G, μ) (tgt, ls, st, G, μ) := stp_g fun _ _ _ _ _ _ _ _ _ _ _ _ _ C _ H arr locs hl hR hS k => lv_if_le C.1 C.2.1 hd ht (fun _ => k H arr locs hl hR hS) (fun h => absurd hc h)
theorem s_if_le_f {x : Int32} {off : Int} {tgt : Nat} (hd : decode y.2.1 pc = .ok (.ifCond .le off, 3)) (ht : (pc : Int) + off = (tgt : Int)) (hc : ¬ (x ≤ 0)) : gS E l y d (pc, ls, .int x :: st, G, μ) (pc + 3, ls, st, G, μ) := stp_g fun _ _ _ _ _ _ _ _ _ _ _ _ _ C _ H arr locs hl hR hS k => lv_if_le C.1 C.2.1 hd ht (fun h => absurd h hc) (fun _ => k H arr locs hl hR hS)
theorem s_icmp_le_t {x z : Int32} {off : Int} {tgt : Nat} (hd : decode y.2.1 pc = .ok (.if_icmp .le off, 3)) (ht : (pc : Int) + off = (tgt : Int)) (hc : x ≤ z) : gS E l y d (pc, ls, .int z :: .int x :: st, G, μ) (tgt, ls, st, G, μ) := stp_g fun _ _ _ _ _ _ _ _ _ _ _ _ _ C _ H arr locs hl hR hS k => lv_icmp_le C.1 C.2.1 hd ht (fun _ => k H arr locs hl hR hS) (fun h => absurd hc h)
theorem s_icmp_le_f {x z : Int32} {off : Int} {tgt : Nat} (hd : decode y.2.1 pc = .ok (.if_icmp .le off, 3)) (ht : (pc : Int) + off = (tgt : Int)) (hc : ¬ (x ≤ z)) : gS E l y d (pc, ls, .int z :: .int x :: st, G, μ) (pc + 3, ls, st, G, μ) := stp_g fun _ _ _ _ _ _ _ _ _ _ _ _ _ C _ H arr locs hl hR hS k => lv_icmp_le C.1 C.2.1 hd ht (fun h => absurd h hc) (fun _ => k H arr locs hl hR hS)
theorem s_tsw_in {dflt lo hi : Int} {offs : Array Int} {len : Nat} {x : Int32} {off : Int} {tgt : Nat} (hd : decode y.2.1 pc = .ok (.tableswitch dflt lo hi offs, len)) (h1 : ¬ x.toInt < lo) (h2 : ¬ hi < x.toInt) (ho : offs[(x.toInt - lo).toNat]? = some off) (ht : (pc : Int) + off = (tgt : Int)) : gS E l y d (pc, ls, .int x :: st, G, μ) (tgt, ls, st, G, μ) := stp_g fun _ _ _ _ _ _ _ _ _ _ _ _ _ C _ H arr locs hl hR hS k => lv_tableIn C.1 C.2.1 hd h1 h2 ho ht (k H arr locs hl hR hS)
theorem s_tsw_out {dflt lo hi : Int} {offs : Array Int} {len : Nat} {x : Int32} {tgt : Nat} (hd : decode y.2.1 pc = .ok (.tableswitch dflt lo hi offs, len)) (h : x.toInt < lo ∨ hi < x.toInt) (ht : (pc : Int) + dflt = (tgt : Int)) : gS E l y d (pc, ls, .int x :: st, G, μ) (tgt, ls, st, G, μ) := stp_g fun _ _ _ _ _ _ _ _ _ _ _ _ _ C _ H arr locs hl hR hS k => lv_tableOut C.1 C.2.1 hd h ht (k H arr locs hl hR hS)
theorem s_lsw {dflt : Int} {ps : Array (Int × Int)} {len : Nat} {x : Int32} {off : Int} {tgt : Nat} (hd : decode y.2.1 pc = .ok (.lookupswitch dflt ps, len)) (hp : (ps.toList.zip (ps.toList.drop 1)).all (fun (a, next) => a.1 < next.1) = true) (ho : Op.lookupswitch.offset ps.toList dflt x.toInt = off) (ht : (pc : Int) + off = (tgt : Int)) : gS E l y d (pc, ls, .int x :: st, G, μ) (tgt, ls, st, G, μ) := stp_g fun _ _ _ _ _ _ _ _ _ _ _ _ _ C _ H arr locs hl hR hS k => lv_lookup C.1 C.2.1 hd hp ho ht (k H arr locs hl hR hS)
theorem s_ldc {idx : Nat} {v : Int32} (hd : decode y.2.1 pc = .ok (.ldc idx, 2)) (hw : Jvm.Cond.constant y.1.cls idx v ∈ gx_T) : gS E l y d (pc, ls, st, G, μ) (pc + 2, ls, .int v :: st, G, μ) := stp_g fun _ _ _ _ _ _ _ _ _ _ _ _ _ C _ H arr locs hl hR hS k => lv_ldc C.1 C.2.1 C.2.2.2.2.1 (C.2.2.2.2.2.1 _ (List.mem_cons_of_mem _ hw)) hd (k H arr locs hl hR hS)
theorem s_ldcw {idx : Nat} {v : Int32} (hd : decode y.2.1 pc = .ok (.ldc_w idx, 3)) (hw : Jvm.Cond.constant y.1.cls idx v ∈ gx_T) : gS E l y d (pc, ls, st, G, μ) (pc + 3, ls, .int v :: st, G, μ) := stp_g fun _ _ _ _ _ _ _ _ _ _ _ _ _ C _ H arr locs hl hR hS k => lv_ldcw C.1 C.2.1 C.2.2.2.2.1 (C.2.2.2.2.2.1 _ (List.mem_cons_of_mem _ hw)) hd (k H arr locs hl hR hS)
theorem s_ldc2 {idx : Nat} {v : Int64} (hd : decode y.2.1 pc = .ok (.ldc2_w idx, 3)) (hw : Jvm.Cond.constantLong y.1.cls idx v ∈ gx_T) : gS E l y d (pc, ls, st, G, μ) (pc + 3, ls, .long v :: st, G, μ) := stp_g fun _ _ _ _ _ _ _ _ _ _ _ _ _ C _ H arr locs hl hR hS k => lv_ldc2 C.1 C.2.1 C.2.2.2.2.1 (C.2.2.2.2.2.1 _ (List.mem_cons_of_mem _ hw)) hd (k H arr locs hl hR hS)
end GXT
/-! reading and writing the memory -/
def gx_uI (μ : gx_M) (a k : Nat) (x : Int32) : gx_M := (fun b j => if b = a ∧ j = k then x else μ.1 b j, μ.2)
def gx_uL (μ : gx_M) (a k : Nat) (x : Int64) : gx_M := (μ.1, fun b j => if b = a ∧ j = k then x else μ.2 b j)
def gx_FI (own : String) (idx ci k t : Nat) : Prop := ci < 13 ∧ k < gx_NX ci ∧ Jvm.Cond.fieldLink own idx (gx_TX ci k).1 (gx_TX ci k).2.1 (gx_TX ci k).2.2.1 ∈ gx_T ∧ gx_ft ci k = t
theorem gx_rg {α : Type} {f : Nat → α} {n k : Nat} (h : k < n) : ((List.range n).map f)[k]? = some (f k) := by simp [h]
theorem gx_entO (E : gx_E) (μ : gx_M) (a : Nat) {ci : Nat} (hc : ci < 13) (n : Nat) (refs : List (Option Nat)) : gx_ent E μ a (ci, n, refs) = .inr (ci, (List.range n).map (gx_fv E ci refs μ a)) := by
  unfold gx_ent
  rw [if_pos (show ci < 50 by omega)]
theorem gx_set0 {G : gx_G} {a : Nat} {kd : Nat × Nat × List (Option Nat)} (h : G[a]? = some kd) : G = G.set a kd := by
  obtain ⟨h1, h2⟩ := List.getElem?_eq_some_iff.mp h
  rw [← h2, List.set_getElem_self]
theorem gx_rset {f g : Nat → Value} {n k : Nat} (v : Value) (h : ∀ j, j < n → g j = if j = k then v else f j) : ((List.range n).map f).set k v = (List.range n).map g := by
  apply List.ext_getElem?
  intro i
  by_cases hi : i < n
  · by_cases hk : i = k
    · subst hk
      rw [List.getElem?_set_self (by simpa using hi), gx_rg hi, h i hi, if_pos rfl]
    · rw [List.getElem?_set_ne (Ne.symm hk), gx_rg hi, gx_rg hi, h i hi, if_neg hk]
  · have h1 : ((List.range n).map g)[i]? = none := by simp; omega
    rw [h1]
    simp; omega
theorem gx_otherI (E : gx_E) (μ : gx_M) {a b k : Nat} (x : Int32) (h : b ≠ a) (kd : Nat × Nat × List (Option Nat)) : gx_ent E (gx_uI μ a k x) b kd = gx_ent E μ b kd := by
  have e1 : (gx_uI μ a k x).1 b = μ.1 b := by funext j; simp [gx_uI, h]
  have e2 : (gx_uI μ a k x).2 = μ.2 := rfl
  unfold gx_ent gx_fv
  rw [e1, e2]
theorem gx_otherL (E : gx_E) (μ : gx_M) {a b k : Nat} (x : Int64) (h : b ≠ a) (kd : Nat × Nat × List (Option Nat)) : gx_ent E (gx_uL μ a k x) b kd = gx_ent E μ b kd := by
  have e1 : (gx_uL μ a k x).2 b = μ.2 b := by funext j; simp [gx_uL, h]
  have e2 : (gx_uL μ a k x).1 = μ.1 := rfl
  unfold gx_ent gx_fv
  rw [e1, e2]
section GXH
variable {E : gx_E} {l : Launch} {y : gx_Y} {d : Nat} {pc : Nat} {ls : List (Option Value)} {st : List Value} {G : gx_G} {μ : gx_M}
theorem s_getV {a ci k t idx : Nat} {refs : List (Option Nat)} {v : Value} (hd : decode y.2.1 pc = .ok (.getfield idx, 3)) (F : gx_FI y.1.cls idx ci k t) (hG : G[a]? = some (ci, gx_NX ci, refs)) (hv : gx_fv E ci refs μ a k = v) : gS E l y d (pc, ls, .ref (E.2.2.1 + a) :: st, G, μ) (pc + 3, ls, v :: st, G, μ) := by
  obtain ⟨hc, hk, hw, ht⟩ := F
  refine stp_g fun _ _ _ _ _ _ _ _ _ _ _ _ _ C _ H arr locs hl hR hS kk => ?_
  obtain ⟨hx, hb, -, -, hown, hts, -, -, -, -, hK, -, -, -⟩ := C
  exact va_get hx hb hts (fun w h => List.mem_cons_of_mem _ (gx_wsi ci hc w h)) hown hK hR a ((gx_at E μ hG).trans (by rw [gx_entO E μ a hc])) (gx_cli ci hc) k hk (hts _ (List.mem_cons_of_mem _ hw)) (fun _ h => h) (by rw [gx_rg hk, hv]) hd (kk H arr locs hl hR hS)
theorem s_getI {a ci k t idx : Nat} {refs : List (Option Nat)} (hd : decode y.2.1 pc = .ok (.getfield idx, 3)) (F : gx_FI y.1.cls idx ci k t) (ht : t < 3) (hG : G[a]? = some (ci, gx_NX ci, refs)) : gS E l y d (pc, ls, .ref (E.2.2.1 + a) :: st, G, μ) (pc + 3, ls, .int (μ.1 a k) :: st, G, μ) :=
  s_getV hd F hG (by unfold gx_fv; rw [F.2.2.2, if_neg (by omega), if_neg (by omega)])
theorem s_getL {a ci k idx : Nat} {refs : List (Option Nat)} (hd : decode y.2.1 pc = .ok (.getfield idx, 3)) (F : gx_FI y.1.cls idx ci k 3) (hG : G[a]? = some (ci, gx_NX ci, refs)) : gS E l y d (pc, ls, .ref (E.2.2.1 + a) :: st, G, μ) (pc + 3, ls, .long (μ.2 a k) :: st, G, μ) :=
  s_getV hd F hG (by unfold gx_fv; rw [F.2.2.2]; rfl)
theorem s_getR {a ci k idx b : Nat} {refs : List (Option Nat)} (hd : decode y.2.1 pc = .ok (.getfield idx, 3)) (F : gx_FI y.1.cls idx ci k 4) (hG : G[a]? = some (ci, gx_NX ci, refs)) (hr : refs.getD k none = some b) : gS E l y d (pc, ls, .ref (E.2.2.1 + a) :: st, G, μ) (pc + 3, ls, .ref (E.2.2.1 + b) :: st, G, μ) :=
  s_getV hd F hG (by unfold gx_fv; rw [F.2.2.2, if_pos rfl, hr]; rfl)
theorem s_putI {a ci k idx t : Nat} {refs : List (Option Nat)} {x : Int32} {ty : FieldType} (hd : decode y.2.1 pc = .ok (.putfield idx, 3)) (F : gx_FI y.1.cls idx ci k t) (ht : t < 3) (hf : (gx_TX ci k).2.2.2 = false) (hty : gx_tyf ci k = ty) (hn : narrow ty (.int x) = .int x) (hfit : fits ty (.int x) = true) (hG : G[a]? = some (ci, gx_NX ci, refs)) : gS E l y d (pc, ls, .int x :: .ref (E.2.2.1 + a) :: st, G, μ) (pc + 3, ls, st, G, gx_uI μ a k x) := by
  obtain ⟨hc, hk, hw, hft⟩ := F
  refine stp_g fun _ _ _ _ _ _ _ _ _ _ _ _ _ C _ H arr locs hl hR hS kk => ?_
  obtain ⟨hx, hb, -, -, hown, hts, -, -, -, -, hK, -, -, -⟩ := C
  refine va_put hx hb hts (fun w h => List.mem_cons_of_mem _ (gx_wsi ci hc w h)) (gx_tyf ci) (gx_tyi ci hc) (gx_nmi ci hc) hown hK hR (gx_D E G μ) hS a ((gx_at E μ hG).trans (by rw [gx_entO E μ a hc])) (gx_cli ci hc) k hk (hts _ (List.mem_cons_of_mem _ hw)) (fun _ h => h) hf (ty := ty) (v := .int x) (by rw [gx_tyi ci hc k hk, hty]) hn hfit (by simpa using hk) hd (fun H1 locs1 hP1 _ hS1 => kk H1 arr locs1 hl ?_ hS1)
  show va_P E.1 gx_cl (gx_ws E G (gx_uI μ a k x)) H1
  rw [gx_set hG (gx_set0 hG) (fun b kb hb _ => gx_otherI E μ x hb kb), gx_entO E _ a hc, ← gx_rset (f := gx_fv E ci refs μ a) (k := k) (.int x) ?_]
  · exact hP1
  · intro j hj
    unfold gx_fv gx_uI
    by_cases e : j = k
    · subst e
      rw [if_pos rfl, hft, if_neg (by omega), if_neg (by omega)]
      simp
    · simp [e]
theorem s_putL {a ci k idx : Nat} {refs : List (Option Nat)} {x : Int64} (hd : decode y.2.1 pc = .ok (.putfield idx, 3)) (F : gx_FI y.1.cls idx ci k 3) (hf : (gx_TX ci k).2.2.2 = false) (hty : gx_tyf ci k = .long) (hG : G[a]? = some (ci, gx_NX ci, refs)) : gS E l y d (pc, ls, .long x :: .ref (E.2.2.1 + a) :: st, G, μ) (pc + 3, ls, st, G, gx_uL μ a k x) := by
  obtain ⟨hc, hk, hw, hft⟩ := F
  refine stp_g fun _ _ _ _ _ _ _ _ _ _ _ _ _ C _ H arr locs hl hR hS kk => ?_
  obtain ⟨hx, hb, -, -, hown, hts, -, -, -, -, hK, -, -, -⟩ := C
  refine va_put hx hb hts (fun w h => List.mem_cons_of_mem _ (gx_wsi ci hc w h)) (gx_tyf ci) (gx_tyi ci hc) (gx_nmi ci hc) hown hK hR (gx_D E G μ) hS a ((gx_at E μ hG).trans (by rw [gx_entO E μ a hc])) (gx_cli ci hc) k hk (hts _ (List.mem_cons_of_mem _ hw)) (fun _ h => h) hf (ty := .long) (v := .long x) (by rw [gx_tyi ci hc k hk, hty]) rfl rfl (by simpa using hk) hd (fun H1 locs1 hP1 _ hS1 => kk H1 arr locs1 hl ?_ hS1)
  show va_P E.1 gx_cl (gx_ws E G (gx_uL μ a k x)) H1
  rw [gx_set hG (gx_set0 hG) (fun b kb hb _ => gx_otherL E μ x hb kb), gx_entO E _ a hc, ← gx_rset (f := gx_fv E ci refs μ a) (k := k) (.long x) ?_]
  · exact hP1
  · intro j hj
    unfold gx_fv gx_uL
    by_cases e : j = k
    · subst e
      rw [if_pos rfl, hft, if_neg (by omega), if_pos rfl]
      simp
    · simp [e]
theorem s_iald {a n : Nat} {refs : List (Option Nat)} {j : Int32} (hd : decode y.2.1 pc = .ok (.iaload, 1)) (hG : G[a]? = some (50, n, refs)) (hj : vp_in j n) : gS E l y d (pc, ls, .int j :: .ref (E.2.2.1 + a) :: st, G, μ) (pc + 1, ls, .int (μ.1 a j.toNatClampNeg) :: st, G, μ) := stp_g fun _ _ _ _ _ _ _ _ _ _ _ _ _ C _ H arr locs hl hR hS kk => va_iald C.1 C.2.1 C.2.2.2.2.2.2.2.2.2.2.1 hR a 0 (gx_at E μ hG) rfl hj hd (kk H arr locs hl hR hS)
theorem s_bald {a n : Nat} {refs : List (Option Nat)} {j : Int32} (hd : decode y.2.1 pc = .ok (.baload, 1)) (hG : G[a]? = some (51, n, refs)) (hj : vp_in j n) : gS E l y d (pc, ls, .int j :: .ref (E.2.2.1 + a) :: st, G, μ) (pc + 1, ls, .int (μ.1 a j.toNatClampNeg) :: st, G, μ) := stp_g fun _ _ _ _ _ _ _ _ _ _ _ _ _ C _ H arr locs hl hR hS kk => va_bald C.1 C.2.1 C.2.2.2.2.2.2.2.2.2.2.1 hR a 1 (gx_at E μ hG) rfl hj hd (kk H arr locs hl hR hS)
theorem s_zald {a n : Nat} {refs : List (Option Nat)} {j : Int32} (hd : decode y.2.1 pc = .ok (.baload, 1)) (hG : G[a]? = some (52, n, refs)) (hj : vp_in j n) : gS E l y d (pc, ls, .int j :: .ref (E.2.2.1 + a) :: st, G, μ) (pc + 1, ls, .int (μ.1 a j.toNatClampNeg) :: st, G, μ) := stp_g fun _ _ _ _ _ _ _ _ _ _ _ _ _ C _ H arr locs hl hR hS kk => va_zald C.1 C.2.1 C.2.2.2.2.2.2.2.2.2.2.1 hR a 2 (gx_at E μ hG) rfl hj hd (kk H arr locs hl hR hS)
theorem s_lald {a n : Nat} {refs : List (Option Nat)} {j : Int32} (hd : decode y.2.1 pc = .ok (.laload, 1)) (hG : G[a]? = some (53, n, refs)) (hj : vp_in j n) : gS E l y d (pc, ls, .int j :: .ref (E.2.2.1 + a) :: st, G, μ) (pc + 1, ls, .long (μ.2 a j.toNatClampNeg) :: st, G, μ) := stp_g fun _ _ _ _ _ _ _ _ _ _ _ _ _ C _ H arr locs hl hR hS kk => va_lald C.1 C.2.1 C.2.2.2.2.2.2.2.2.2.2.1 hR a 3 (gx_at E μ hG) rfl hj hd (kk H arr locs hl hR hS)
theorem gx_arrI {E : gx_E} {μ : gx_M} {a t n i : Nat} {x : Int32} {refs : List (Option Nat)} (h : t = 50 ∨ t = 51 ∨ t = 52) : gx_ent E (gx_uI μ a i x) a (t, n, refs) = .inl (E.2.1 (t - 50), n, .inl (upd (μ.1 a) i x)) := by
  have e1 : (gx_uI μ a i x).1 a = upd (μ.1 a) i x := by funext j; simp [gx_uI, upd]
  rcases h with rfl | rfl | rfl <;> (unfold gx_ent; rw [e1]; rfl)
theorem gx_arrL {E : gx_E} {μ : gx_M} {a n i : Nat} {x : Int64} {refs : List (Option Nat)} : gx_ent E (gx_uL μ a i x) a (53, n, refs) = .inl (E.2.1 3, n, .inr (.inl (vp_updL (μ.2 a) i x))) := by
  have e1 : (gx_uL μ a i x).2 a = vp_updL (μ.2 a) i x := by funext j; simp [gx_uL, vp_updL]
  unfold gx_ent; rw [e1]; rfl
theorem s_iast {a n : Nat} {refs : List (Option Nat)} {j x : Int32} (hd : decode y.2.1 pc = .ok (.iastore, 1)) (hG : G[a]? = some (50, n, refs)) (hj : vp_in j n) : gS E l y d (pc, ls, .int x :: .int j :: .ref (E.2.2.1 + a) :: st, G, μ) (pc + 1, ls, st, G, gx_uI μ a j.toNatClampNeg x) := stp_g fun _ _ _ _ _ _ _ _ _ _ _ _ _ C _ H arr locs hl hR hS kk => va_iast C.1 C.2.1 C.2.2.2.2.2.2.2.2.2.2.1 hR (gx_D E G μ) hS a 0 (gx_at E μ hG) rfl hj hd (fun H1 locs1 hP1 _ hS1 => kk H1 arr locs1 hl (by
  show va_P E.1 gx_cl (gx_ws E G (gx_uI μ a j.toNatClampNeg x)) H1
  rw [gx_set hG (gx_set0 hG) (fun b kb hb _ => gx_otherI E μ x hb kb), gx_arrI (Or.inl rfl)]
  exact hP1) hS1)
theorem s_bast {a n : Nat} {refs : List (Option Nat)} {j x : Int32} (hd : decode y.2.1 pc = .ok (.bastore, 1)) (hG : G[a]? = some (51, n, refs)) (hj : vp_in j n) : gS E l y d (pc, ls, .int x :: .int j :: .ref (E.2.2.1 + a) :: st, G, μ) (pc + 1, ls, st, G, gx_uI μ a j.toNatClampNeg (vp_nar .byte x)) := stp_g fun _ _ _ _ _ _ _ _ _ _ _ _ _ C _ H arr locs hl hR hS kk => va_bast C.1 C.2.1 C.2.2.2.2.2.2.2.2.2.2.1 hR (gx_D E G μ) hS a 1 (gx_at E μ hG) rfl hj hd (fun H1 locs1 hP1 _ hS1 => kk H1 arr locs1 hl (by
  show va_P E.1 gx_cl (gx_ws E G (gx_uI μ a j.toNatClampNeg (vp_nar .byte x))) H1
  rw [gx_set hG (gx_set0 hG) (fun b kb hb _ => gx_otherI E μ _ hb kb), gx_arrI (Or.inr (Or.inl rfl))]
  exact hP1) hS1)
theorem s_zast {a n : Nat} {refs : List (Option Nat)} {j x : Int32} (hd : decode y.2.1 pc = .ok (.bastore, 1)) (hG : G[a]? = some (52, n, refs)) (hj : vp_in j n) : gS E l y d (pc, ls, .int x :: .int j :: .ref (E.2.2.1 + a) :: st, G, μ) (pc + 1, ls, st, G, gx_uI μ a j.toNatClampNeg (vp_nar .boolean x)) := stp_g fun _ _ _ _ _ _ _ _ _ _ _ _ _ C _ H arr locs hl hR hS kk => va_zast C.1 C.2.1 C.2.2.2.2.2.2.2.2.2.2.1 hR (gx_D E G μ) hS a 2 (gx_at E μ hG) rfl hj hd (fun H1 locs1 hP1 _ hS1 => kk H1 arr locs1 hl (by
  show va_P E.1 gx_cl (gx_ws E G (gx_uI μ a j.toNatClampNeg (vp_nar .boolean x))) H1
  rw [gx_set hG (gx_set0 hG) (fun b kb hb _ => gx_otherI E μ _ hb kb), gx_arrI (Or.inr (Or.inr rfl))]
  exact hP1) hS1)
theorem s_last {a n : Nat} {refs : List (Option Nat)} {j : Int32} {x : Int64} (hd : decode y.2.1 pc = .ok (.lastore, 1)) (hG : G[a]? = some (53, n, refs)) (hj : vp_in j n) : gS E l y d (pc, ls, .long x :: .int j :: .ref (E.2.2.1 + a) :: st, G, μ) (pc + 1, ls, st, G, gx_uL μ a j.toNatClampNeg x) := stp_g fun _ _ _ _ _ _ _ _ _ _ _ _ _ C _ H arr locs hl hR hS kk => va_last C.1 C.2.1 C.2.2.2.2.2.2.2.2.2.2.1 hR (gx_D E G μ) hS a 3 (gx_at E μ hG) rfl hj hd (fun H1 locs1 hP1 _ hS1 => kk H1 arr locs1 hl (by
  show va_P E.1 gx_cl (gx_ws E G (gx_uL μ a j.toNatClampNeg x)) H1
  rw [gx_set hG (gx_set0 hG) (fun b kb hb _ => gx_otherL E μ _ hb kb), gx_arrL]
  exact hP1) hS1)
theorem s_alenA {a t n : Nat} {refs : List (Option Nat)} {v : Int32} {ty : FieldType} (hd : decode y.2.1 pc = .ok (.arraylength, 1)) (hG : G[a]? = some (t, n, refs)) (ht : t = 50 ∨ t = 51 ∨ t = 52 ∨ t = 53) (hv : Int32.ofNat n = v) : gS E l y d (pc, ls, .ref (E.2.2.1 + a) :: st, G, μ) (pc + 1, ls, .int v :: st, G, μ) := by
  rcases ht with rfl | rfl | rfl | rfl
  · exact stp_g fun _ _ _ _ _ _ _ _ _ _ _ _ _ C _ H arr locs hl hR hS kk => va_alen C.1 C.2.1 C.2.2.2.2.2.2.2.2.2.2.1 hR a 0 (x := (n, _)) (gx_at E μ hG) rfl hv hd (kk H arr locs hl hR hS)
  · exact stp_g fun _ _ _ _ _ _ _ _ _ _ _ _ _ C _ H arr locs hl hR hS kk => va_alen C.1 C.2.1 C.2.2.2.2.2.2.2.2.2.2.1 hR a 1 (x := (n, _)) (gx_at E μ hG) rfl hv hd (kk H arr locs hl hR hS)
  · exact stp_g fun _ _ _ _ _ _ _ _ _ _ _ _ _ C _ H arr locs hl hR hS kk => va_alen C.1 C.2.1 C.2.2.2.2.2.2.2.2.2.2.1 hR a 2 (x := (n, _)) (gx_at E μ hG) rfl hv hd (kk H arr locs hl hR hS)
  · exact stp_g fun _ _ _ _ _ _ _ _ _ _ _ _ _ C _ H arr locs hl hR hS kk => va_alen C.1 C.2.1 C.2.2.2.2.2.2.2.2.2.2.1 hR a 3 (x := (n, _)) (gx_at E μ hG) rfl hv hd (kk H arr locs hl hR hS)
theorem s_aald {a t n b : Nat} {refs : List (Option Nat)} {j : Int32} (hd : decode y.2.1 pc = .ok (.aaload, 1)) (hG : G[a]? = some (t, n, refs)) (ht : t = 54 ∨ t = 55 ∨ t = 56 ∨ t = 57) (hj : vp_in j n) (hr : refs.getD j.toNatClampNeg none = some b) : gS E l y d (pc, ls, .int j :: .ref (E.2.2.1 + a) :: st, G, μ) (pc + 1, ls, .ref (E.2.2.1 + b) :: st, G, μ) := by
  have e9 : ∀ (q : Nat), q = E.2.2.1 + b → va_rf ((refs.getD j.toNatClampNeg none).map (fun q => E.2.2.1 + q)) = .ref q := fun q hq => by rw [hr, hq]; rfl
  refine stp_g fun _ _ _ _ _ _ _ _ _ _ _ _ _ C _ H arr locs hl hR hS kk => ?_
  have kk' := kk H arr locs hl hR hS
  rw [← e9 _ rfl] at kk'
  rcases ht with rfl | rfl | rfl | rfl
  · exact va_aldq C.1 C.2.1 C.2.2.2.2.2.2.2.2.2.2.1 hR a 4 (f := fun j => (refs.getD j none).map (fun q => E.2.2.1 + q)) (gx_at E μ hG) rfl hj hd kk'
  · exact va_aldq C.1 C.2.1 C.2.2.2.2.2.2.2.2.2.2.1 hR a 5 (f := fun j => (refs.getD j none).map (fun q => E.2.2.1 + q)) (gx_at E μ hG) rfl hj hd kk'
  · exact va_aldq C.1 C.2.1 C.2.2.2.2.2.2.2.2.2.2.1 hR a 6 (f := fun j => (refs.getD j none).map (fun q => E.2.2.1 + q)) (gx_at E μ hG) rfl hj hd kk'
  · exact va_aldq C.1 C.2.1 C.2.2.2.2.2.2.2.2.2.2.1 hR a 7 (f := fun j => (refs.getD j none).map (fun q => E.2.2.1 + q)) (gx_at E μ hG) rfl hj hd kk'
end GXH
