set_option maxHeartbeats 4000000 in
set_option maxRecDepth 100000 in
theorem c_X6_put (l : Launch) (g : GG) (u : UU) (x1 : Int32) (x2 : Int32) (x3 : Int32) {r : Int32} {u' : UU} (hf : f_X6_put x1 x2 x3 u = some (r, u')) : Ci l g 55 20 yX6_put wsX6_put 2 42 [.ref (aD g 55), .int x1, .int x2, .int x3] u r u' := by
  refine ct_i (cc := cX6_put) (maxL := 5) (by decide) rfl (Nat.le_of_ble_eq_true rfl) ?_
  intro p e s m args below meth c R Q ls hx hb hml hown hts hC hP hl hRf hRl kret hS
  have hown : s.vm.findClass RX6 = some m.cls := hown
  have hl : lv_has ls 5 [(0, .ref (aD g 55)), (1, .int x1), (2, .int x2), (3, .int x3)] := hl
  have hinX6 : ∀ w ∈ u_ws RX6 TX6 34, w ∈ wsX6_put := by decide +kernel
  unfold f_X6_put at hf
  refine lv_iload_n hx hb dX6_put_0 rfl (lv_at hl 1 rfl) ?_
  refine r_Si (As := [.int x1]) (rest := []) ⟨hx, hb, hml, hown, hts⟩ hC hP hS (c_X6_isText l g u x1 rfl) (va_cwS 1 hts gX6_put_X6_isText rfl rfl rfl (by decide +kernel) ⟨(Nat.le_trans (Nat.le_of_ble_eq_true rfl) hRf), (Nat.le_trans (Nat.le_of_ble_eq_true rfl) hRl)⟩) rfl hl.1 rfl (Nat.le_of_ble_eq_true rfl) dX6_put_1 (fun H locs hP hS => ?_)
  refine lv_if_ne (tgt := 9) hx hb dX6_put_4 (by decide) (fun c_1 => ?_) (fun c_1 => ?_)
  · rw [if_neg c_1] at hf
    refine lv_aload_n hx hb dX6_put_9 rfl (lv_at hl 0 rfl) ?_
    refine r_get hx hb hts hown hC hP hinX6 55 (by decide) (ci := 5) rfl (by decide) rfl 8 (by decide) (hts (.fieldLink RX6 26 "LoafPartsModel" "textSizes" "[I") (by decide +kernel)) (v := .ref (aD g 60)) rfl dX6_put_10 ?_
    refine lv_iload_n hx hb dX6_put_13 rfl (lv_at hl 1 rfl) ?_
    obtain ⟨hi_2, hf⟩ := ix_ex hf
    refine r_ald hx hb hC hP 60 (by decide) rfl hi_2 dX6_put_14 ?_
    refine lv_if_ge (tgt := 24) hx hb dX6_put_15 (by decide) (fun c_3 => ?_) (fun c_3 => ?_)
    · rw [if_pos c_3] at hf
      refine lv_iload_n hx hb dX6_put_24 rfl (lv_at hl 2 rfl) ?_
      refine lv_iconst (v := (0 : Int32)) hx hb dX6_put_25 (by decide) ?_
      refine lv_aload_n hx hb dX6_put_26 rfl (lv_at hl 0 rfl) ?_
      refine r_get hx hb hts hown hC hP hinX6 55 (by decide) (ci := 5) rfl (by decide) rfl 8 (by decide) (hts (.fieldLink RX6 26 "LoafPartsModel" "textSizes" "[I") (by decide +kernel)) (v := .ref (aD g 60)) rfl dX6_put_27 ?_
      refine lv_iload_n hx hb dX6_put_30 rfl (lv_at hl 1 rfl) ?_
      obtain ⟨hi_4, hf⟩ := ix_ex hf
      refine r_ald hx hb hC hP 60 (by decide) rfl hi_4 dX6_put_31 ?_
      refine lv_iconst (v := (1 : Int32)) hx hb dX6_put_32 (by decide) ?_
      refine lv_isub hx hb dX6_put_33 ?_
      refine r_Si (As := [.int x2, .int (0 : Int32), .int ((ui u 60 (x1 : Int32).toNatClampNeg) - (1 : Int32))]) (rest := []) ⟨hx, hb, hml, hown, hts⟩ hC hP hS (c_X6_in l g u x2 (0 : Int32) ((ui u 60 (x1 : Int32).toNatClampNeg) - (1 : Int32)) rfl) (va_cwS 3 hts gX6_put_X6_in rfl rfl rfl (by decide +kernel) ⟨(Nat.le_trans (Nat.le_of_ble_eq_true rfl) hRf), (Nat.le_trans (Nat.le_of_ble_eq_true rfl) hRl)⟩) rfl hl.1 rfl (Nat.le_of_ble_eq_true rfl) dX6_put_34 (fun H locs hP hS => ?_)
      refine lv_if_ne (tgt := 46) hx hb dX6_put_37 (by decide) (fun c_5 => ?_) (fun c_5 => ?_)
      · rw [if_neg c_5] at hf
        refine lv_aload_n hx hb dX6_put_46 rfl (lv_at hl 0 rfl) ?_
        refine r_get hx hb hts hown hC hP hinX6 55 (by decide) (ci := 5) rfl (by decide) rfl 9 (by decide) (hts (.fieldLink RX6 29 "LoafPartsModel" "bytes" "[B") (by decide +kernel)) (v := .ref (aD g 61)) rfl dX6_put_47 ?_
        refine lv_bipush (v := (60 : Int32)) hx hb dX6_put_50 (by decide) ?_
        refine lv_iload_n hx hb dX6_put_52 rfl (lv_at hl 1 rfl) ?_
        refine lv_imul hx hb dX6_put_53 ?_
        refine lv_iload_n hx hb dX6_put_54 rfl (lv_at hl 2 rfl) ?_
        refine lv_iadd hx hb dX6_put_55 ?_
        obtain ⟨hi_6, hf⟩ := ix_ex hf
        refine r_bald hx hb hC hP 61 (by decide) rfl hi_6 dX6_put_56 ?_
        obtain ⟨x4_7, ex4_7, hf⟩ := lt_ex hf
        refine r_nm ex4_7 ?_
        refine lv_istore (lv' := [(4, .int x4_7), (0, .ref (aD g 55)), (1, .int x1), (2, .int x2), (3, .int x3)]) hx hb dX6_put_57 hl (by decide) rfl (fun ls hl => ?_)
        refine lv_aload_n hx hb dX6_put_59 rfl (lv_at hl 1 rfl) ?_
        refine r_get hx hb hts hown hC hP hinX6 55 (by decide) (ci := 5) rfl (by decide) rfl 9 (by decide) (hts (.fieldLink RX6 29 "LoafPartsModel" "bytes" "[B") (by decide +kernel)) (v := .ref (aD g 61)) rfl dX6_put_60 ?_
        refine lv_bipush (v := (60 : Int32)) hx hb dX6_put_63 (by decide) ?_
        refine lv_iload_n hx hb dX6_put_65 rfl (lv_at hl 2 rfl) ?_
        refine lv_imul hx hb dX6_put_66 ?_
        refine lv_iload_n hx hb dX6_put_67 rfl (lv_at hl 3 rfl) ?_
        refine lv_iadd hx hb dX6_put_68 ?_
        refine lv_iload_n hx hb dX6_put_69 rfl (lv_at hl 4 rfl) ?_
        refine lv_i2b hx hb dX6_put_70 rfl ?_
        obtain ⟨hi_8, hf⟩ := ix_ex hf
        obtain ⟨u_9, eu_9, hf⟩ := lt_ex hf
        refine r_bast hx hb hC hP hS 61 (by decide) rfl hi_8 eu_9 dX6_put_71 (fun H locs hP hS => ?_)
        refine lv_sipush (v := (1000 : Int32)) hx hb dX6_put_72 (by decide) ?_
        refine lv_iload hx hb dX6_put_75 (lv_at hl 0 rfl) ?_
        refine lv_iadd hx hb dX6_put_77 ?_
        obtain ⟨rfl, rfl⟩ := sp2 hf
        exact kret _ _ _ _ dX6_put_78 hP hS trivial
      rw [if_pos c_5] at hf
      refine lv_aload_n hx hb dX6_put_40 rfl (lv_at hl 0 rfl) ?_
      refine lv_iconst (v := (2 : Int32)) hx hb dX6_put_41 (by decide) ?_
      obtain ⟨q_10, hq_10, hf⟩ := bind_ex hf
      refine r_Vi (r := q_10.1) (u' := q_10.2) (As := [.int (2 : Int32)]) (rest := []) (k := 55) (ci := 5) ⟨hx, hb, hml, hown, hts⟩ hC hP hS (by decide) rfl (by decide) rfl (c_X6_meets l g u (2 : Int32) hq_10) (cwV 1 hts gX6_put_X6_meets rfl rfl rfl (by decide +kernel) ⟨(Nat.le_trans (Nat.le_of_ble_eq_true rfl) hRf), (Nat.le_trans (Nat.le_of_ble_eq_true rfl) hRl)⟩) rfl hl.1 rfl (Nat.le_of_ble_eq_true rfl) dX6_put_42 (fun H locs hP hS => ?_)
      obtain ⟨rfl, rfl⟩ := sp2 hf
      exact kret _ _ _ _ dX6_put_45 hP hS trivial
    rw [if_neg c_3] at hf
    refine lv_aload_n hx hb dX6_put_18 rfl (lv_at hl 0 rfl) ?_
    refine lv_iconst (v := (1 : Int32)) hx hb dX6_put_19 (by decide) ?_
    obtain ⟨q_11, hq_11, hf⟩ := bind_ex hf
    refine r_Vi (r := q_11.1) (u' := q_11.2) (As := [.int (1 : Int32)]) (rest := []) (k := 55) (ci := 5) ⟨hx, hb, hml, hown, hts⟩ hC hP hS (by decide) rfl (by decide) rfl (c_X6_meets l g u (1 : Int32) hq_11) (cwV 1 hts gX6_put_X6_meets rfl rfl rfl (by decide +kernel) ⟨(Nat.le_trans (Nat.le_of_ble_eq_true rfl) hRf), (Nat.le_trans (Nat.le_of_ble_eq_true rfl) hRl)⟩) rfl hl.1 rfl (Nat.le_of_ble_eq_true rfl) dX6_put_20 (fun H locs hP hS => ?_)
    obtain ⟨rfl, rfl⟩ := sp2 hf
    exact kret _ _ _ _ dX6_put_23 hP hS trivial
  rw [if_pos c_1] at hf
  refine lv_iconst (v := (-1 : Int32)) hx hb dX6_put_7 (by decide) ?_
  obtain ⟨rfl, rfl⟩ := sp2 hf
  exact kret _ _ _ _ dX6_put_8 hP hS trivial
set_option maxHeartbeats 4000000 in
set_option maxRecDepth 100000 in
theorem c_X6_letterAt (l : Launch) (g : GG) (u : UU) (x1 : Int32) (x2 : Int32) {r : Int32} (hf : f_X6_letterAt x1 x2 u = some r) : Ci l g 55 20 yX6_letterAt wsX6_letterAt 0 0 [.ref (aD g 55), .int x1, .int x2] u r u := by
  refine ct_i (cc := cX6_letterAt) (maxL := 3) (by decide) rfl (Nat.le_of_ble_eq_true rfl) ?_
  intro p e s m args below meth c R Q ls hx hb hml hown hts hC hP hl hRf hRl kret hS
  have hown : s.vm.findClass RX6 = some m.cls := hown
  have hl : lv_has ls 3 [(0, .ref (aD g 55)), (1, .int x1), (2, .int x2)] := hl
  have hinX6 : ∀ w ∈ u_ws RX6 TX6 34, w ∈ wsX6_letterAt := by decide +kernel
  unfold f_X6_letterAt at hf
  refine lv_iload_n hx hb dX6_letterAt_0 rfl (lv_at hl 2 rfl) ?_
  refine lv_aload_n hx hb dX6_letterAt_1 rfl (lv_at hl 0 rfl) ?_
  refine r_get hx hb hts hown hC hP hinX6 55 (by decide) (ci := 5) rfl (by decide) rfl 8 (by decide) (hts (.fieldLink RX6 26 "LoafPartsModel" "textSizes" "[I") (by decide +kernel)) (v := .ref (aD g 60)) rfl dX6_letterAt_2 ?_
  refine lv_iload_n hx hb dX6_letterAt_5 rfl (lv_at hl 1 rfl) ?_
  obtain ⟨hi_1, hf⟩ := ix_ex hf
  refine r_ald hx hb hC hP 60 (by decide) rfl hi_1 dX6_letterAt_6 ?_
  refine lv_icmp_ge (tgt := 24) hx hb dX6_letterAt_7 (by decide) (fun c_2 => ?_) (fun c_2 => ?_)
  · rw [if_pos c_2] at hf
    refine lv_iconst (v := (0 : Int32)) hx hb dX6_letterAt_24 (by decide) ?_
    obtain rfl := sp1 hf
    exact kret _ _ _ _ dX6_letterAt_25 hP hS trivial
  rw [if_neg c_2] at hf
  refine lv_aload_n hx hb dX6_letterAt_10 rfl (lv_at hl 0 rfl) ?_
  refine r_get hx hb hts hown hC hP hinX6 55 (by decide) (ci := 5) rfl (by decide) rfl 9 (by decide) (hts (.fieldLink RX6 29 "LoafPartsModel" "bytes" "[B") (by decide +kernel)) (v := .ref (aD g 61)) rfl dX6_letterAt_11 ?_
  refine lv_bipush (v := (60 : Int32)) hx hb dX6_letterAt_14 (by decide) ?_
  refine lv_iload_n hx hb dX6_letterAt_16 rfl (lv_at hl 1 rfl) ?_
  refine lv_imul hx hb dX6_letterAt_17 ?_
  refine lv_iload_n hx hb dX6_letterAt_18 rfl (lv_at hl 2 rfl) ?_
  refine lv_iadd hx hb dX6_letterAt_19 ?_
  obtain ⟨hi_3, hf⟩ := ix_ex hf
  refine r_bald hx hb hC hP 61 (by decide) rfl hi_3 dX6_letterAt_20 ?_
  refine lv_goto (tgt := 25) hx hb dX6_letterAt_21 (by decide) ?_
  obtain rfl := sp1 hf
  exact kret _ _ _ _ dX6_letterAt_25 hP hS trivial
set_option maxHeartbeats 4000000 in
set_option maxRecDepth 100000 in
theorem c_X6_kindOf (l : Launch) (g : GG) (u : UU) (x0 : Int32) {r : Int32} (hf : f_X6_kindOf x0 = r) : Ci l g 55 20 yX6_kindOf wsX6_kindOf 0 0 [.int x0] u r u := by
  refine ct_i (cc := cX6_kindOf) (maxL := 1) (by decide) rfl (Nat.le_of_ble_eq_true rfl) ?_
  intro p e s m args below meth c R Q ls hx hb hml hown hts hC hP hl hRf hRl kret hS
  have hown : s.vm.findClass RX6 = some m.cls := hown
  have hl : lv_has ls 1 [(0, .int x0)] := hl
  unfold f_X6_kindOf at hf
  refine lv_iload_n hx hb dX6_kindOf_0 rfl (lv_at hl 0 rfl) ?_
  by_cases s_1 : x0 = (99 : Int32)
  · rw [if_pos s_1] at hf
    refine lv_lookup (off := 67) (tgt := 68) hx hb dX6_kindOf_1 (by decide) (by rw [s_1]; decide) (by decide) ?_
    refine lv_iconst (v := (4 : Int32)) hx hb dX6_kindOf_68 (by decide) ?_
    obtain rfl := hf
    exact kret _ _ _ _ dX6_kindOf_69 hP hS trivial
  rw [if_neg s_1] at hf
  by_cases s_2 : x0 = (101 : Int32)
  · rw [if_pos s_2] at hf
    refine lv_lookup (off := 61) (tgt := 62) hx hb dX6_kindOf_1 (by decide) (by rw [s_2]; decide) (by decide) ?_
    refine lv_iconst (v := (1 : Int32)) hx hb dX6_kindOf_62 (by decide) ?_
    obtain rfl := hf
    exact kret _ _ _ _ dX6_kindOf_63 hP hS trivial
  rw [if_neg s_2] at hf
  by_cases s_3 : x0 = (109 : Int32)
  · rw [if_pos s_3] at hf
    refine lv_lookup (off := 69) (tgt := 70) hx hb dX6_kindOf_1 (by decide) (by rw [s_3]; decide) (by decide) ?_
    refine lv_iconst (v := (5 : Int32)) hx hb dX6_kindOf_70 (by decide) ?_
    obtain rfl := hf
    exact kret _ _ _ _ dX6_kindOf_71 hP hS trivial
  rw [if_neg s_3] at hf
  by_cases s_4 : x0 = (111 : Int32)
  · rw [if_pos s_4] at hf
    refine lv_lookup (off := 63) (tgt := 64) hx hb dX6_kindOf_1 (by decide) (by rw [s_4]; decide) (by decide) ?_
    refine lv_iconst (v := (2 : Int32)) hx hb dX6_kindOf_64 (by decide) ?_
    obtain rfl := hf
    exact kret _ _ _ _ dX6_kindOf_65 hP hS trivial
  rw [if_neg s_4] at hf
  by_cases s_5 : x0 = (115 : Int32)
  · rw [if_pos s_5] at hf
    refine lv_lookup (off := 65) (tgt := 66) hx hb dX6_kindOf_1 (by decide) (by rw [s_5]; decide) (by decide) ?_
    refine lv_iconst (v := (3 : Int32)) hx hb dX6_kindOf_66 (by decide) ?_
    obtain rfl := hf
    exact kret _ _ _ _ dX6_kindOf_67 hP hS trivial
  rw [if_neg s_5] at hf
  by_cases s_6 : x0 = (119 : Int32)
  · rw [if_pos s_6] at hf
    refine lv_lookup (off := 59) (tgt := 60) hx hb dX6_kindOf_1 (by decide) (by rw [s_6]; decide) (by decide) ?_
    refine lv_iconst (v := (0 : Int32)) hx hb dX6_kindOf_60 (by decide) ?_
    obtain rfl := hf
    exact kret _ _ _ _ dX6_kindOf_61 hP hS trivial
  rw [if_neg s_6] at hf
  refine lv_lookup (off := 71) (tgt := 72) hx hb dX6_kindOf_1 (by decide) (show Op.lookupswitch.offset [(99, 67), (101, 61), (109, 69), (111, 63), (115, 65), (119, 59)] (71) _ = _ from by rw [lv_osw (a := 99) s_1 rfl, lv_osw (a := 101) s_2 rfl, lv_osw (a := 109) s_3 rfl, lv_osw (a := 111) s_4 rfl, lv_osw (a := 115) s_5 rfl, lv_osw (a := 119) s_6 rfl]; rfl) (by decide) ?_
  refine lv_bipush (v := (-9 : Int32)) hx hb dX6_kindOf_72 (by decide) ?_
  obtain rfl := hf
  exact kret _ _ _ _ dX6_kindOf_74 hP hS trivial
set_option maxHeartbeats 4000000 in
set_option maxRecDepth 100000 in
theorem c_X6_reads (l : Launch) (g : GG) (u : UU) (x1 : Int32) (x2 : Int32) {r : Int32} {u' : UU} (hf : f_X6_reads x1 x2 u = some (r, u')) : Ci l g 55 20 yX6_reads wsX6_reads 1 22 [.ref (aD g 55), .int x1, .int x2] u r u' := by
  refine ct_i (cc := cX6_reads) (maxL := 4) (by decide) rfl (Nat.le_of_ble_eq_true rfl) ?_
  intro p e s m args below meth c R Q ls hx hb hml hown hts hC hP hl hRf hRl kret hS
  have hown : s.vm.findClass RX6 = some m.cls := hown
  have hl : lv_has ls 4 [(0, .ref (aD g 55)), (1, .int x1), (2, .int x2)] := hl
  have hinX6 : ∀ w ∈ u_ws RX6 TX6 34, w ∈ wsX6_reads := by decide +kernel
  unfold f_X6_reads at hf
  refine lv_aload_n hx hb dX6_reads_0 rfl (lv_at hl 0 rfl) ?_
  refine lv_iload_n hx hb dX6_reads_1 rfl (lv_at hl 1 rfl) ?_
  refine lv_aload_n hx hb dX6_reads_2 rfl (lv_at hl 0 rfl) ?_
  refine r_get hx hb hts hown hC hP hinX6 55 (by decide) (ci := 5) rfl (by decide) rfl 10 (by decide) (hts (.fieldLink RX6 105 "LoafPartsModel" "readAt" "I") (by decide +kernel)) (v := .int (ui u 55 10)) rfl dX6_reads_3 ?_
  obtain ⟨q_1, hq_1, hf⟩ := bind_ex hf
  refine r_Vi (As := [.int x1, .int (ui u 55 10)]) (rest := []) (k := 55) (ci := 5) ⟨hx, hb, hml, hown, hts⟩ hC hP hS (by decide) rfl (by decide) rfl (c_X6_letterAt l g u x1 (ui u 55 10) hq_1) (cwV 2 hts gX6_reads_X6_letterAt rfl rfl rfl (by decide +kernel) ⟨(Nat.le_trans (Nat.le_of_ble_eq_true rfl) hRf), (Nat.le_trans (Nat.le_of_ble_eq_true rfl) hRl)⟩) rfl hl.1 rfl (Nat.le_of_ble_eq_true rfl) dX6_reads_6 (fun H locs hP hS => ?_)
  refine lv_bipush (v := (48 : Int32)) hx hb dX6_reads_9 (by decide) ?_
  refine lv_isub hx hb dX6_reads_11 ?_
  obtain ⟨x3_2, ex3_2, hf⟩ := lt_ex hf
  refine r_nm ex3_2 ?_
  refine lv_istore_n (lv' := [(3, .int x3_2), (0, .ref (aD g 55)), (1, .int x1), (2, .int x2)]) hx hb dX6_reads_12 rfl hl (by decide) rfl (fun ls hl => ?_)
  refine lv_iload_n hx hb dX6_reads_13 rfl (lv_at hl 0 rfl) ?_
  refine lv_iload_n hx hb dX6_reads_14 rfl (lv_at hl 3 rfl) ?_
  refine lv_bipush (v := (9 : Int32)) hx hb dX6_reads_15 (by decide) ?_
  refine r_Si (As := [.int x3_2, .int x2, .int (9 : Int32)]) (rest := []) ⟨hx, hb, hml, hown, hts⟩ hC hP hS (c_X6_in l g u x3_2 x2 (9 : Int32) rfl) (va_cwS 3 hts gX6_reads_X6_in rfl rfl rfl (by decide +kernel) ⟨(Nat.le_trans (Nat.le_of_ble_eq_true rfl) hRf), (Nat.le_trans (Nat.le_of_ble_eq_true rfl) hRl)⟩) rfl hl.1 rfl (Nat.le_of_ble_eq_true rfl) dX6_reads_17 (fun H locs hP hS => ?_)
  refine lv_if_ne (tgt := 26) hx hb dX6_reads_20 (by decide) (fun c_3 => ?_) (fun c_3 => ?_)
  · rw [if_neg c_3] at hf
    refine lv_aload_n hx hb dX6_reads_26 rfl (lv_at hl 1 rfl) ?_
    refine lv_dup hx hb dX6_reads_27 rfl ?_
    refine r_get hx hb hts hown hC hP hinX6 55 (by decide) (ci := 5) rfl (by decide) rfl 10 (by decide) (hts (.fieldLink RX6 105 "LoafPartsModel" "readAt" "I") (by decide +kernel)) (v := .int (ui u 55 10)) rfl dX6_reads_28 ?_
    refine lv_iconst (v := (1 : Int32)) hx hb dX6_reads_31 (by decide) ?_
    refine lv_iadd hx hb dX6_reads_32 ?_
    obtain ⟨u_4, eu_4, hf⟩ := lt_ex hf
    refine r_puti hx hb hts hown hC hP hS hinX6 tyX6 tyX6_ok nmX6 55 (by decide) (ci := 5) rfl (by decide) rfl 10 (by decide) (hts (.fieldLink RX6 105 "LoafPartsModel" "readAt" "I") (by decide +kernel)) rfl (ty := .int) (by decide +kernel) rfl rfl (by decide) (by decide) eu_4 dX6_reads_33 (fun H locs hP hS => ?_)
    refine lv_iload_n hx hb dX6_reads_36 rfl (lv_at hl 0 rfl) ?_
    obtain ⟨rfl, rfl⟩ := sp2 hf
    exact kret _ _ _ _ dX6_reads_37 hP hS trivial
  rw [if_pos c_3] at hf
  refine lv_bipush (v := (-9 : Int32)) hx hb dX6_reads_23 (by decide) ?_
  obtain ⟨rfl, rfl⟩ := sp2 hf
  exact kret _ _ _ _ dX6_reads_25 hP hS trivial
set_option maxHeartbeats 4000000 in
set_option maxRecDepth 100000 in
theorem c_X6_readsLoaves (l : Launch) (g : GG) (u : UU) (x1 : Int32) {r : Int32} {u' : UU} (hf : f_X6_readsLoaves x1 u = some (r, u')) : Ci l g 55 20 yX6_readsLoaves wsX6_readsLoaves 2 45 [.ref (aD g 55), .int x1] u r u' := by
  refine ct_z (cc := cX6_readsLoaves) (maxL := 4) (by decide) rfl (Nat.le_of_ble_eq_true rfl) ?_
  intro p e s m args below meth c R Q ls hx hb hml hown hts hC hP hl hRf hRl kret hS
  have hown : s.vm.findClass RX6 = some m.cls := hown
  have hl : lv_has ls 4 [(0, .ref (aD g 55)), (1, .int x1)] := hl
  have hinX6 : ∀ w ∈ u_ws RX6 TX6 34, w ∈ wsX6_readsLoaves := by decide +kernel
  have w_47 : ∀ (t0 : Int32) (u : UU) (H : Heap) (locs : List Loc) (ls : Array Slot), Ps g 55 20 u H → va_S (aA g) s.heap H locs → lv_has ls 4 [(0, .ref (aD g 55))] → f_X6_readsLoaves_47 t0 u = some (r, u') → W p l e R s m args below meth c H locs 0 0 Q (F0 m 47 ls [.int t0, .ref (aD g 55)]) := by
    intro t0 u H locs ls hP hS hl hf
    unfold f_X6_readsLoaves_47 at hf
    obtain ⟨hz_6, hf⟩ := bz_ex hf
    obtain ⟨u_7, eu_7, hf⟩ := lt_ex hf
    refine r_puti hx hb hts hown hC hP hS hinX6 tyX6 tyX6_ok nmX6 55 (by decide) (ci := 5) rfl (by decide) rfl 13 (by decide) (hts (.fieldLink RX6 117 "LoafPartsModel" "isBegun" "Z") (by decide +kernel)) rfl (ty := .boolean) (by decide +kernel) hz_6.1 hz_6.2 (by decide) (by decide) eu_7 dX6_readsLoaves_47 (fun H locs hP hS => ?_)
    refine lv_aload_n hx hb dX6_readsLoaves_50 rfl (lv_at hl 0 rfl) ?_
    refine r_get hx hb hts hown hC hP hinX6 55 (by decide) (ci := 5) rfl (by decide) rfl 13 (by decide) (hts (.fieldLink RX6 117 "LoafPartsModel" "isBegun" "Z") (by decide +kernel)) (v := .int (ui u_7 55 13)) rfl dX6_readsLoaves_51 ?_
    obtain ⟨hz_8, hf⟩ := bz_ex hf
    obtain ⟨rfl, rfl⟩ := sp2 hf
    exact kret _ _ _ _ dX6_readsLoaves_54 hP hS hz_8.1
  have w_24 : ∀ (x2 : Int32) (t0 : Int32) (u : UU) (H : Heap) (locs : List Loc) (ls : Array Slot), Ps g 55 20 u H → va_S (aA g) s.heap H locs → lv_has ls 4 [(0, .ref (aD g 55)), (2, .int x2)] → f_X6_readsLoaves_24 x2 t0 u = some (r, u') → W p l e R s m args below meth c H locs 0 0 Q (F0 m 24 ls [.int t0]) := by
    intro x2 t0 u H locs ls hP hS hl hf
    unfold f_X6_readsLoaves_24 at hf
    refine lv_istore_n (lv' := [(3, .int t0), (0, .ref (aD g 55)), (2, .int x2)]) hx hb dX6_readsLoaves_24 rfl hl (by decide) rfl (fun ls hl => ?_)
    refine lv_aload_n hx hb dX6_readsLoaves_25 rfl (lv_at hl 1 rfl) ?_
    refine lv_bipush (v := (10 : Int32)) hx hb dX6_readsLoaves_26 (by decide) ?_
    refine lv_iload_n hx hb dX6_readsLoaves_28 rfl (lv_at hl 2 rfl) ?_
    refine lv_imul hx hb dX6_readsLoaves_29 ?_
    refine lv_iload_n hx hb dX6_readsLoaves_30 rfl (lv_at hl 0 rfl) ?_
    refine lv_iadd hx hb dX6_readsLoaves_31 ?_
    obtain ⟨u_4, eu_4, hf⟩ := lt_ex hf
    refine r_puti hx hb hts hown hC hP hS hinX6 tyX6 tyX6_ok nmX6 55 (by decide) (ci := 5) rfl (by decide) rfl 12 (by decide) (hts (.fieldLink RX6 114 "LoafPartsModel" "readLoaves" "I") (by decide +kernel)) rfl (ty := .int) (by decide +kernel) rfl rfl (by decide) (by decide) eu_4 dX6_readsLoaves_32 (fun H locs hP hS => ?_)
    refine lv_aload_n hx hb dX6_readsLoaves_35 rfl (lv_at hl 1 rfl) ?_
    refine lv_iload_n hx hb dX6_readsLoaves_36 rfl (lv_at hl 0 rfl) ?_
    refine lv_bipush (v := (-9 : Int32)) hx hb dX6_readsLoaves_37 (by decide) ?_
    refine lv_icmp_eq (tgt := 46) hx hb dX6_readsLoaves_39 (by decide) (fun c_5 => ?_) (fun c_5 => ?_)
    · rw [if_pos c_5] at hf
      refine lv_iconst (v := (0 : Int32)) hx hb dX6_readsLoaves_46 (by decide) ?_
      exact w_47 (0 : Int32) u_4 _ _ _ hP hS (lv_sub hl [1] rfl) hf
    rw [if_neg c_5] at hf
    refine lv_iconst (v := (1 : Int32)) hx hb dX6_readsLoaves_42 (by decide) ?_
    refine lv_goto (tgt := 47) hx hb dX6_readsLoaves_43 (by decide) ?_
    exact w_47 (1 : Int32) u_4 _ _ _ hP hS (lv_sub hl [1] rfl) hf
  unfold f_X6_readsLoaves at hf
  refine lv_aload_n hx hb dX6_readsLoaves_0 rfl (lv_at hl 0 rfl) ?_
  refine lv_iload_n hx hb dX6_readsLoaves_1 rfl (lv_at hl 1 rfl) ?_
  refine lv_iconst (v := (0 : Int32)) hx hb dX6_readsLoaves_2 (by decide) ?_
  obtain ⟨q_1, hq_1, hf⟩ := bind_ex hf
  refine r_Vi (r := q_1.1) (u' := q_1.2) (As := [.int x1, .int (0 : Int32)]) (rest := []) (k := 55) (ci := 5) ⟨hx, hb, hml, hown, hts⟩ hC hP hS (by decide) rfl (by decide) rfl (c_X6_reads l g u x1 (0 : Int32) hq_1) (cwV 2 hts gX6_readsLoaves_X6_reads rfl rfl rfl (by decide +kernel) ⟨(Nat.le_trans (Nat.le_of_ble_eq_true rfl) hRf), (Nat.le_trans (Nat.le_of_ble_eq_true rfl) hRl)⟩) rfl hl.1 rfl (Nat.le_of_ble_eq_true rfl) dX6_readsLoaves_3 (fun H locs hP hS => ?_)
  refine lv_istore_n (lv' := [(2, .int q_1.1), (0, .ref (aD g 55)), (1, .int x1)]) hx hb dX6_readsLoaves_6 rfl hl (by decide) rfl (fun ls hl => ?_)
  refine lv_iload_n hx hb dX6_readsLoaves_7 rfl (lv_at hl 0 rfl) ?_
  refine lv_bipush (v := (-9 : Int32)) hx hb dX6_readsLoaves_8 (by decide) ?_
  refine lv_icmp_ne (tgt := 18) hx hb dX6_readsLoaves_10 (by decide) (fun c_2 => ?_) (fun c_2 => ?_)
  · rw [if_neg c_2] at hf
    refine lv_aload_n hx hb dX6_readsLoaves_18 rfl (lv_at hl 1 rfl) ?_
    refine lv_iload_n hx hb dX6_readsLoaves_19 rfl (lv_at hl 2 rfl) ?_
    refine lv_iconst (v := (0 : Int32)) hx hb dX6_readsLoaves_20 (by decide) ?_
    obtain ⟨q_3, hq_3, hf⟩ := bind_ex hf
    refine r_Vi (r := q_3.1) (u' := q_3.2) (As := [.int x1, .int (0 : Int32)]) (rest := []) (k := 55) (ci := 5) ⟨hx, hb, hml, hown, hts⟩ hC hP hS (by decide) rfl (by decide) rfl (c_X6_reads l g q_1.2 x1 (0 : Int32) hq_3) (cwV 2 hts gX6_readsLoaves_X6_reads rfl rfl rfl (by decide +kernel) ⟨(Nat.le_trans (Nat.le_of_ble_eq_true rfl) hRf), (Nat.le_trans (Nat.le_of_ble_eq_true rfl) hRl)⟩) rfl hl.1 rfl (Nat.le_of_ble_eq_true rfl) dX6_readsLoaves_21 (fun H locs hP hS => ?_)
    exact w_24 q_1.1 q_3.1 q_3.2 _ _ _ hP hS (lv_sub hl [1, 0] rfl) hf
  rw [if_pos c_2] at hf
  refine lv_bipush (v := (-9 : Int32)) hx hb dX6_readsLoaves_13 (by decide) ?_
  refine lv_goto (tgt := 24) hx hb dX6_readsLoaves_15 (by decide) ?_
  exact w_24 q_1.1 (-9 : Int32) q_1.2 _ _ _ hP hS (lv_sub hl [1, 0] rfl) hf
set_option maxHeartbeats 4000000 in
set_option maxRecDepth 100000 in
theorem c_X6_readsWorker (l : Launch) (g : GG) (u : UU) (x1 : Int32) {r : Int32} {u' : UU} (hf : f_X6_readsWorker x1 u = some (r, u')) : Ci l g 55 20 yX6_readsWorker wsX6_readsWorker 2 45 [.ref (aD g 55), .int x1] u r u' := by
  refine ct_z (cc := cX6_readsWorker) (maxL := 5) (by decide) rfl (Nat.le_of_ble_eq_true rfl) ?_
  intro p e s m args below meth c R Q ls hx hb hml hown hts hC hP hl hRf hRl kret hS
  have hown : s.vm.findClass RX6 = some m.cls := hown
  have hl : lv_has ls 5 [(0, .ref (aD g 55)), (1, .int x1)] := hl
  have hinX6 : ∀ w ∈ u_ws RX6 TX6 34, w ∈ wsX6_readsWorker := by decide +kernel
  have w_64 : ∀ (x2 : Int32) (x3 : Int32) (t0 : Int32) (u : UU) (H : Heap) (locs : List Loc) (ls : Array Slot), Ps g 55 20 u H → va_S (aA g) s.heap H locs → lv_has ls 5 [(0, .ref (aD g 55)), (2, .int x2), (3, .int x3)] → f_X6_readsWorker_64 x2 x3 t0 u = some (r, u') → W p l e R s m args below meth c H locs 0 0 Q (F0 m 64 ls [.int t0]) := by
    intro x2 x3 t0 u H locs ls hP hS hl hf
    unfold f_X6_readsWorker_64 at hf
    refine lv_istore (lv' := [(4, .int t0), (0, .ref (aD g 55)), (2, .int x2), (3, .int x3)]) hx hb dX6_readsWorker_64 hl (by decide) rfl (fun ls hl => ?_)
    refine lv_iload hx hb dX6_readsWorker_66 (lv_at hl 0 rfl) ?_
    refine lv_bipush (v := (-9 : Int32)) hx hb dX6_readsWorker_68 (by decide) ?_
    refine lv_icmp_ne (tgt := 75) hx hb dX6_readsWorker_70 (by decide) (fun c_9 => ?_) (fun c_9 => ?_)
    · rw [if_neg c_9] at hf
      refine lv_aload_n hx hb dX6_readsWorker_75 rfl (lv_at hl 1 rfl) ?_
      refine r_get hx hb hts hown hC hP hinX6 55 (by decide) (ci := 5) rfl (by decide) rfl 14 (by decide) (hts (.fieldLink RX6 33 "LoafPartsModel" "readKind" "[I") (by decide +kernel)) (v := .ref (aD g 62)) rfl dX6_readsWorker_76 ?_
      refine lv_aload_n hx hb dX6_readsWorker_79 rfl (lv_at hl 1 rfl) ?_
      refine r_get hx hb hts hown hC hP hinX6 55 (by decide) (ci := 5) rfl (by decide) rfl 11 (by decide) (hts (.fieldLink RX6 124 "LoafPartsModel" "readMany" "I") (by decide +kernel)) (v := .int (ui u 55 11)) rfl dX6_readsWorker_80 ?_
      refine lv_iload_n hx hb dX6_readsWorker_83 rfl (lv_at hl 2 rfl) ?_
      obtain ⟨hi_10, hf⟩ := ix_ex hf
      obtain ⟨u_11, eu_11, hf⟩ := lt_ex hf
      refine r_ast hx hb hC hP hS 62 (by decide) rfl hi_10 eu_11 dX6_readsWorker_84 (fun H locs hP hS => ?_)
      refine lv_aload_n hx hb dX6_readsWorker_85 rfl (lv_at hl 1 rfl) ?_
      refine r_get hx hb hts hown hC hP hinX6 55 (by decide) (ci := 5) rfl (by decide) rfl 15 (by decide) (hts (.fieldLink RX6 36 "LoafPartsModel" "readUp" "[I") (by decide +kernel)) (v := .ref (aD g 63)) rfl dX6_readsWorker_86 ?_
      refine lv_aload_n hx hb dX6_readsWorker_89 rfl (lv_at hl 1 rfl) ?_
      refine r_get hx hb hts hown hC hP hinX6 55 (by decide) (ci := 5) rfl (by decide) rfl 11 (by decide) (hts (.fieldLink RX6 124 "LoafPartsModel" "readMany" "I") (by decide +kernel)) (v := .int (ui u_11 55 11)) rfl dX6_readsWorker_90 ?_
      refine lv_iload_n hx hb dX6_readsWorker_93 rfl (lv_at hl 3 rfl) ?_
      obtain ⟨hi_12, hf⟩ := ix_ex hf
      obtain ⟨u_13, eu_13, hf⟩ := lt_ex hf
      refine r_ast hx hb hC hP hS 63 (by decide) rfl hi_12 eu_13 dX6_readsWorker_94 (fun H locs hP hS => ?_)
      refine lv_aload_n hx hb dX6_readsWorker_95 rfl (lv_at hl 1 rfl) ?_
      refine r_get hx hb hts hown hC hP hinX6 55 (by decide) (ci := 5) rfl (by decide) rfl 16 (by decide) (hts (.fieldLink RX6 39 "LoafPartsModel" "readLow" "[I") (by decide +kernel)) (v := .ref (aD g 64)) rfl dX6_readsWorker_96 ?_
      refine lv_aload_n hx hb dX6_readsWorker_99 rfl (lv_at hl 1 rfl) ?_
      refine r_get hx hb hts hown hC hP hinX6 55 (by decide) (ci := 5) rfl (by decide) rfl 11 (by decide) (hts (.fieldLink RX6 124 "LoafPartsModel" "readMany" "I") (by decide +kernel)) (v := .int (ui u_13 55 11)) rfl dX6_readsWorker_100 ?_
      refine lv_iload hx hb dX6_readsWorker_103 (lv_at hl 0 rfl) ?_
      obtain ⟨hi_14, hf⟩ := ix_ex hf
      obtain ⟨u_15, eu_15, hf⟩ := lt_ex hf
      refine r_ast hx hb hC hP hS 64 (by decide) rfl hi_14 eu_15 dX6_readsWorker_105 (fun H locs hP hS => ?_)
      refine lv_aload_n hx hb dX6_readsWorker_106 rfl (lv_at hl 1 rfl) ?_
      refine lv_dup hx hb dX6_readsWorker_107 rfl ?_
      refine r_get hx hb hts hown hC hP hinX6 55 (by decide) (ci := 5) rfl (by decide) rfl 11 (by decide) (hts (.fieldLink RX6 124 "LoafPartsModel" "readMany" "I") (by decide +kernel)) (v := .int (ui u_15 55 11)) rfl dX6_readsWorker_108 ?_
      refine lv_iconst (v := (1 : Int32)) hx hb dX6_readsWorker_111 (by decide) ?_
      refine lv_iadd hx hb dX6_readsWorker_112 ?_
      obtain ⟨u_16, eu_16, hf⟩ := lt_ex hf
      refine r_puti hx hb hts hown hC hP hS hinX6 tyX6 tyX6_ok nmX6 55 (by decide) (ci := 5) rfl (by decide) rfl 11 (by decide) (hts (.fieldLink RX6 124 "LoafPartsModel" "readMany" "I") (by decide +kernel)) rfl (ty := .int) (by decide +kernel) rfl rfl (by decide) (by decide) eu_16 dX6_readsWorker_113 (fun H locs hP hS => ?_)
      refine lv_iconst (v := (1 : Int32)) hx hb dX6_readsWorker_116 (by decide) ?_
      obtain ⟨rfl, rfl⟩ := sp2 hf
      exact kret _ _ _ _ dX6_readsWorker_117 hP hS rfl
    rw [if_pos c_9] at hf
    refine lv_iconst (v := (0 : Int32)) hx hb dX6_readsWorker_73 (by decide) ?_
    obtain ⟨rfl, rfl⟩ := sp2 hf
    exact kret _ _ _ _ dX6_readsWorker_74 hP hS rfl
  unfold f_X6_readsWorker at hf
  refine lv_aload_n hx hb dX6_readsWorker_0 rfl (lv_at hl 0 rfl) ?_
  refine lv_iload_n hx hb dX6_readsWorker_1 rfl (lv_at hl 1 rfl) ?_
  refine lv_aload_n hx hb dX6_readsWorker_2 rfl (lv_at hl 0 rfl) ?_
  refine r_get hx hb hts hown hC hP hinX6 55 (by decide) (ci := 5) rfl (by decide) rfl 10 (by decide) (hts (.fieldLink RX6 105 "LoafPartsModel" "readAt" "I") (by decide +kernel)) (v := .int (ui u 55 10)) rfl dX6_readsWorker_3 ?_
  obtain ⟨q_1, hq_1, hf⟩ := bind_ex hf
  refine r_Vi (As := [.int x1, .int (ui u 55 10)]) (rest := []) (k := 55) (ci := 5) ⟨hx, hb, hml, hown, hts⟩ hC hP hS (by decide) rfl (by decide) rfl (c_X6_letterAt l g u x1 (ui u 55 10) hq_1) (cwV 2 hts gX6_readsWorker_X6_letterAt rfl rfl rfl (by decide +kernel) ⟨(Nat.le_trans (Nat.le_of_ble_eq_true rfl) hRf), (Nat.le_trans (Nat.le_of_ble_eq_true rfl) hRl)⟩) rfl hl.1 rfl (Nat.le_of_ble_eq_true rfl) dX6_readsWorker_6 (fun H locs hP hS => ?_)
  refine r_Si (As := [.int q_1]) (rest := []) ⟨hx, hb, hml, hown, hts⟩ hC hP hS (c_X6_kindOf l g u q_1 rfl) (va_cwS 1 hts gX6_readsWorker_X6_kindOf rfl rfl rfl (by decide +kernel) ⟨(Nat.le_trans (Nat.le_of_ble_eq_true rfl) hRf), (Nat.le_trans (Nat.le_of_ble_eq_true rfl) hRl)⟩) rfl hl.1 rfl (Nat.le_of_ble_eq_true rfl) dX6_readsWorker_9 (fun H locs hP hS => ?_)
  obtain ⟨x2_2, ex2_2, hf⟩ := lt_ex hf
  refine r_nm ex2_2 ?_
  refine lv_istore_n (lv' := [(2, .int x2_2), (0, .ref (aD g 55)), (1, .int x1)]) hx hb dX6_readsWorker_12 rfl hl (by decide) rfl (fun ls hl => ?_)
  refine lv_iload_n hx hb dX6_readsWorker_13 rfl (lv_at hl 0 rfl) ?_
  refine lv_bipush (v := (-9 : Int32)) hx hb dX6_readsWorker_14 (by decide) ?_
  refine lv_icmp_eq (tgt := 28) hx hb dX6_readsWorker_16 (by decide) (fun c_3 => ?_) (fun c_3 => ?_)
  · rw [if_pos c_3] at hf
    refine lv_iconst (v := (0 : Int32)) hx hb dX6_readsWorker_28 (by decide) ?_
    obtain ⟨rfl, rfl⟩ := sp2 hf
    exact kret _ _ _ _ dX6_readsWorker_29 hP hS rfl
  rw [if_neg c_3] at hf
  refine lv_aload_n hx hb dX6_readsWorker_19 rfl (lv_at hl 1 rfl) ?_
  refine r_get hx hb hts hown hC hP hinX6 55 (by decide) (ci := 5) rfl (by decide) rfl 11 (by decide) (hts (.fieldLink RX6 124 "LoafPartsModel" "readMany" "I") (by decide +kernel)) (v := .int (ui u 55 11)) rfl dX6_readsWorker_20 ?_
  refine lv_bipush (v := (7 : Int32)) hx hb dX6_readsWorker_23 (by decide) ?_
  refine lv_icmp_ne (tgt := 30) hx hb dX6_readsWorker_25 (by decide) (fun c_4 => ?_) (fun c_4 => ?_)
  · rw [if_neg c_4] at hf
    refine lv_aload_n hx hb dX6_readsWorker_30 rfl (lv_at hl 1 rfl) ?_
    refine lv_dup hx hb dX6_readsWorker_31 rfl ?_
    refine r_get hx hb hts hown hC hP hinX6 55 (by decide) (ci := 5) rfl (by decide) rfl 10 (by decide) (hts (.fieldLink RX6 105 "LoafPartsModel" "readAt" "I") (by decide +kernel)) (v := .int (ui u 55 10)) rfl dX6_readsWorker_32 ?_
    refine lv_iconst (v := (1 : Int32)) hx hb dX6_readsWorker_35 (by decide) ?_
    refine lv_iadd hx hb dX6_readsWorker_36 ?_
    obtain ⟨u_5, eu_5, hf⟩ := lt_ex hf
    refine r_puti hx hb hts hown hC hP hS hinX6 tyX6 tyX6_ok nmX6 55 (by decide) (ci := 5) rfl (by decide) rfl 10 (by decide) (hts (.fieldLink RX6 105 "LoafPartsModel" "readAt" "I") (by decide +kernel)) rfl (ty := .int) (by decide +kernel) rfl rfl (by decide) (by decide) eu_5 dX6_readsWorker_37 (fun H locs hP hS => ?_)
    refine lv_aload_n hx hb dX6_readsWorker_40 rfl (lv_at hl 1 rfl) ?_
    refine lv_iload_n hx hb dX6_readsWorker_41 rfl (lv_at hl 2 rfl) ?_
    refine lv_iconst (v := (1 : Int32)) hx hb dX6_readsWorker_42 (by decide) ?_
    obtain ⟨q_6, hq_6, hf⟩ := bind_ex hf
    refine r_Vi (r := q_6.1) (u' := q_6.2) (As := [.int x1, .int (1 : Int32)]) (rest := []) (k := 55) (ci := 5) ⟨hx, hb, hml, hown, hts⟩ hC hP hS (by decide) rfl (by decide) rfl (c_X6_reads l g u_5 x1 (1 : Int32) hq_6) (cwV 2 hts gX6_readsWorker_X6_reads rfl rfl rfl (by decide +kernel) ⟨(Nat.le_trans (Nat.le_of_ble_eq_true rfl) hRf), (Nat.le_trans (Nat.le_of_ble_eq_true rfl) hRl)⟩) rfl hl.1 rfl (Nat.le_of_ble_eq_true rfl) dX6_readsWorker_43 (fun H locs hP hS => ?_)
    refine lv_istore_n (lv' := [(3, .int q_6.1), (2, .int x2_2), (0, .ref (aD g 55)), (1, .int x1)]) hx hb dX6_readsWorker_46 rfl hl (by decide) rfl (fun ls hl => ?_)
    refine lv_iload_n hx hb dX6_readsWorker_47 rfl (lv_at hl 0 rfl) ?_
    refine lv_bipush (v := (-9 : Int32)) hx hb dX6_readsWorker_48 (by decide) ?_
    refine lv_icmp_ne (tgt := 58) hx hb dX6_readsWorker_50 (by decide) (fun c_7 => ?_) (fun c_7 => ?_)
    · rw [if_neg c_7] at hf
      refine lv_aload_n hx hb dX6_readsWorker_58 rfl (lv_at hl 2 rfl) ?_
      refine lv_iload_n hx hb dX6_readsWorker_59 rfl (lv_at hl 3 rfl) ?_
      refine lv_iconst (v := (1 : Int32)) hx hb dX6_readsWorker_60 (by decide) ?_
      obtain ⟨q_8, hq_8, hf⟩ := bind_ex hf
      refine r_Vi (r := q_8.1) (u' := q_8.2) (As := [.int x1, .int (1 : Int32)]) (rest := []) (k := 55) (ci := 5) ⟨hx, hb, hml, hown, hts⟩ hC hP hS (by decide) rfl (by decide) rfl (c_X6_reads l g q_6.2 x1 (1 : Int32) hq_8) (cwV 2 hts gX6_readsWorker_X6_reads rfl rfl rfl (by decide +kernel) ⟨(Nat.le_trans (Nat.le_of_ble_eq_true rfl) hRf), (Nat.le_trans (Nat.le_of_ble_eq_true rfl) hRl)⟩) rfl hl.1 rfl (Nat.le_of_ble_eq_true rfl) dX6_readsWorker_61 (fun H locs hP hS => ?_)
      exact w_64 x2_2 q_6.1 q_8.1 q_8.2 _ _ _ hP hS (lv_sub hl [2, 1, 0] rfl) hf
    rw [if_pos c_7] at hf
    refine lv_bipush (v := (-9 : Int32)) hx hb dX6_readsWorker_53 (by decide) ?_
    refine lv_goto (tgt := 64) hx hb dX6_readsWorker_55 (by decide) ?_
    exact w_64 x2_2 q_6.1 (-9 : Int32) q_6.2 _ _ _ hP hS (lv_sub hl [2, 1, 0] rfl) hf
  rw [if_pos c_4] at hf
  refine lv_iconst (v := (0 : Int32)) hx hb dX6_readsWorker_28 (by decide) ?_
  obtain ⟨rfl, rfl⟩ := sp2 hf
  exact kret _ _ _ _ dX6_readsWorker_29 hP hS rfl
set_option maxHeartbeats 4000000 in
set_option maxRecDepth 100000 in
theorem c_X6_faultOf (l : Launch) (g : GG) (u : UU) (x1 : Int32) {r : Int32} {u' : UU} (hf : f_X6_faultOf x1 u = some (r, u')) : Ci l g 55 20 yX6_faultOf wsX6_faultOf 3 69 [.ref (aD g 55), .int x1] u r u' := by
  refine ct_i (cc := cX6_faultOf) (maxL := 2) (by decide) rfl (Nat.le_of_ble_eq_true rfl) ?_
  intro p e s m args below meth c R Q ls hx hb hml hown hts hC hP hl hRf hRl kret hS
  have hown : s.vm.findClass RX6 = some m.cls := hown
  have hl : lv_has ls 2 [(0, .ref (aD g 55)), (1, .int x1)] := hl
  have hinX6 : ∀ w ∈ u_ws RX6 TX6 34, w ∈ wsX6_faultOf := by decide +kernel
  have w_15 : ∀ (n : Nat), ∀ (x1 : Int32) (u : UU) (H : Heap) (locs : List Loc) (ls : Array Slot), Ps g 55 20 u H → va_S (aA g) s.heap H locs → lv_has ls 2 [(0, .ref (aD g 55)), (1, .int x1)] → f_X6_faultOf_15 n x1 u = some (r, u') → W p l e R s m args below meth c H locs 0 0 Q (F0 m 15 ls []) := by
    intro n
    induction n with
    | zero =>
      intro x1 u H locs ls hP hS hl hf
      rw [f_X6_faultOf_15] at hf
      cases hf
    | succ n ih =>
      intro x1 u H locs ls hP hS hl hf
      rw [f_X6_faultOf_15] at hf
      refine lv_aload_n hx hb dX6_faultOf_15 rfl (lv_at hl 0 rfl) ?_
      refine r_get hx hb hts hown hC hP hinX6 55 (by decide) (ci := 5) rfl (by decide) rfl 10 (by decide) (hts (.fieldLink RX6 105 "LoafPartsModel" "readAt" "I") (by decide +kernel)) (v := .int (ui u 55 10)) rfl dX6_faultOf_16 ?_
      refine lv_aload_n hx hb dX6_faultOf_19 rfl (lv_at hl 0 rfl) ?_
      refine r_get hx hb hts hown hC hP hinX6 55 (by decide) (ci := 5) rfl (by decide) rfl 8 (by decide) (hts (.fieldLink RX6 26 "LoafPartsModel" "textSizes" "[I") (by decide +kernel)) (v := .ref (aD g 60)) rfl dX6_faultOf_20 ?_
      refine lv_iload_n hx hb dX6_faultOf_23 rfl (lv_at hl 1 rfl) ?_
      obtain ⟨hi_4, hf⟩ := ix_ex hf
      refine r_ald hx hb hC hP 60 (by decide) rfl hi_4 dX6_faultOf_24 ?_
      refine lv_icmp_ge (tgt := 86) hx hb dX6_faultOf_25 (by decide) (fun c_5 => ?_) (fun c_5 => ?_)
      · rw [if_pos c_5] at hf
        refine lv_aload_n hx hb dX6_faultOf_86 rfl (lv_at hl 0 rfl) ?_
        refine r_get hx hb hts hown hC hP hinX6 55 (by decide) (ci := 5) rfl (by decide) rfl 11 (by decide) (hts (.fieldLink RX6 124 "LoafPartsModel" "readMany" "I") (by decide +kernel)) (v := .int (ui u 55 11)) rfl dX6_faultOf_87 ?_
        refine lv_iconst (v := (2 : Int32)) hx hb dX6_faultOf_90 (by decide) ?_
        refine lv_icmp_ge (tgt := 103) hx hb dX6_faultOf_91 (by decide) (fun c_6 => ?_) (fun c_6 => ?_)
        · rw [if_pos c_6] at hf
          refine lv_bipush (v := (-9 : Int32)) hx hb dX6_faultOf_103 (by decide) ?_
          obtain ⟨rfl, rfl⟩ := sp2 hf
          exact kret _ _ _ _ dX6_faultOf_105 hP hS trivial
        rw [if_neg c_6] at hf
        refine lv_aload_n hx hb dX6_faultOf_94 rfl (lv_at hl 0 rfl) ?_
        refine r_get hx hb hts hown hC hP hinX6 55 (by decide) (ci := 5) rfl (by decide) rfl 8 (by decide) (hts (.fieldLink RX6 26 "LoafPartsModel" "textSizes" "[I") (by decide +kernel)) (v := .ref (aD g 60)) rfl dX6_faultOf_95 ?_
        refine lv_iload_n hx hb dX6_faultOf_98 rfl (lv_at hl 1 rfl) ?_
        obtain ⟨hi_7, hf⟩ := ix_ex hf
        refine r_ald hx hb hC hP 60 (by decide) rfl hi_7 dX6_faultOf_99 ?_
        refine lv_goto (tgt := 105) hx hb dX6_faultOf_100 (by decide) ?_
        obtain ⟨rfl, rfl⟩ := sp2 hf
        exact kret _ _ _ _ dX6_faultOf_105 hP hS trivial
      rw [if_neg c_5] at hf
      refine lv_aload_n hx hb dX6_faultOf_28 rfl (lv_at hl 0 rfl) ?_
      refine lv_iload_n hx hb dX6_faultOf_29 rfl (lv_at hl 1 rfl) ?_
      refine lv_aload_n hx hb dX6_faultOf_30 rfl (lv_at hl 0 rfl) ?_
      refine r_get hx hb hts hown hC hP hinX6 55 (by decide) (ci := 5) rfl (by decide) rfl 10 (by decide) (hts (.fieldLink RX6 105 "LoafPartsModel" "readAt" "I") (by decide +kernel)) (v := .int (ui u 55 10)) rfl dX6_faultOf_31 ?_
      obtain ⟨q_8, hq_8, hf⟩ := bind_ex hf
      refine r_Vi (As := [.int x1, .int (ui u 55 10)]) (rest := []) (k := 55) (ci := 5) ⟨hx, hb, hml, hown, hts⟩ hC hP hS (by decide) rfl (by decide) rfl (c_X6_letterAt l g u x1 (ui u 55 10) hq_8) (cwV 2 hts gX6_faultOf_X6_letterAt rfl rfl rfl (by decide +kernel) ⟨(Nat.le_trans (Nat.le_of_ble_eq_true rfl) hRf), (Nat.le_trans (Nat.le_of_ble_eq_true rfl) hRl)⟩) rfl hl.1 rfl (Nat.le_of_ble_eq_true rfl) dX6_faultOf_34 (fun H locs hP hS => ?_)
      refine lv_bipush (v := (32 : Int32)) hx hb dX6_faultOf_37 (by decide) ?_
      refine lv_icmp_ne (tgt := 55) hx hb dX6_faultOf_39 (by decide) (fun c_9 => ?_) (fun c_9 => ?_)
      · rw [if_neg c_9] at hf
        refine lv_aload_n hx hb dX6_faultOf_55 rfl (lv_at hl 0 rfl) ?_
        refine r_get hx hb hts hown hC hP hinX6 55 (by decide) (ci := 5) rfl (by decide) rfl 13 (by decide) (hts (.fieldLink RX6 117 "LoafPartsModel" "isBegun" "Z") (by decide +kernel)) (v := .int (ui u 55 13)) rfl dX6_faultOf_56 ?_
        refine lv_if_eq (tgt := 73) hx hb dX6_faultOf_59 (by decide) (fun c_10 => ?_) (fun c_10 => ?_)
        · rw [if_pos c_10] at hf
          refine lv_aload_n hx hb dX6_faultOf_73 rfl (lv_at hl 0 rfl) ?_
          refine lv_iload_n hx hb dX6_faultOf_74 rfl (lv_at hl 1 rfl) ?_
          obtain ⟨q_11, hq_11, hf⟩ := bind_ex hf
          refine r_Vi (r := q_11.1) (u' := q_11.2) (As := [.int x1]) (rest := []) (k := 55) (ci := 5) ⟨hx, hb, hml, hown, hts⟩ hC hP hS (by decide) rfl (by decide) rfl (c_X6_readsLoaves l g u x1 hq_11) (cwV 1 hts gX6_faultOf_X6_readsLoaves rfl rfl rfl (by decide +kernel) ⟨(Nat.le_trans (Nat.le_of_ble_eq_true rfl) hRf), (Nat.le_trans (Nat.le_of_ble_eq_true rfl) hRl)⟩) rfl hl.1 rfl (Nat.le_of_ble_eq_true rfl) dX6_faultOf_75 (fun H locs hP hS => ?_)
          refine lv_if_ne (tgt := 15) hx hb dX6_faultOf_78 (by decide) (fun c_12 => ?_) (fun c_12 => ?_)
          · rw [if_neg c_12] at hf
            exact ih x1 q_11.2 _ _ _ hP hS (lv_sub hl [0, 1] rfl) hf
          rw [if_pos c_12] at hf
          refine lv_aload_n hx hb dX6_faultOf_81 rfl (lv_at hl 0 rfl) ?_
          refine r_get hx hb hts hown hC hP hinX6 55 (by decide) (ci := 5) rfl (by decide) rfl 10 (by decide) (hts (.fieldLink RX6 105 "LoafPartsModel" "readAt" "I") (by decide +kernel)) (v := .int (ui q_11.2 55 10)) rfl dX6_faultOf_82 ?_
          obtain ⟨rfl, rfl⟩ := sp2 hf
          exact kret _ _ _ _ dX6_faultOf_85 hP hS trivial
        rw [if_neg c_10] at hf
        refine lv_aload_n hx hb dX6_faultOf_62 rfl (lv_at hl 0 rfl) ?_
        refine lv_iload_n hx hb dX6_faultOf_63 rfl (lv_at hl 1 rfl) ?_
        obtain ⟨q_13, hq_13, hf⟩ := bind_ex hf
        refine r_Vi (r := q_13.1) (u' := q_13.2) (As := [.int x1]) (rest := []) (k := 55) (ci := 5) ⟨hx, hb, hml, hown, hts⟩ hC hP hS (by decide) rfl (by decide) rfl (c_X6_readsWorker l g u x1 hq_13) (cwV 1 hts gX6_faultOf_X6_readsWorker rfl rfl rfl (by decide +kernel) ⟨(Nat.le_trans (Nat.le_of_ble_eq_true rfl) hRf), (Nat.le_trans (Nat.le_of_ble_eq_true rfl) hRl)⟩) rfl hl.1 rfl (Nat.le_of_ble_eq_true rfl) dX6_faultOf_64 (fun H locs hP hS => ?_)
        refine lv_if_eq (tgt := 81) hx hb dX6_faultOf_67 (by decide) (fun c_14 => ?_) (fun c_14 => ?_)
        · rw [if_pos c_14] at hf
          refine lv_aload_n hx hb dX6_faultOf_81 rfl (lv_at hl 0 rfl) ?_
          refine r_get hx hb hts hown hC hP hinX6 55 (by decide) (ci := 5) rfl (by decide) rfl 10 (by decide) (hts (.fieldLink RX6 105 "LoafPartsModel" "readAt" "I") (by decide +kernel)) (v := .int (ui q_13.2 55 10)) rfl dX6_faultOf_82 ?_
          obtain ⟨rfl, rfl⟩ := sp2 hf
          exact kret _ _ _ _ dX6_faultOf_85 hP hS trivial
        rw [if_neg c_14] at hf
        refine lv_goto (tgt := 15) hx hb dX6_faultOf_70 (by decide) ?_
        exact ih x1 q_13.2 _ _ _ hP hS (lv_sub hl [0, 1] rfl) hf
      rw [if_pos c_9] at hf
      refine lv_aload_n hx hb dX6_faultOf_42 rfl (lv_at hl 0 rfl) ?_
      refine lv_dup hx hb dX6_faultOf_43 rfl ?_
      refine r_get hx hb hts hown hC hP hinX6 55 (by decide) (ci := 5) rfl (by decide) rfl 10 (by decide) (hts (.fieldLink RX6 105 "LoafPartsModel" "readAt" "I") (by decide +kernel)) (v := .int (ui u 55 10)) rfl dX6_faultOf_44 ?_
      refine lv_iconst (v := (1 : Int32)) hx hb dX6_faultOf_47 (by decide) ?_
      refine lv_iadd hx hb dX6_faultOf_48 ?_
      obtain ⟨u_15, eu_15, hf⟩ := lt_ex hf
      refine r_puti hx hb hts hown hC hP hS hinX6 tyX6 tyX6_ok nmX6 55 (by decide) (ci := 5) rfl (by decide) rfl 10 (by decide) (hts (.fieldLink RX6 105 "LoafPartsModel" "readAt" "I") (by decide +kernel)) rfl (ty := .int) (by decide +kernel) rfl rfl (by decide) (by decide) eu_15 dX6_faultOf_49 (fun H locs hP hS => ?_)
      refine lv_goto (tgt := 15) hx hb dX6_faultOf_52 (by decide) ?_
      exact ih x1 u_15 _ _ _ hP hS (lv_sub hl [0, 1] rfl) hf
  unfold f_X6_faultOf at hf
  refine lv_aload_n hx hb dX6_faultOf_0 rfl (lv_at hl 0 rfl) ?_
  refine lv_iconst (v := (0 : Int32)) hx hb dX6_faultOf_1 (by decide) ?_
  obtain ⟨u_1, eu_1, hf⟩ := lt_ex hf
  refine r_puti hx hb hts hown hC hP hS hinX6 tyX6 tyX6_ok nmX6 55 (by decide) (ci := 5) rfl (by decide) rfl 10 (by decide) (hts (.fieldLink RX6 105 "LoafPartsModel" "readAt" "I") (by decide +kernel)) rfl (ty := .int) (by decide +kernel) rfl rfl (by decide) (by decide) eu_1 dX6_faultOf_2 (fun H locs hP hS => ?_)
  refine lv_aload_n hx hb dX6_faultOf_5 rfl (lv_at hl 0 rfl) ?_
  refine lv_iconst (v := (0 : Int32)) hx hb dX6_faultOf_6 (by decide) ?_
  obtain ⟨u_2, eu_2, hf⟩ := lt_ex hf
  refine r_puti hx hb hts hown hC hP hS hinX6 tyX6 tyX6_ok nmX6 55 (by decide) (ci := 5) rfl (by decide) rfl 11 (by decide) (hts (.fieldLink RX6 124 "LoafPartsModel" "readMany" "I") (by decide +kernel)) rfl (ty := .int) (by decide +kernel) rfl rfl (by decide) (by decide) eu_2 dX6_faultOf_7 (fun H locs hP hS => ?_)
  refine lv_aload_n hx hb dX6_faultOf_10 rfl (lv_at hl 0 rfl) ?_
  refine lv_iconst (v := (0 : Int32)) hx hb dX6_faultOf_11 (by decide) ?_
  obtain ⟨u_3, eu_3, hf⟩ := lt_ex hf
  refine r_puti hx hb hts hown hC hP hS hinX6 tyX6 tyX6_ok nmX6 55 (by decide) (ci := 5) rfl (by decide) rfl 13 (by decide) (hts (.fieldLink RX6 117 "LoafPartsModel" "isBegun" "Z") (by decide +kernel)) rfl (ty := .boolean) (by decide +kernel) rfl rfl (by decide) (by decide) eu_3 dX6_faultOf_12 (fun H locs hP hS => ?_)
  exact w_15 fu x1 u_3 _ _ _ hP hS (lv_sub hl [0, 1] rfl) hf
set_option maxHeartbeats 4000000 in
set_option maxRecDepth 100000 in
theorem c_X6_fault (l : Launch) (g : GG) (u : UU) (x1 : Int32) {r : Int32} {u' : UU} (hf : f_X6_fault x1 u = some (r, u')) : Ci l g 55 20 yX6_fault wsX6_fault 4 90 [.ref (aD g 55), .int x1] u r u' := by
  refine ct_i (cc := cX6_fault) (maxL := 2) (by decide) rfl (Nat.le_of_ble_eq_true rfl) ?_
  intro p e s m args below meth c R Q ls hx hb hml hown hts hC hP hl hRf hRl kret hS
  have hown : s.vm.findClass RX6 = some m.cls := hown
  have hl : lv_has ls 2 [(0, .ref (aD g 55)), (1, .int x1)] := hl
  have hinX6 : ∀ w ∈ u_ws RX6 TX6 34, w ∈ wsX6_fault := by decide +kernel
  unfold f_X6_fault at hf
  refine lv_iload_n hx hb dX6_fault_0 rfl (lv_at hl 1 rfl) ?_
  refine r_Si (As := [.int x1]) (rest := []) ⟨hx, hb, hml, hown, hts⟩ hC hP hS (c_X6_isText l g u x1 rfl) (va_cwS 1 hts gX6_fault_X6_isText rfl rfl rfl (by decide +kernel) ⟨(Nat.le_trans (Nat.le_of_ble_eq_true rfl) hRf), (Nat.le_trans (Nat.le_of_ble_eq_true rfl) hRl)⟩) rfl hl.1 rfl (Nat.le_of_ble_eq_true rfl) dX6_fault_1 (fun H locs hP hS => ?_)
  refine lv_if_ne (tgt := 11) hx hb dX6_fault_4 (by decide) (fun c_1 => ?_) (fun c_1 => ?_)
  · rw [if_neg c_1] at hf
    refine lv_aload_n hx hb dX6_fault_11 rfl (lv_at hl 0 rfl) ?_
    refine r_get hx hb hts hown hC hP hinX6 55 (by decide) (ci := 5) rfl (by decide) rfl 8 (by decide) (hts (.fieldLink RX6 26 "LoafPartsModel" "textSizes" "[I") (by decide +kernel)) (v := .ref (aD g 60)) rfl dX6_fault_12 ?_
    refine lv_iload_n hx hb dX6_fault_15 rfl (lv_at hl 1 rfl) ?_
    obtain ⟨hi_2, hf⟩ := ix_ex hf
    refine r_ald hx hb hC hP 60 (by decide) rfl hi_2 dX6_fault_16 ?_
    refine lv_if_ge (tgt := 28) hx hb dX6_fault_17 (by decide) (fun c_3 => ?_) (fun c_3 => ?_)
    · rw [if_pos c_3] at hf
      refine lv_aload_n hx hb dX6_fault_28 rfl (lv_at hl 0 rfl) ?_
      refine lv_iload_n hx hb dX6_fault_29 rfl (lv_at hl 1 rfl) ?_
      obtain ⟨q_4, hq_4, hf⟩ := bind_ex hf
      refine r_Vi (r := q_4.1) (u' := q_4.2) (As := [.int x1]) (rest := []) (k := 55) (ci := 5) ⟨hx, hb, hml, hown, hts⟩ hC hP hS (by decide) rfl (by decide) rfl (c_X6_faultOf l g u x1 hq_4) (cwV 1 hts gX6_fault_X6_faultOf rfl rfl rfl (by decide +kernel) ⟨(Nat.le_trans (Nat.le_of_ble_eq_true rfl) hRf), (Nat.le_trans (Nat.le_of_ble_eq_true rfl) hRl)⟩) rfl hl.1 rfl (Nat.le_of_ble_eq_true rfl) dX6_fault_30 (fun H locs hP hS => ?_)
      obtain ⟨rfl, rfl⟩ := sp2 hf
      exact kret _ _ _ _ dX6_fault_33 hP hS trivial
    rw [if_neg c_3] at hf
    refine lv_aload_n hx hb dX6_fault_20 rfl (lv_at hl 0 rfl) ?_
    refine lv_iconst (v := (1 : Int32)) hx hb dX6_fault_21 (by decide) ?_
    obtain ⟨q_5, hq_5, hf⟩ := bind_ex hf
    refine r_Vi (r := q_5.1) (u' := q_5.2) (As := [.int (1 : Int32)]) (rest := []) (k := 55) (ci := 5) ⟨hx, hb, hml, hown, hts⟩ hC hP hS (by decide) rfl (by decide) rfl (c_X6_meets l g u (1 : Int32) hq_5) (cwV 1 hts gX6_fault_X6_meets rfl rfl rfl (by decide +kernel) ⟨(Nat.le_trans (Nat.le_of_ble_eq_true rfl) hRf), (Nat.le_trans (Nat.le_of_ble_eq_true rfl) hRl)⟩) rfl hl.1 rfl (Nat.le_of_ble_eq_true rfl) dX6_fault_22 (fun H locs hP hS => ?_)
    refine lv_goto (tgt := 33) hx hb dX6_fault_25 (by decide) ?_
    obtain ⟨rfl, rfl⟩ := sp2 hf
    exact kret _ _ _ _ dX6_fault_33 hP hS trivial
  rw [if_pos c_1] at hf
  refine lv_iconst (v := (-1 : Int32)) hx hb dX6_fault_7 (by decide) ?_
  refine lv_goto (tgt := 33) hx hb dX6_fault_8 (by decide) ?_
  obtain ⟨rfl, rfl⟩ := sp2 hf
  exact kret _ _ _ _ dX6_fault_33 hP hS trivial
set_option maxHeartbeats 4000000 in
set_option maxRecDepth 100000 in
theorem c_X6_table (l : Launch) (g : GG) (u : UU) (x1 : Int32) {r : Int32} {u' : UU} (hf : f_X6_table x1 u = some (r, u')) : Ci l g 55 20 yX6_table wsX6_table 4 90 [.ref (aD g 55), .int x1] u r u' := by
  refine ct_i (cc := cX6_table) (maxL := 3) (by decide) rfl (Nat.le_of_ble_eq_true rfl) ?_
  intro p e s m args below meth c R Q ls hx hb hml hown hts hC hP hl hRf hRl kret hS
  have hown : s.vm.findClass RX6 = some m.cls := hown
  have hl : lv_has ls 3 [(0, .ref (aD g 55)), (1, .int x1)] := hl
  have hinX6 : ∀ w ∈ u_ws RX6 TX6 34, w ∈ wsX6_table := by decide +kernel
  have w_135 : ∀ (n : Nat), ∀ (x2 : Int32) (u : UU) (H : Heap) (locs : List Loc) (ls : Array Slot), Ps g 55 20 u H → va_S (aA g) s.heap H locs → lv_has ls 3 [(0, .ref (aD g 55)), (2, .int x2)] → f_X6_table_135 n x2 u = some (r, u') → W p l e R s m args below meth c H locs 0 0 Q (F0 m 135 ls []) := by
    intro n
    induction n with
    | zero =>
      intro x2 u H locs ls hP hS hl hf
      rw [f_X6_table_135] at hf
      cases hf
    | succ n ih =>
      intro x2 u H locs ls hP hS hl hf
      rw [f_X6_table_135] at hf
      refine lv_iload_n hx hb dX6_table_135 rfl (lv_at hl 1 rfl) ?_
      refine lv_iconst (v := (3 : Int32)) hx hb dX6_table_136 (by decide) ?_
      refine lv_icmp_ge (tgt := 153) hx hb dX6_table_137 (by decide) (fun c_12 => ?_) (fun c_12 => ?_)
      · rw [if_pos c_12] at hf
        refine lv_aload_n hx hb dX6_table_153 rfl (lv_at hl 0 rfl) ?_
        refine r_get hx hb hts hown hC hP hinX6 55 (by decide) (ci := 5) rfl (by decide) rfl 17 (by decide) (hts (.fieldLink RX6 136 "LoafPartsModel" "n" "I") (by decide +kernel)) (v := .int (ui u 55 17)) rfl dX6_table_154 ?_
        obtain ⟨rfl, rfl⟩ := sp2 hf
        exact kret _ _ _ _ dX6_table_157 hP hS trivial
      rw [if_neg c_12] at hf
      refine lv_aload_n hx hb dX6_table_140 rfl (lv_at hl 0 rfl) ?_
      refine r_get hx hb hts hown hC hP hinX6 55 (by decide) (ci := 5) rfl (by decide) rfl 24 (by decide) (hts (.fieldLink RX6 57 "LoafPartsModel" "keptMany" "[I") (by decide +kernel)) (v := .ref (aD g 70)) rfl dX6_table_141 ?_
      refine lv_iload_n hx hb dX6_table_144 rfl (lv_at hl 1 rfl) ?_
      refine lv_iconst (v := (-1 : Int32)) hx hb dX6_table_145 (by decide) ?_
      obtain ⟨hi_13, hf⟩ := ix_ex hf
      obtain ⟨u_14, eu_14, hf⟩ := lt_ex hf
      refine r_ast hx hb hC hP hS 70 (by decide) rfl hi_13 eu_14 dX6_table_146 (fun H locs hP hS => ?_)
      obtain ⟨x2_15, ex2_15, hf⟩ := lt_ex hf
      refine lv_iinc (v := x2_15) (lv' := [(2, .int x2_15), (0, .ref (aD g 55))]) hx hb dX6_table_147 hl (k := 1) rfl (by rw [ex2_15]; rfl) (by decide) rfl (fun ls hl => ?_)
      refine lv_goto (tgt := 135) hx hb dX6_table_150 (by decide) ?_
      exact ih x2_15 u_14 _ _ _ hP hS (lv_sub hl [1, 0] rfl) hf
  have w_99 : ∀ (n : Nat), ∀ (x2 : Int32) (u : UU) (H : Heap) (locs : List Loc) (ls : Array Slot), Ps g 55 20 u H → va_S (aA g) s.heap H locs → lv_has ls 3 [(0, .ref (aD g 55)), (2, .int x2)] → f_X6_table_99 n x2 u = some (r, u') → W p l e R s m args below meth c H locs 0 0 Q (F0 m 99 ls []) := by
    intro n
    induction n with
    | zero =>
      intro x2 u H locs ls hP hS hl hf
      rw [f_X6_table_99] at hf
      cases hf
    | succ n ih =>
      intro x2 u H locs ls hP hS hl hf
      rw [f_X6_table_99] at hf
      refine lv_iload_n hx hb dX6_table_99 rfl (lv_at hl 1 rfl) ?_
      refine lv_bipush (v := (25 : Int32)) hx hb dX6_table_100 (by decide) ?_
      refine lv_icmp_ge (tgt := 118) hx hb dX6_table_102 (by decide) (fun c_8 => ?_) (fun c_8 => ?_)
      · rw [if_pos c_8] at hf
        refine lv_aload_n hx hb dX6_table_118 rfl (lv_at hl 0 rfl) ?_
        refine r_get hx hb hts hown hC hP hinX6 55 (by decide) (ci := 5) rfl (by decide) rfl 21 (by decide) (hts (.fieldLink RX6 51 "LoafPartsModel" "now" "[I") (by decide +kernel)) (v := .ref (aD g 68)) rfl dX6_table_119 ?_
        refine lv_iconst (v := (0 : Int32)) hx hb dX6_table_122 (by decide) ?_
        refine lv_aload_n hx hb dX6_table_123 rfl (lv_at hl 0 rfl) ?_
        refine r_get hx hb hts hown hC hP hinX6 55 (by decide) (ci := 5) rfl (by decide) rfl 12 (by decide) (hts (.fieldLink RX6 114 "LoafPartsModel" "readLoaves" "I") (by decide +kernel)) (v := .int (ui u 55 12)) rfl dX6_table_124 ?_
        obtain ⟨hi_9, hf⟩ := ix_ex hf
        obtain ⟨u_10, eu_10, hf⟩ := lt_ex hf
        refine r_ast hx hb hC hP hS 68 (by decide) rfl hi_9 eu_10 dX6_table_127 (fun H locs hP hS => ?_)
        refine lv_aload_n hx hb dX6_table_128 rfl (lv_at hl 0 rfl) ?_
        refine lv_iconst (v := (0 : Int32)) hx hb dX6_table_129 (by decide) ?_
        obtain ⟨u_11, eu_11, hf⟩ := lt_ex hf
        refine r_puti hx hb hts hown hC hP hS hinX6 tyX6 tyX6_ok nmX6 55 (by decide) (ci := 5) rfl (by decide) rfl 22 (by decide) (hts (.fieldLink RX6 139 "LoafPartsModel" "deedMany" "I") (by decide +kernel)) rfl (ty := .int) (by decide +kernel) rfl rfl (by decide) (by decide) eu_11 dX6_table_130 (fun H locs hP hS => ?_)
        refine lv_iconst (v := (0 : Int32)) hx hb dX6_table_133 (by decide) ?_
        refine lv_istore_n (lv' := [(2, .int (0 : Int32)), (0, .ref (aD g 55))]) hx hb dX6_table_134 rfl hl (by decide) rfl (fun ls hl => ?_)
        exact w_135 fu (0 : Int32) u_11 _ _ _ hP hS (lv_sub hl [1, 0] rfl) hf
      rw [if_neg c_8] at hf
      refine lv_aload_n hx hb dX6_table_105 rfl (lv_at hl 0 rfl) ?_
      refine r_get hx hb hts hown hC hP hinX6 55 (by decide) (ci := 5) rfl (by decide) rfl 21 (by decide) (hts (.fieldLink RX6 51 "LoafPartsModel" "now" "[I") (by decide +kernel)) (v := .ref (aD g 68)) rfl dX6_table_106 ?_
      refine lv_iload_n hx hb dX6_table_109 rfl (lv_at hl 1 rfl) ?_
      refine lv_iconst (v := (0 : Int32)) hx hb dX6_table_110 (by decide) ?_
      obtain ⟨hi_16, hf⟩ := ix_ex hf
      obtain ⟨u_17, eu_17, hf⟩ := lt_ex hf
      refine r_ast hx hb hC hP hS 68 (by decide) rfl hi_16 eu_17 dX6_table_111 (fun H locs hP hS => ?_)
      obtain ⟨x2_18, ex2_18, hf⟩ := lt_ex hf
      refine lv_iinc (v := x2_18) (lv' := [(2, .int x2_18), (0, .ref (aD g 55))]) hx hb dX6_table_112 hl (k := 1) rfl (by rw [ex2_18]; rfl) (by decide) rfl (fun ls hl => ?_)
      refine lv_goto (tgt := 99) hx hb dX6_table_115 (by decide) ?_
      exact ih x2_18 u_17 _ _ _ hP hS (lv_sub hl [1, 0] rfl) hf
  have w_47 : ∀ (n : Nat), ∀ (x2 : Int32) (u : UU) (H : Heap) (locs : List Loc) (ls : Array Slot), Ps g 55 20 u H → va_S (aA g) s.heap H locs → lv_has ls 3 [(0, .ref (aD g 55)), (2, .int x2)] → f_X6_table_47 n x2 u = some (r, u') → W p l e R s m args below meth c H locs 0 0 Q (F0 m 47 ls []) := by
    intro n
    induction n with
    | zero =>
      intro x2 u H locs ls hP hS hl hf
      rw [f_X6_table_47] at hf
      cases hf
    | succ n ih =>
      intro x2 u H locs ls hP hS hl hf
      rw [f_X6_table_47] at hf
      refine lv_iload_n hx hb dX6_table_47 rfl (lv_at hl 1 rfl) ?_
      refine lv_aload_n hx hb dX6_table_48 rfl (lv_at hl 0 rfl) ?_
      refine r_get hx hb hts hown hC hP hinX6 55 (by decide) (ci := 5) rfl (by decide) rfl 17 (by decide) (hts (.fieldLink RX6 136 "LoafPartsModel" "n" "I") (by decide +kernel)) (v := .int (ui u 55 17)) rfl dX6_table_49 ?_
      refine lv_icmp_ge (tgt := 97) hx hb dX6_table_52 (by decide) (fun c_7 => ?_) (fun c_7 => ?_)
      · rw [if_pos c_7] at hf
        refine lv_iconst (v := (0 : Int32)) hx hb dX6_table_97 (by decide) ?_
        refine lv_istore_n (lv' := [(2, .int (0 : Int32)), (0, .ref (aD g 55))]) hx hb dX6_table_98 rfl hl (by decide) rfl (fun ls hl => ?_)
        exact w_99 fu (0 : Int32) u _ _ _ hP hS (lv_sub hl [1, 0] rfl) hf
      rw [if_neg c_7] at hf
      refine lv_aload_n hx hb dX6_table_55 rfl (lv_at hl 0 rfl) ?_
      refine r_get hx hb hts hown hC hP hinX6 55 (by decide) (ci := 5) rfl (by decide) rfl 18 (by decide) (hts (.fieldLink RX6 42 "LoafPartsModel" "kind" "[I") (by decide +kernel)) (v := .ref (aD g 65)) rfl dX6_table_56 ?_
      refine lv_iload_n hx hb dX6_table_59 rfl (lv_at hl 1 rfl) ?_
      refine lv_aload_n hx hb dX6_table_60 rfl (lv_at hl 0 rfl) ?_
      refine r_get hx hb hts hown hC hP hinX6 55 (by decide) (ci := 5) rfl (by decide) rfl 14 (by decide) (hts (.fieldLink RX6 33 "LoafPartsModel" "readKind" "[I") (by decide +kernel)) (v := .ref (aD g 62)) rfl dX6_table_61 ?_
      refine lv_iload_n hx hb dX6_table_64 rfl (lv_at hl 1 rfl) ?_
      obtain ⟨hi_19, hf⟩ := ix_ex hf
      refine r_ald hx hb hC hP 62 (by decide) rfl hi_19 dX6_table_65 ?_
      obtain ⟨hi_20, hf⟩ := ix_ex hf
      obtain ⟨u_21, eu_21, hf⟩ := lt_ex hf
      refine r_ast hx hb hC hP hS 65 (by decide) rfl hi_20 eu_21 dX6_table_66 (fun H locs hP hS => ?_)
      refine lv_aload_n hx hb dX6_table_67 rfl (lv_at hl 0 rfl) ?_
      refine r_get hx hb hts hown hC hP hinX6 55 (by decide) (ci := 5) rfl (by decide) rfl 19 (by decide) (hts (.fieldLink RX6 45 "LoafPartsModel" "ups" "[I") (by decide +kernel)) (v := .ref (aD g 66)) rfl dX6_table_68 ?_
      refine lv_iload_n hx hb dX6_table_71 rfl (lv_at hl 1 rfl) ?_
      refine lv_aload_n hx hb dX6_table_72 rfl (lv_at hl 0 rfl) ?_
      refine r_get hx hb hts hown hC hP hinX6 55 (by decide) (ci := 5) rfl (by decide) rfl 15 (by decide) (hts (.fieldLink RX6 36 "LoafPartsModel" "readUp" "[I") (by decide +kernel)) (v := .ref (aD g 63)) rfl dX6_table_73 ?_
      refine lv_iload_n hx hb dX6_table_76 rfl (lv_at hl 1 rfl) ?_
      obtain ⟨hi_22, hf⟩ := ix_ex hf
      refine r_ald hx hb hC hP 63 (by decide) rfl hi_22 dX6_table_77 ?_
      obtain ⟨hi_23, hf⟩ := ix_ex hf
      obtain ⟨u_24, eu_24, hf⟩ := lt_ex hf
      refine r_ast hx hb hC hP hS 66 (by decide) rfl hi_23 eu_24 dX6_table_78 (fun H locs hP hS => ?_)
      refine lv_aload_n hx hb dX6_table_79 rfl (lv_at hl 0 rfl) ?_
      refine r_get hx hb hts hown hC hP hinX6 55 (by decide) (ci := 5) rfl (by decide) rfl 20 (by decide) (hts (.fieldLink RX6 48 "LoafPartsModel" "lows" "[I") (by decide +kernel)) (v := .ref (aD g 67)) rfl dX6_table_80 ?_
      refine lv_iload_n hx hb dX6_table_83 rfl (lv_at hl 1 rfl) ?_
      refine lv_aload_n hx hb dX6_table_84 rfl (lv_at hl 0 rfl) ?_
      refine r_get hx hb hts hown hC hP hinX6 55 (by decide) (ci := 5) rfl (by decide) rfl 16 (by decide) (hts (.fieldLink RX6 39 "LoafPartsModel" "readLow" "[I") (by decide +kernel)) (v := .ref (aD g 64)) rfl dX6_table_85 ?_
      refine lv_iload_n hx hb dX6_table_88 rfl (lv_at hl 1 rfl) ?_
      obtain ⟨hi_25, hf⟩ := ix_ex hf
      refine r_ald hx hb hC hP 64 (by decide) rfl hi_25 dX6_table_89 ?_
      obtain ⟨hi_26, hf⟩ := ix_ex hf
      obtain ⟨u_27, eu_27, hf⟩ := lt_ex hf
      refine r_ast hx hb hC hP hS 67 (by decide) rfl hi_26 eu_27 dX6_table_90 (fun H locs hP hS => ?_)
      obtain ⟨x2_28, ex2_28, hf⟩ := lt_ex hf
      refine lv_iinc (v := x2_28) (lv' := [(2, .int x2_28), (0, .ref (aD g 55))]) hx hb dX6_table_91 hl (k := 1) rfl (by rw [ex2_28]; rfl) (by decide) rfl (fun ls hl => ?_)
      refine lv_goto (tgt := 47) hx hb dX6_table_94 (by decide) ?_
      exact ih x2_28 u_27 _ _ _ hP hS (lv_sub hl [1, 0] rfl) hf
  unfold f_X6_table at hf
  refine lv_iload_n hx hb dX6_table_0 rfl (lv_at hl 1 rfl) ?_
  refine r_Si (As := [.int x1]) (rest := []) ⟨hx, hb, hml, hown, hts⟩ hC hP hS (c_X6_isText l g u x1 rfl) (va_cwS 1 hts gX6_table_X6_isText rfl rfl rfl (by decide +kernel) ⟨(Nat.le_trans (Nat.le_of_ble_eq_true rfl) hRf), (Nat.le_trans (Nat.le_of_ble_eq_true rfl) hRl)⟩) rfl hl.1 rfl (Nat.le_of_ble_eq_true rfl) dX6_table_1 (fun H locs hP hS => ?_)
  refine lv_if_ne (tgt := 9) hx hb dX6_table_4 (by decide) (fun c_1 => ?_) (fun c_1 => ?_)
  · rw [if_neg c_1] at hf
    refine lv_aload_n hx hb dX6_table_9 rfl (lv_at hl 0 rfl) ?_
    refine r_get hx hb hts hown hC hP hinX6 55 (by decide) (ci := 5) rfl (by decide) rfl 8 (by decide) (hts (.fieldLink RX6 26 "LoafPartsModel" "textSizes" "[I") (by decide +kernel)) (v := .ref (aD g 60)) rfl dX6_table_10 ?_
    refine lv_iload_n hx hb dX6_table_13 rfl (lv_at hl 1 rfl) ?_
    obtain ⟨hi_2, hf⟩ := ix_ex hf
    refine r_ald hx hb hC hP 60 (by decide) rfl hi_2 dX6_table_14 ?_
    refine lv_if_ge (tgt := 24) hx hb dX6_table_15 (by decide) (fun c_3 => ?_) (fun c_3 => ?_)
    · rw [if_pos c_3] at hf
      refine lv_aload_n hx hb dX6_table_24 rfl (lv_at hl 0 rfl) ?_
      refine lv_iload_n hx hb dX6_table_25 rfl (lv_at hl 1 rfl) ?_
      obtain ⟨q_4, hq_4, hf⟩ := bind_ex hf
      refine r_Vi (r := q_4.1) (u' := q_4.2) (As := [.int x1]) (rest := []) (k := 55) (ci := 5) ⟨hx, hb, hml, hown, hts⟩ hC hP hS (by decide) rfl (by decide) rfl (c_X6_faultOf l g u x1 hq_4) (cwV 1 hts gX6_table_X6_faultOf rfl rfl rfl (by decide +kernel) ⟨(Nat.le_trans (Nat.le_of_ble_eq_true rfl) hRf), (Nat.le_trans (Nat.le_of_ble_eq_true rfl) hRl)⟩) rfl hl.1 rfl (Nat.le_of_ble_eq_true rfl) dX6_table_26 (fun H locs hP hS => ?_)
      refine lv_bipush (v := (-9 : Int32)) hx hb dX6_table_29 (by decide) ?_
      refine lv_icmp_eq (tgt := 37) hx hb dX6_table_31 (by decide) (fun c_5 => ?_) (fun c_5 => ?_)
      · rw [if_pos c_5] at hf
        refine lv_aload_n hx hb dX6_table_37 rfl (lv_at hl 0 rfl) ?_
        refine lv_aload_n hx hb dX6_table_38 rfl (lv_at hl 0 rfl) ?_
        refine r_get hx hb hts hown hC hP hinX6 55 (by decide) (ci := 5) rfl (by decide) rfl 11 (by decide) (hts (.fieldLink RX6 124 "LoafPartsModel" "readMany" "I") (by decide +kernel)) (v := .int (ui q_4.2 55 11)) rfl dX6_table_39 ?_
        obtain ⟨u_6, eu_6, hf⟩ := lt_ex hf
        refine r_puti hx hb hts hown hC hP hS hinX6 tyX6 tyX6_ok nmX6 55 (by decide) (ci := 5) rfl (by decide) rfl 17 (by decide) (hts (.fieldLink RX6 136 "LoafPartsModel" "n" "I") (by decide +kernel)) rfl (ty := .int) (by decide +kernel) rfl rfl (by decide) (by decide) eu_6 dX6_table_42 (fun H locs hP hS => ?_)
        refine lv_iconst (v := (0 : Int32)) hx hb dX6_table_45 (by decide) ?_
        refine lv_istore_n (lv' := [(2, .int (0 : Int32)), (0, .ref (aD g 55)), (1, .int x1)]) hx hb dX6_table_46 rfl hl (by decide) rfl (fun ls hl => ?_)
        exact w_47 fu (0 : Int32) u_6 _ _ _ hP hS (lv_sub hl [1, 0] rfl) hf
      rw [if_neg c_5] at hf
      refine lv_bipush (v := (-4 : Int32)) hx hb dX6_table_34 (by decide) ?_
      obtain ⟨rfl, rfl⟩ := sp2 hf
      exact kret _ _ _ _ dX6_table_36 hP hS trivial
    rw [if_neg c_3] at hf
    refine lv_aload_n hx hb dX6_table_18 rfl (lv_at hl 0 rfl) ?_
    refine lv_iconst (v := (1 : Int32)) hx hb dX6_table_19 (by decide) ?_
    obtain ⟨q_29, hq_29, hf⟩ := bind_ex hf
    refine r_Vi (r := q_29.1) (u' := q_29.2) (As := [.int (1 : Int32)]) (rest := []) (k := 55) (ci := 5) ⟨hx, hb, hml, hown, hts⟩ hC hP hS (by decide) rfl (by decide) rfl (c_X6_meets l g u (1 : Int32) hq_29) (cwV 1 hts gX6_table_X6_meets rfl rfl rfl (by decide +kernel) ⟨(Nat.le_trans (Nat.le_of_ble_eq_true rfl) hRf), (Nat.le_trans (Nat.le_of_ble_eq_true rfl) hRl)⟩) rfl hl.1 rfl (Nat.le_of_ble_eq_true rfl) dX6_table_20 (fun H locs hP hS => ?_)
    obtain ⟨rfl, rfl⟩ := sp2 hf
    exact kret _ _ _ _ dX6_table_23 hP hS trivial
  rw [if_pos c_1] at hf
  refine lv_iconst (v := (-1 : Int32)) hx hb dX6_table_7 (by decide) ?_
  obtain ⟨rfl, rfl⟩ := sp2 hf
  exact kret _ _ _ _ dX6_table_8 hP hS trivial
set_option maxHeartbeats 4000000 in
set_option maxRecDepth 100000 in
theorem c_X6_isWorker (l : Launch) (g : GG) (u : UU) (x1 : Int32) {r : Int32} (hf : f_X6_isWorker x1 u = some r) : Ci l g 55 20 yX6_isWorker wsX6_isWorker 1 22 [.ref (aD g 55), .int x1] u r u := by
  refine ct_z (cc := cX6_isWorker) (maxL := 2) (by decide) rfl (Nat.le_of_ble_eq_true rfl) ?_
  intro p e s m args below meth c R Q ls hx hb hml hown hts hC hP hl hRf hRl kret hS
  have hown : s.vm.findClass RX6 = some m.cls := hown
  have hl : lv_has ls 2 [(0, .ref (aD g 55)), (1, .int x1)] := hl
  have hinX6 : ∀ w ∈ u_ws RX6 TX6 34, w ∈ wsX6_isWorker := by decide +kernel
  unfold f_X6_isWorker at hf
  refine lv_iload_n hx hb dX6_isWorker_0 rfl (lv_at hl 1 rfl) ?_
  refine lv_iconst (v := (0 : Int32)) hx hb dX6_isWorker_1 (by decide) ?_
  refine lv_aload_n hx hb dX6_isWorker_2 rfl (lv_at hl 0 rfl) ?_
  refine r_get hx hb hts hown hC hP hinX6 55 (by decide) (ci := 5) rfl (by decide) rfl 17 (by decide) (hts (.fieldLink RX6 136 "LoafPartsModel" "n" "I") (by decide +kernel)) (v := .int (ui u 55 17)) rfl dX6_isWorker_3 ?_
  refine lv_iconst (v := (1 : Int32)) hx hb dX6_isWorker_6 (by decide) ?_
  refine lv_isub hx hb dX6_isWorker_7 ?_
  refine r_Si (As := [.int x1, .int (0 : Int32), .int ((ui u 55 17) - (1 : Int32))]) (rest := []) ⟨hx, hb, hml, hown, hts⟩ hC hP hS (c_X6_in l g u x1 (0 : Int32) ((ui u 55 17) - (1 : Int32)) rfl) (va_cwS 3 hts gX6_isWorker_X6_in rfl rfl rfl (by decide +kernel) ⟨(Nat.le_trans (Nat.le_of_ble_eq_true rfl) hRf), (Nat.le_trans (Nat.le_of_ble_eq_true rfl) hRl)⟩) rfl hl.1 rfl (Nat.le_of_ble_eq_true rfl) dX6_isWorker_8 (fun H locs hP hS => ?_)
  obtain rfl := sp1 hf
  exact kret _ _ _ _ dX6_isWorker_11 hP hS (z_X6_in x1 (0 : Int32) ((ui u 55 17) - (1 : Int32))).1
set_option maxHeartbeats 4000000 in
set_option maxRecDepth 100000 in
theorem c_X6_isPart (l : Launch) (g : GG) (u : UU) (x0 : Int32) {r : Int32} (hf : f_X6_isPart x0 = r) : Ci l g 55 20 yX6_isPart wsX6_isPart 1 22 [.int x0] u r u := by
  refine ct_z (cc := cX6_isPart) (maxL := 1) (by decide) rfl (Nat.le_of_ble_eq_true rfl) ?_
  intro p e s m args below meth c R Q ls hx hb hml hown hts hC hP hl hRf hRl kret hS
  have hown : s.vm.findClass RX6 = some m.cls := hown
  have hl : lv_has ls 1 [(0, .int x0)] := hl
  unfold f_X6_isPart at hf
  refine lv_iload_n hx hb dX6_isPart_0 rfl (lv_at hl 0 rfl) ?_
  refine lv_iconst (v := (2 : Int32)) hx hb dX6_isPart_1 (by decide) ?_
  refine lv_bipush (v := (16 : Int32)) hx hb dX6_isPart_2 (by decide) ?_
  refine r_Si (As := [.int x0, .int (2 : Int32), .int (16 : Int32)]) (rest := []) ⟨hx, hb, hml, hown, hts⟩ hC hP hS (c_X6_in l g u x0 (2 : Int32) (16 : Int32) rfl) (va_cwS 3 hts gX6_isPart_X6_in rfl rfl rfl (by decide +kernel) ⟨(Nat.le_trans (Nat.le_of_ble_eq_true rfl) hRf), (Nat.le_trans (Nat.le_of_ble_eq_true rfl) hRl)⟩) rfl hl.1 rfl (Nat.le_of_ble_eq_true rfl) dX6_isPart_4 (fun H locs hP hS => ?_)
  obtain rfl := hf
  exact kret _ _ _ _ dX6_isPart_7 hP hS (z_X6_in x0 (2 : Int32) (16 : Int32)).1
set_option maxHeartbeats 4000000 in
set_option maxRecDepth 100000 in
theorem c_X6_takesAs (l : Launch) (g : GG) (u : UU) (x0 : Int32) (x1 : Int32) {r : Int32} (hf : f_X6_takesAs x0 x1 u = some r) : Ci l g 55 20 yX6_takesAs wsX6_takesAs 0 0 [.int x0, .int x1] u r u := by
  refine ct_z (cc := cX6_takesAs) (maxL := 3) (by decide) rfl (Nat.le_of_ble_eq_true rfl) ?_
  intro p e s m args below meth c R Q ls hx hb hml hown hts hC hP hl hRf hRl kret hS
  have hown : s.vm.findClass RX6 = some m.cls := hown
  have hl : lv_has ls 3 [(0, .int x0), (1, .int x1)] := hl
  have w_111 : ∀ (H : Heap) (locs : List Loc) (ls : Array Slot), Ps g 55 20 u H → va_S (aA g) s.heap H locs → lv_has ls 3 [] → f_X6_takesAs_111 u = some r → W p l e R s m args below meth c H locs 0 0 Q (F0 m 111 ls []) := by
    intro H locs ls hP hS hl hf
    unfold f_X6_takesAs_111 at hf
    refine lv_iconst (v := (1 : Int32)) hx hb dX6_takesAs_111 (by decide) ?_
    refine lv_goto (tgt := 116) hx hb dX6_takesAs_112 (by decide) ?_
    obtain rfl := sp1 hf
    exact kret _ _ _ _ dX6_takesAs_116 hP hS rfl
  have w_27 : ∀ (x0 : Int32) (x1 : Int32) (t0 : Int32) (H : Heap) (locs : List Loc) (ls : Array Slot), Ps g 55 20 u H → va_S (aA g) s.heap H locs → lv_has ls 3 [(0, .int x0), (1, .int x1)] → f_X6_takesAs_27 x0 x1 t0 u = some r → W p l e R s m args below meth c H locs 0 0 Q (F0 m 27 ls [.int t0]) := by
    intro x0 x1 t0 H locs ls hP hS hl hf
    unfold f_X6_takesAs_27 at hf
    refine lv_istore_n (lv' := [(2, .int t0), (0, .int x0), (1, .int x1)]) hx hb dX6_takesAs_27 rfl hl (by decide) rfl (fun ls hl => ?_)
    refine lv_iload_n hx hb dX6_takesAs_28 rfl (lv_at hl 1 rfl) ?_
    by_cases s_2 : x0 = (1 : Int32)
    · rw [if_pos s_2] at hf
      refine r_tin (tgt := 64) hx hb (1 : Int32) 35 s_2 dX6_takesAs_29 (by decide) ?_
      refine lv_iload_n hx hb dX6_takesAs_64 rfl (lv_at hl 0 rfl) ?_
      obtain ⟨hz_3, hf⟩ := bz_ex hf
      obtain rfl := sp1 hf
      exact kret _ _ _ _ dX6_takesAs_65 hP hS hz_3.1
    rw [if_neg s_2] at hf
    by_cases s_4 : x0 = (2 : Int32)
    · rw [if_pos s_4] at hf
      refine r_tin (tgt := 66) hx hb (2 : Int32) 37 s_4 dX6_takesAs_29 (by decide) ?_
      refine lv_iload_n hx hb dX6_takesAs_66 rfl (lv_at hl 2 rfl) ?_
      refine lv_iconst (v := (2 : Int32)) hx hb dX6_takesAs_67 (by decide) ?_
      refine lv_irem hx hb dX6_takesAs_68 (by decide) ?_
      refine lv_iconst (v := (1 : Int32)) hx hb dX6_takesAs_69 (by decide) ?_
      refine lv_icmp_ne (tgt := 77) hx hb dX6_takesAs_70 (by decide) (fun c_5 => ?_) (fun c_5 => ?_)
      · rw [if_neg c_5] at hf
        refine lv_iconst (v := (0 : Int32)) hx hb dX6_takesAs_77 (by decide) ?_
        obtain rfl := sp1 hf
        exact kret _ _ _ _ dX6_takesAs_78 hP hS rfl
      rw [if_pos c_5] at hf
      refine lv_iconst (v := (1 : Int32)) hx hb dX6_takesAs_73 (by decide) ?_
      refine lv_goto (tgt := 78) hx hb dX6_takesAs_74 (by decide) ?_
      obtain rfl := sp1 hf
      exact kret _ _ _ _ dX6_takesAs_78 hP hS rfl
    rw [if_neg s_4] at hf
    by_cases s_6 : x0 = (3 : Int32)
    · rw [if_pos s_6] at hf
      refine r_tin (tgt := 79) hx hb (3 : Int32) 50 s_6 dX6_takesAs_29 (by decide) ?_
      refine lv_iload_n hx hb dX6_takesAs_79 rfl (lv_at hl 2 rfl) ?_
      refine lv_iconst (v := (4 : Int32)) hx hb dX6_takesAs_80 (by decide) ?_
      refine lv_icmp_lt (tgt := 88) hx hb dX6_takesAs_81 (by decide) (fun c_7 => ?_) (fun c_7 => ?_)
      · rw [if_pos c_7] at hf
        refine lv_iconst (v := (0 : Int32)) hx hb dX6_takesAs_88 (by decide) ?_
        obtain rfl := sp1 hf
        exact kret _ _ _ _ dX6_takesAs_89 hP hS rfl
      rw [if_neg c_7] at hf
      refine lv_iconst (v := (1 : Int32)) hx hb dX6_takesAs_84 (by decide) ?_
      refine lv_goto (tgt := 89) hx hb dX6_takesAs_85 (by decide) ?_
      obtain rfl := sp1 hf
      exact kret _ _ _ _ dX6_takesAs_89 hP hS rfl
    rw [if_neg s_6] at hf
    by_cases s_8 : x0 = (4 : Int32)
    · rw [if_pos s_8] at hf
      refine r_tin (tgt := 90) hx hb (4 : Int32) 61 s_8 dX6_takesAs_29 (by decide) ?_
      refine lv_iload_n hx hb dX6_takesAs_90 rfl (lv_at hl 0 rfl) ?_
      refine lv_if_ne (tgt := 111) hx hb dX6_takesAs_91 (by decide) (fun c_9 => ?_) (fun c_9 => ?_)
      · rw [if_neg c_9] at hf
        exact w_111 _ _ _ hP hS (lv_sub hl [] rfl) hf
      rw [if_pos c_9] at hf
      refine lv_iload_n hx hb dX6_takesAs_94 rfl (lv_at hl 2 rfl) ?_
      refine lv_iconst (v := (3 : Int32)) hx hb dX6_takesAs_95 (by decide) ?_
      refine lv_icmp_eq (tgt := 111) hx hb dX6_takesAs_96 (by decide) (fun c_10 => ?_) (fun c_10 => ?_)
      · rw [if_pos c_10] at hf
        exact w_111 _ _ _ hP hS (lv_sub hl [] rfl) hf
      rw [if_neg c_10] at hf
      refine lv_iload_n hx hb dX6_takesAs_99 rfl (lv_at hl 2 rfl) ?_
      refine lv_bipush (v := (6 : Int32)) hx hb dX6_takesAs_100 (by decide) ?_
      refine lv_icmp_eq (tgt := 111) hx hb dX6_takesAs_102 (by decide) (fun c_11 => ?_) (fun c_11 => ?_)
      · rw [if_pos c_11] at hf
        exact w_111 _ _ _ hP hS (lv_sub hl [] rfl) hf
      rw [if_neg c_11] at hf
      refine lv_iload_n hx hb dX6_takesAs_105 rfl (lv_at hl 2 rfl) ?_
      refine lv_bipush (v := (12 : Int32)) hx hb dX6_takesAs_106 (by decide) ?_
      refine lv_icmp_ne (tgt := 115) hx hb dX6_takesAs_108 (by decide) (fun c_12 => ?_) (fun c_12 => ?_)
      · rw [if_neg c_12] at hf
        refine lv_iconst (v := (0 : Int32)) hx hb dX6_takesAs_115 (by decide) ?_
        obtain rfl := sp1 hf
        exact kret _ _ _ _ dX6_takesAs_116 hP hS rfl
      rw [if_pos c_12] at hf
      exact w_111 _ _ _ hP hS (lv_sub hl [] rfl) hf
    rw [if_neg s_8] at hf
    by_cases s_13 : x0 = (5 : Int32)
    · rw [if_pos s_13] at hf
      refine r_tin (tgt := 117) hx hb (5 : Int32) 88 s_13 dX6_takesAs_29 (by decide) ?_
      refine lv_iload_n hx hb dX6_takesAs_117 rfl (lv_at hl 2 rfl) ?_
      refine lv_iconst (v := (4 : Int32)) hx hb dX6_takesAs_118 (by decide) ?_
      refine lv_icmp_lt (tgt := 132) hx hb dX6_takesAs_119 (by decide) (fun c_14 => ?_) (fun c_14 => ?_)
      · rw [if_pos c_14] at hf
        refine lv_iconst (v := (0 : Int32)) hx hb dX6_takesAs_132 (by decide) ?_
        obtain rfl := sp1 hf
        exact kret _ _ _ _ dX6_takesAs_133 hP hS rfl
      rw [if_neg c_14] at hf
      refine lv_iload_n hx hb dX6_takesAs_122 rfl (lv_at hl 2 rfl) ?_
      refine lv_iconst (v := (2 : Int32)) hx hb dX6_takesAs_123 (by decide) ?_
      refine lv_irem hx hb dX6_takesAs_124 (by decide) ?_
      refine lv_if_ne (tgt := 132) hx hb dX6_takesAs_125 (by decide) (fun c_15 => ?_) (fun c_15 => ?_)
      · rw [if_neg c_15] at hf
        refine lv_iconst (v := (0 : Int32)) hx hb dX6_takesAs_132 (by decide) ?_
        obtain rfl := sp1 hf
        exact kret _ _ _ _ dX6_takesAs_133 hP hS rfl
      rw [if_pos c_15] at hf
      refine lv_iconst (v := (1 : Int32)) hx hb dX6_takesAs_128 (by decide) ?_
      refine lv_goto (tgt := 133) hx hb dX6_takesAs_129 (by decide) ?_
      obtain rfl := sp1 hf
      exact kret _ _ _ _ dX6_takesAs_133 hP hS rfl
    rw [if_neg s_13] at hf
    refine lv_tableOut (tgt := 134) hx hb dX6_takesAs_29 (tsw_out 1 5 5 [(1 : Int32), (2 : Int32), (3 : Int32), (4 : Int32), (5 : Int32)] (by decide) (by decide) (by decide) (List.forall_mem_cons.mpr ⟨s_2, (List.forall_mem_cons.mpr ⟨s_4, (List.forall_mem_cons.mpr ⟨s_6, (List.forall_mem_cons.mpr ⟨s_8, (List.forall_mem_cons.mpr ⟨s_13, (fun _ h => absurd h List.not_mem_nil)⟩)⟩)⟩)⟩)⟩)) (by decide) ?_
    refine lv_iconst (v := (1 : Int32)) hx hb dX6_takesAs_134 (by decide) ?_
    obtain rfl := sp1 hf
    exact kret _ _ _ _ dX6_takesAs_135 hP hS rfl
  have w_22 : ∀ (x0 : Int32) (x1 : Int32) (H : Heap) (locs : List Loc) (ls : Array Slot), Ps g 55 20 u H → va_S (aA g) s.heap H locs → lv_has ls 3 [(0, .int x0), (1, .int x1)] → f_X6_takesAs_22 x0 x1 u = some r → W p l e R s m args below meth c H locs 0 0 Q (F0 m 22 ls []) := by
    intro x0 x1 H locs ls hP hS hl hf
    unfold f_X6_takesAs_22 at hf
    refine lv_iconst (v := (1 : Int32)) hx hb dX6_takesAs_22 (by decide) ?_
    refine lv_goto (tgt := 27) hx hb dX6_takesAs_23 (by decide) ?_
    exact w_27 x0 x1 (1 : Int32) _ _ _ hP hS (lv_sub hl [0, 1] rfl) hf
  unfold f_X6_takesAs at hf
  refine lv_iload_n hx hb dX6_takesAs_0 rfl (lv_at hl 1 rfl) ?_
  refine lv_iconst (v := (2 : Int32)) hx hb dX6_takesAs_1 (by decide) ?_
  refine lv_icmp_eq (tgt := 22) hx hb dX6_takesAs_2 (by decide) (fun c_1 => ?_) (fun c_1 => ?_)
  · rw [if_pos c_1] at hf
    exact w_22 x0 x1 _ _ _ hP hS (lv_sub hl [0, 1] rfl) hf
  rw [if_neg c_1] at hf
  refine lv_iload_n hx hb dX6_takesAs_5 rfl (lv_at hl 1 rfl) ?_
  refine lv_iconst (v := (4 : Int32)) hx hb dX6_takesAs_6 (by decide) ?_
  refine lv_icmp_eq (tgt := 22) hx hb dX6_takesAs_7 (by decide) (fun c_16 => ?_) (fun c_16 => ?_)
  · rw [if_pos c_16] at hf
    exact w_22 x0 x1 _ _ _ hP hS (lv_sub hl [0, 1] rfl) hf
  rw [if_neg c_16] at hf
  refine lv_iload_n hx hb dX6_takesAs_10 rfl (lv_at hl 1 rfl) ?_
  refine lv_bipush (v := (8 : Int32)) hx hb dX6_takesAs_11 (by decide) ?_
  refine lv_icmp_eq (tgt := 22) hx hb dX6_takesAs_13 (by decide) (fun c_17 => ?_) (fun c_17 => ?_)
  · rw [if_pos c_17] at hf
    exact w_22 x0 x1 _ _ _ hP hS (lv_sub hl [0, 1] rfl) hf
  rw [if_neg c_17] at hf
  refine lv_iload_n hx hb dX6_takesAs_16 rfl (lv_at hl 1 rfl) ?_
  refine lv_bipush (v := (16 : Int32)) hx hb dX6_takesAs_17 (by decide) ?_
  refine lv_icmp_ne (tgt := 26) hx hb dX6_takesAs_19 (by decide) (fun c_18 => ?_) (fun c_18 => ?_)
  · rw [if_neg c_18] at hf
    refine lv_iconst (v := (0 : Int32)) hx hb dX6_takesAs_26 (by decide) ?_
    exact w_27 x0 x1 (0 : Int32) _ _ _ hP hS (lv_sub hl [0, 1] rfl) hf
  rw [if_pos c_18] at hf
  exact w_22 x0 x1 _ _ _ hP hS (lv_sub hl [0, 1] rfl) hf