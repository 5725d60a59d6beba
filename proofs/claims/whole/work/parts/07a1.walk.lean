set_option maxHeartbeats 4000000 in
set_option maxRecDepth 100000 in
theorem c_X5_put (l : Launch) (g : GG) (u : UU) (x1 : Int32) (x2 : Int32) (x3 : Int32) {r : Int32} {u' : UU} (hf : f_X5_put x1 x2 x3 u = some (r, u')) : Ci l g 0 55 yX5_put wsX5_put 5 109 [.ref (aD g 0), .int x1, .int x2, .int x3] u r u' := by
  refine ct_i (cc := cX5_put) (maxL := 6) (by decide) rfl (Nat.le_of_ble_eq_true rfl) ?_
  intro p e s m args below meth c R Q ls hx hb hml hown hts hC hP hl hRf hRl kret hS
  have hown : s.vm.findClass RX5 = some m.cls := hown
  have hl : lv_has ls 6 [(0, .ref (aD g 0)), (1, .int x1), (2, .int x2), (3, .int x3)] := hl
  have hinX5 : ∀ w ∈ u_ws RX5 TX5 12, w ∈ wsX5_put := by decide +kernel
  unfold f_X5_put at hf
  refine lv_aload_n hx hb dX5_put_0 rfl (lv_at hl 0 rfl) ?_
  refine lv_aload_n hx hb dX5_put_1 rfl (lv_at hl 0 rfl) ?_
  refine r_get hx hb hts hown hC hP hinX5 0 (by decide) (ci := 4) rfl (by decide) rfl 1 (by decide) (hts (.fieldLink RX5 18 "LoafParts" "texts" "LLoafParts$Shelf;") (by decide +kernel)) (v := .ref (aD g 4)) rfl dX5_put_2 ?_
  refine lv_iload_n hx hb dX5_put_5 rfl (lv_at hl 1 rfl) ?_
  refine lv_iload_n hx hb dX5_put_6 rfl (lv_at hl 2 rfl) ?_
  obtain ⟨q_1, hq_1, hf⟩ := bind_ex hf
  refine r_Vi (r := q_1.1) (u' := q_1.2) (As := [.ref (aD g 4), .int x1, .int x2]) (rest := []) (k := 0) (ci := 4) ⟨hx, hb, hml, hown, hts⟩ hC hP hS (by decide) rfl (by decide) rfl (c_X5_refusePlace l g 4 4 shf_texts u x1 x2 hq_1) (cwV 3 hts gX5_put_X5_refusePlace rfl rfl rfl (by decide +kernel) ⟨(Nat.le_trans (Nat.le_of_ble_eq_true rfl) hRf), (Nat.le_trans (Nat.le_of_ble_eq_true rfl) hRl)⟩) rfl hl.1 rfl (Nat.le_of_ble_eq_true rfl) dX5_put_7 (fun H locs hP hS => ?_)
  refine lv_istore (lv' := [(4, .int q_1.1), (0, .ref (aD g 0)), (1, .int x1), (2, .int x2), (3, .int x3)]) hx hb dX5_put_10 hl (by decide) rfl (fun ls hl => ?_)
  refine lv_iload hx hb dX5_put_12 (lv_at hl 0 rfl) ?_
  refine lv_if_eq (tgt := 20) hx hb dX5_put_14 (by decide) (fun c_2 => ?_) (fun c_2 => ?_)
  · rw [if_pos c_2] at hf
    refine lv_aload_n hx hb dX5_put_20 rfl (lv_at hl 1 rfl) ?_
    refine r_get hx hb hts hown hC hP hinX5 0 (by decide) (ci := 4) rfl (by decide) rfl 1 (by decide) (hts (.fieldLink RX5 18 "LoafParts" "texts" "LLoafParts$Shelf;") (by decide +kernel)) (v := .ref (aD g 4)) rfl dX5_put_21 ?_
    refine lv_iload_n hx hb dX5_put_24 rfl (lv_at hl 2 rfl) ?_
    refine lv_iload_n hx hb dX5_put_25 rfl (lv_at hl 3 rfl) ?_
    obtain ⟨q_3, hq_3, hf⟩ := bind_ex hf
    refine r_Vi (As := [.int x1, .int x2]) (rest := []) (k := 4) (ci := 2) ⟨hx, hb, hml, hown, hts⟩ hC hP hS (by decide) rfl (by decide) rfl (c_X3_read l g 4 4 shf_texts q_1.2 x1 x2 hq_3) (cwV 2 hts gX5_put_X3_read rfl rfl rfl (by decide +kernel) ⟨(Nat.le_trans (Nat.le_of_ble_eq_true rfl) hRf), (Nat.le_trans (Nat.le_of_ble_eq_true rfl) hRl)⟩) rfl hl.1 rfl (Nat.le_of_ble_eq_true rfl) dX5_put_26 (fun H locs hP hS => ?_)
    refine lv_istore (lv' := [(5, .int q_3), (4, .int q_1.1), (0, .ref (aD g 0)), (1, .int x1), (2, .int x2), (3, .int x3)]) hx hb dX5_put_29 hl (by decide) rfl (fun ls hl => ?_)
    refine lv_aload_n hx hb dX5_put_31 rfl (lv_at hl 2 rfl) ?_
    refine r_get hx hb hts hown hC hP hinX5 0 (by decide) (ci := 4) rfl (by decide) rfl 1 (by decide) (hts (.fieldLink RX5 18 "LoafParts" "texts" "LLoafParts$Shelf;") (by decide +kernel)) (v := .ref (aD g 4)) rfl dX5_put_32 ?_
    refine lv_iload_n hx hb dX5_put_35 rfl (lv_at hl 3 rfl) ?_
    refine lv_iload_n hx hb dX5_put_36 rfl (lv_at hl 4 rfl) ?_
    refine lv_iload_n hx hb dX5_put_37 rfl (lv_at hl 5 rfl) ?_
    refine lv_i2b hx hb dX5_put_38 rfl ?_
    obtain ⟨q_4, hq_4, hf⟩ := bind_ex hf
    refine r_Vv (As := [.int x1, .int x2, .int ((x3 : Int32).toInt8.toInt32)]) (rest := []) (k := 4) (ci := 2) ⟨hx, hb, hml, hown, hts⟩ hC hP hS (by decide) rfl (by decide) rfl (c_X3_write l g 4 4 shf_texts q_1.2 x1 x2 ((x3 : Int32).toInt8.toInt32) hq_4) (cwV 3 hts gX5_put_X3_write rfl rfl rfl (by decide +kernel) ⟨(Nat.le_trans (Nat.le_of_ble_eq_true rfl) hRf), (Nat.le_trans (Nat.le_of_ble_eq_true rfl) hRl)⟩) rfl hl.1 rfl (Nat.le_of_ble_eq_true rfl) dX5_put_39 (fun H locs hP hS => ?_)
    refine lv_iload hx hb dX5_put_42 (lv_at hl 0 rfl) ?_
    refine lv_sipush (v := (1000 : Int32)) hx hb dX5_put_44 (by decide) ?_
    refine lv_iadd hx hb dX5_put_47 ?_
    obtain ⟨rfl, rfl⟩ := sp2 hf
    exact kret _ _ _ _ dX5_put_48 hP hS trivial
  rw [if_neg c_2] at hf
  refine lv_iload hx hb dX5_put_17 (lv_at hl 0 rfl) ?_
  obtain ⟨rfl, rfl⟩ := sp2 hf
  exact kret _ _ _ _ dX5_put_19 hP hS trivial
set_option maxHeartbeats 4000000 in
set_option maxRecDepth 100000 in
theorem c_X2_pastBlanks (l : Launch) (g : GG) (u : UU) (x1 : Int32) (x2 : Int32) {r : Int32} (hf : f_X2_pastBlanks x1 x2 u = some r) : Ci l g 0 55 yX2_pastBlanks wsX2_pastBlanks 3 65 [.ref (aD g 4), .int x1, .int x2] u r u := by
  refine ct_i (cc := cX2_pastBlanks) (maxL := 4) (by decide) rfl (Nat.le_of_ble_eq_true rfl) ?_
  intro p e s m args below meth c R Q ls hx hb hml hown hts hC hP hl hRf hRl kret hS
  have hown : s.vm.findClass RX2 = some m.cls := hown
  have hl : lv_has ls 4 [(0, .ref (aD g 4)), (1, .int x1), (2, .int x2)] := hl
  have w_2 : ∀ (n : Nat), ∀ (x1 : Int32) (x3 : Int32) (H : Heap) (locs : List Loc) (ls : Array Slot), Ps g 0 55 u H → va_S (aA g) s.heap H locs → lv_has ls 4 [(0, .ref (aD g 4)), (1, .int x1), (3, .int x3)] → f_X2_pastBlanks_2 n x1 x3 u = some r → W p l e R s m args below meth c H locs 0 0 Q (F0 m 2 ls []) := by
    intro n
    induction n with
    | zero =>
      intro x1 x3 H locs ls hP hS hl hf
      rw [f_X2_pastBlanks_2] at hf
      cases hf
    | succ n ih =>
      intro x1 x3 H locs ls hP hS hl hf
      rw [f_X2_pastBlanks_2] at hf
      refine lv_iload_n hx hb dX2_pastBlanks_2 rfl (lv_at hl 2 rfl) ?_
      refine lv_aload_n hx hb dX2_pastBlanks_3 rfl (lv_at hl 0 rfl) ?_
      refine lv_iload_n hx hb dX2_pastBlanks_4 rfl (lv_at hl 1 rfl) ?_
      obtain ⟨q_1, hq_1, hf⟩ := bind_ex hf
      refine r_Vi (As := [.int x1]) (rest := [.int x3]) (k := 4) (ci := 2) ⟨hx, hb, hml, hown, hts⟩ hC hP hS (by decide) rfl (by decide) rfl (c_X3_sizeOf l g 4 4 shf_texts u x1 hq_1) (cwV 1 hts gX2_pastBlanks_X3_sizeOf rfl rfl rfl (by decide +kernel) ⟨(Nat.le_trans (Nat.le_of_ble_eq_true rfl) hRf), (Nat.le_trans (Nat.le_of_ble_eq_true rfl) hRl)⟩) rfl hl.1 rfl (Nat.le_of_ble_eq_true rfl) dX2_pastBlanks_5 (fun H locs hP hS => ?_)
      refine lv_icmp_ge (tgt := 28) hx hb dX2_pastBlanks_8 (by decide) (fun c_2 => ?_) (fun c_2 => ?_)
      · rw [if_pos c_2] at hf
        refine lv_iload_n hx hb dX2_pastBlanks_28 rfl (lv_at hl 2 rfl) ?_
        obtain rfl := sp1 hf
        exact kret _ _ _ _ dX2_pastBlanks_29 hP hS trivial
      rw [if_neg c_2] at hf
      refine lv_aload_n hx hb dX2_pastBlanks_11 rfl (lv_at hl 0 rfl) ?_
      refine lv_iload_n hx hb dX2_pastBlanks_12 rfl (lv_at hl 1 rfl) ?_
      refine lv_iload_n hx hb dX2_pastBlanks_13 rfl (lv_at hl 2 rfl) ?_
      obtain ⟨q_3, hq_3, hf⟩ := bind_ex hf
      refine r_Vi (As := [.int x1, .int x3]) (rest := []) (k := 4) (ci := 2) ⟨hx, hb, hml, hown, hts⟩ hC hP hS (by decide) rfl (by decide) rfl (c_X3_read l g 4 4 shf_texts u x1 x3 hq_3) (cwV 2 hts gX2_pastBlanks_X3_read rfl rfl rfl (by decide +kernel) ⟨(Nat.le_trans (Nat.le_of_ble_eq_true rfl) hRf), (Nat.le_trans (Nat.le_of_ble_eq_true rfl) hRl)⟩) rfl hl.1 rfl (Nat.le_of_ble_eq_true rfl) dX2_pastBlanks_14 (fun H locs hP hS => ?_)
      refine lv_bipush (v := (32 : Int32)) hx hb dX2_pastBlanks_17 (by decide) ?_
      refine lv_icmp_ne (tgt := 28) hx hb dX2_pastBlanks_19 (by decide) (fun c_4 => ?_) (fun c_4 => ?_)
      · rw [if_neg c_4] at hf
        refine lv_iload_n hx hb dX2_pastBlanks_28 rfl (lv_at hl 2 rfl) ?_
        obtain rfl := sp1 hf
        exact kret _ _ _ _ dX2_pastBlanks_29 hP hS trivial
      rw [if_pos c_4] at hf
      obtain ⟨x3_5, ex3_5, hf⟩ := lt_ex hf
      refine lv_iinc (v := x3_5) (lv' := [(3, .int x3_5), (0, .ref (aD g 4)), (1, .int x1)]) hx hb dX2_pastBlanks_22 hl (k := 2) rfl (by rw [ex3_5]; rfl) (by decide) rfl (fun ls hl => ?_)
      refine lv_goto (tgt := 2) hx hb dX2_pastBlanks_25 (by decide) ?_
      exact ih x1 x3_5 _ _ _ hP hS (lv_sub hl [1, 2, 0] rfl) hf
  unfold f_X2_pastBlanks at hf
  refine lv_iload_n hx hb dX2_pastBlanks_0 rfl (lv_at hl 2 rfl) ?_
  refine lv_istore_n (lv' := [(3, .int x2), (0, .ref (aD g 4)), (1, .int x1), (2, .int x2)]) hx hb dX2_pastBlanks_1 rfl hl (by decide) rfl (fun ls hl => ?_)
  exact w_2 fu x1 x2 _ _ _ hP hS (lv_sub hl [1, 2, 0] rfl) hf
set_option maxHeartbeats 4000000 in
set_option maxRecDepth 100000 in
theorem c_X2_figure (l : Launch) (g : GG) (u : UU) (x1 : Int32) (x2 : Int32) (x3 : Int32) {r : Int32} (hf : f_X2_figure x1 x2 x3 u = some r) : Ci l g 0 55 yX2_figure wsX2_figure 3 65 [.ref (aD g 4), .int x1, .int x2, .int x3] u r u := by
  refine ct_i (cc := cX2_figure) (maxL := 5) (by decide) rfl (Nat.le_of_ble_eq_true rfl) ?_
  intro p e s m args below meth c R Q ls hx hb hml hown hts hC hP hl hRf hRl kret hS
  have hown : s.vm.findClass RX2 = some m.cls := hown
  have hl : lv_has ls 5 [(0, .ref (aD g 4)), (1, .int x1), (2, .int x2), (3, .int x3)] := hl
  unfold f_X2_figure at hf
  refine lv_aload_n hx hb dX2_figure_0 rfl (lv_at hl 0 rfl) ?_
  refine lv_iload_n hx hb dX2_figure_1 rfl (lv_at hl 1 rfl) ?_
  refine lv_iload_n hx hb dX2_figure_2 rfl (lv_at hl 2 rfl) ?_
  obtain ⟨q_1, hq_1, hf⟩ := bind_ex hf
  refine r_Vi (As := [.int x1, .int x2]) (rest := []) (k := 4) (ci := 2) ⟨hx, hb, hml, hown, hts⟩ hC hP hS (by decide) rfl (by decide) rfl (c_X3_read l g 4 4 shf_texts u x1 x2 hq_1) (cwV 2 hts gX2_figure_X3_read rfl rfl rfl (by decide +kernel) ⟨(Nat.le_trans (Nat.le_of_ble_eq_true rfl) hRf), (Nat.le_trans (Nat.le_of_ble_eq_true rfl) hRl)⟩) rfl hl.1 rfl (Nat.le_of_ble_eq_true rfl) dX2_figure_3 (fun H locs hP hS => ?_)
  refine lv_bipush (v := (48 : Int32)) hx hb dX2_figure_6 (by decide) ?_
  refine lv_isub hx hb dX2_figure_8 ?_
  obtain ⟨x4_2, ex4_2, hf⟩ := lt_ex hf
  refine r_nm ex4_2 ?_
  refine lv_istore (lv' := [(4, .int x4_2), (0, .ref (aD g 4)), (1, .int x1), (2, .int x2), (3, .int x3)]) hx hb dX2_figure_9 hl (by decide) rfl (fun ls hl => ?_)
  refine lv_iload hx hb dX2_figure_11 (lv_at hl 0 rfl) ?_
  refine lv_iload_n hx hb dX2_figure_13 rfl (lv_at hl 4 rfl) ?_
  refine lv_icmp_lt (tgt := 29) hx hb dX2_figure_14 (by decide) (fun c_3 => ?_) (fun c_3 => ?_)
  · rw [if_pos c_3] at hf
    refine lv_bipush (v := (-9 : Int32)) hx hb dX2_figure_29 (by decide) ?_
    obtain rfl := sp1 hf
    exact kret _ _ _ _ dX2_figure_31 hP hS trivial
  rw [if_neg c_3] at hf
  refine lv_iload hx hb dX2_figure_17 (lv_at hl 0 rfl) ?_
  refine lv_bipush (v := (9 : Int32)) hx hb dX2_figure_19 (by decide) ?_
  refine lv_icmp_gt (tgt := 29) hx hb dX2_figure_21 (by decide) (fun c_4 => ?_) (fun c_4 => ?_)
  · rw [if_pos c_4] at hf
    refine lv_bipush (v := (-9 : Int32)) hx hb dX2_figure_29 (by decide) ?_
    obtain rfl := sp1 hf
    exact kret _ _ _ _ dX2_figure_31 hP hS trivial
  rw [if_neg c_4] at hf
  refine lv_iload hx hb dX2_figure_24 (lv_at hl 0 rfl) ?_
  refine lv_goto (tgt := 31) hx hb dX2_figure_26 (by decide) ?_
  obtain rfl := sp1 hf
  exact kret _ _ _ _ dX2_figure_31 hP hS trivial
set_option maxHeartbeats 4000000 in
set_option maxRecDepth 100000 in
theorem c_X0_byLetter (l : Launch) (g : GG) (u : UU) (x0 : Int32) {r : Int32} (hf : f_X0_byLetter x0 = r) : Ci l g 0 55 yX0_byLetter wsX0_byLetter 0 0 [.int x0] u r u := by
  refine ct_i (cc := cX0_byLetter) (maxL := 1) (by decide) rfl (Nat.le_of_ble_eq_true rfl) ?_
  intro p e s m args below meth c R Q ls hx hb hml hown hts hC hP hl hRf hRl kret hS
  have hown : s.vm.findClass RX0 = some m.cls := hown
  have hl : lv_has ls 1 [(0, .int x0)] := hl
  unfold f_X0_byLetter at hf
  refine lv_iload_n hx hb dX0_byLetter_0 rfl (lv_at hl 0 rfl) ?_
  by_cases s_1 : x0 = (99 : Int32)
  · rw [if_pos s_1] at hf
    refine lv_lookup (off := 67) (tgt := 68) hx hb dX0_byLetter_1 (by decide) (by rw [s_1]; decide) (by decide) ?_
    refine lv_iconst (v := (4 : Int32)) hx hb dX0_byLetter_68 (by decide) ?_
    obtain rfl := hf
    exact kret _ _ _ _ dX0_byLetter_69 hP hS trivial
  rw [if_neg s_1] at hf
  by_cases s_2 : x0 = (101 : Int32)
  · rw [if_pos s_2] at hf
    refine lv_lookup (off := 61) (tgt := 62) hx hb dX0_byLetter_1 (by decide) (by rw [s_2]; decide) (by decide) ?_
    refine lv_iconst (v := (1 : Int32)) hx hb dX0_byLetter_62 (by decide) ?_
    obtain rfl := hf
    exact kret _ _ _ _ dX0_byLetter_63 hP hS trivial
  rw [if_neg s_2] at hf
  by_cases s_3 : x0 = (109 : Int32)
  · rw [if_pos s_3] at hf
    refine lv_lookup (off := 69) (tgt := 70) hx hb dX0_byLetter_1 (by decide) (by rw [s_3]; decide) (by decide) ?_
    refine lv_iconst (v := (5 : Int32)) hx hb dX0_byLetter_70 (by decide) ?_
    obtain rfl := hf
    exact kret _ _ _ _ dX0_byLetter_71 hP hS trivial
  rw [if_neg s_3] at hf
  by_cases s_4 : x0 = (111 : Int32)
  · rw [if_pos s_4] at hf
    refine lv_lookup (off := 63) (tgt := 64) hx hb dX0_byLetter_1 (by decide) (by rw [s_4]; decide) (by decide) ?_
    refine lv_iconst (v := (2 : Int32)) hx hb dX0_byLetter_64 (by decide) ?_
    obtain rfl := hf
    exact kret _ _ _ _ dX0_byLetter_65 hP hS trivial
  rw [if_neg s_4] at hf
  by_cases s_5 : x0 = (115 : Int32)
  · rw [if_pos s_5] at hf
    refine lv_lookup (off := 65) (tgt := 66) hx hb dX0_byLetter_1 (by decide) (by rw [s_5]; decide) (by decide) ?_
    refine lv_iconst (v := (3 : Int32)) hx hb dX0_byLetter_66 (by decide) ?_
    obtain rfl := hf
    exact kret _ _ _ _ dX0_byLetter_67 hP hS trivial
  rw [if_neg s_5] at hf
  by_cases s_6 : x0 = (119 : Int32)
  · rw [if_pos s_6] at hf
    refine lv_lookup (off := 59) (tgt := 60) hx hb dX0_byLetter_1 (by decide) (by rw [s_6]; decide) (by decide) ?_
    refine lv_iconst (v := (0 : Int32)) hx hb dX0_byLetter_60 (by decide) ?_
    obtain rfl := hf
    exact kret _ _ _ _ dX0_byLetter_61 hP hS trivial
  rw [if_neg s_6] at hf
  refine lv_lookup (off := 71) (tgt := 72) hx hb dX0_byLetter_1 (by decide) (show Op.lookupswitch.offset [(99, 67), (101, 61), (109, 69), (111, 63), (115, 65), (119, 59)] (71) _ = _ from by rw [lv_osw (a := 99) s_1 rfl, lv_osw (a := 101) s_2 rfl, lv_osw (a := 109) s_3 rfl, lv_osw (a := 111) s_4 rfl, lv_osw (a := 115) s_5 rfl, lv_osw (a := 119) s_6 rfl]; rfl) (by decide) ?_
  refine lv_bipush (v := (-9 : Int32)) hx hb dX0_byLetter_72 (by decide) ?_
  obtain rfl := hf
  exact kret _ _ _ _ dX0_byLetter_74 hP hS trivial
set_option maxHeartbeats 4000000 in
set_option maxRecDepth 100000 in
theorem c_X2_readWorker (l : Launch) (g : GG) (u : UU) (x2 : Int32) (x3 : Int32) {r : Int32} {u' : UU} (hf : f_X2_readWorker x2 x3 u = some (r, u')) : Ci l g 0 55 yX2_readWorker wsX2_readWorker 4 89 [.ref (aD g 7), .ref (aD g 4), .int x2, .int x3] u r u' := by
  refine ct_i (cc := cX2_readWorker) (maxL := 7) (by decide) rfl (Nat.le_of_ble_eq_true rfl) ?_
  intro p e s m args below meth c R Q ls hx hb hml hown hts hC hP hl hRf hRl kret hS
  have hown : s.vm.findClass RX2 = some m.cls := hown
  have hl : lv_has ls 7 [(0, .ref (aD g 7)), (1, .ref (aD g 4)), (2, .int x2), (3, .int x3)] := hl
  have hinX2 : ∀ w ∈ u_ws RX2 TX2 5, w ∈ wsX2_readWorker := by decide +kernel
  unfold f_X2_readWorker at hf
  refine lv_aload_n hx hb dX2_readWorker_0 rfl (lv_at hl 1 rfl) ?_
  refine lv_iload_n hx hb dX2_readWorker_1 rfl (lv_at hl 2 rfl) ?_
  refine lv_iload_n hx hb dX2_readWorker_2 rfl (lv_at hl 3 rfl) ?_
  obtain ⟨q_1, hq_1, hf⟩ := bind_ex hf
  refine r_Vi (As := [.int x2, .int x3]) (rest := []) (k := 4) (ci := 2) ⟨hx, hb, hml, hown, hts⟩ hC hP hS (by decide) rfl (by decide) rfl (c_X3_read l g 4 4 shf_texts u x2 x3 hq_1) (cwV 2 hts gX2_readWorker_X3_read rfl rfl rfl (by decide +kernel) ⟨(Nat.le_trans (Nat.le_of_ble_eq_true rfl) hRf), (Nat.le_trans (Nat.le_of_ble_eq_true rfl) hRl)⟩) rfl hl.1 rfl (Nat.le_of_ble_eq_true rfl) dX2_readWorker_3 (fun H locs hP hS => ?_)
  refine r_Si (As := [.int q_1]) (rest := []) ⟨hx, hb, hml, hown, hts⟩ hC hP hS (c_X0_byLetter l g u q_1 rfl) (va_cwS 1 hts gX2_readWorker_X0_byLetter rfl rfl rfl (by decide +kernel) ⟨(Nat.le_trans (Nat.le_of_ble_eq_true rfl) hRf), (Nat.le_trans (Nat.le_of_ble_eq_true rfl) hRl)⟩) rfl hl.1 rfl (Nat.le_of_ble_eq_true rfl) dX2_readWorker_6 (fun H locs hP hS => ?_)
  obtain ⟨x4_2, ex4_2, hf⟩ := lt_ex hf
  refine r_nm ex4_2 ?_
  refine lv_istore (lv' := [(4, .int x4_2), (0, .ref (aD g 7)), (1, .ref (aD g 4)), (2, .int x2), (3, .int x3)]) hx hb dX2_readWorker_9 hl (by decide) rfl (fun ls hl => ?_)
  refine lv_iload hx hb dX2_readWorker_11 (lv_at hl 0 rfl) ?_
  refine lv_bipush (v := (-9 : Int32)) hx hb dX2_readWorker_13 (by decide) ?_
  refine lv_icmp_eq (tgt := 27) hx hb dX2_readWorker_15 (by decide) (fun c_3 => ?_) (fun c_3 => ?_)
  · rw [if_pos c_3] at hf
    refine lv_iload_n hx hb dX2_readWorker_27 rfl (lv_at hl 4 rfl) ?_
    obtain ⟨rfl, rfl⟩ := sp2 hf
    exact kret _ _ _ _ dX2_readWorker_28 hP hS trivial
  rw [if_neg c_3] at hf
  refine lv_aload_n hx hb dX2_readWorker_18 rfl (lv_at hl 1 rfl) ?_
  refine r_get hx hb hts hown hC hP hinX2 7 (by decide) (ci := 1) rfl (by decide) rfl 4 (by decide) (hts (.fieldLink RX2 27 "LoafParts$Reader" "workers" "I") (by decide +kernel)) (v := .int (ui u 7 4)) rfl dX2_readWorker_19 ?_
  refine lv_bipush (v := (7 : Int32)) hx hb dX2_readWorker_22 (by decide) ?_
  refine lv_icmp_lt (tgt := 29) hx hb dX2_readWorker_24 (by decide) (fun c_4 => ?_) (fun c_4 => ?_)
  · rw [if_pos c_4] at hf
    refine lv_aload_n hx hb dX2_readWorker_29 rfl (lv_at hl 2 rfl) ?_
    refine lv_iload_n hx hb dX2_readWorker_30 rfl (lv_at hl 3 rfl) ?_
    refine lv_iload_n hx hb dX2_readWorker_31 rfl (lv_at hl 4 rfl) ?_
    refine lv_iconst (v := (1 : Int32)) hx hb dX2_readWorker_32 (by decide) ?_
    refine lv_iadd hx hb dX2_readWorker_33 ?_
    refine lv_iconst (v := (1 : Int32)) hx hb dX2_readWorker_34 (by decide) ?_
    obtain ⟨q_5, hq_5, hf⟩ := bind_ex hf
    refine r_Si (As := [.ref (aD g 4), .int x2, .int (x3 + (1 : Int32)), .int (1 : Int32)]) (rest := []) ⟨hx, hb, hml, hown, hts⟩ hC hP hS (c_X2_figure l g u x2 (x3 + (1 : Int32)) (1 : Int32) hq_5) (va_cwS 4 hts gX2_readWorker_X2_figure rfl rfl rfl (by decide +kernel) ⟨(Nat.le_trans (Nat.le_of_ble_eq_true rfl) hRf), (Nat.le_trans (Nat.le_of_ble_eq_true rfl) hRl)⟩) rfl hl.1 rfl (Nat.le_of_ble_eq_true rfl) dX2_readWorker_35 (fun H locs hP hS => ?_)
    refine lv_istore (lv' := [(5, .int q_5), (4, .int x4_2), (0, .ref (aD g 7)), (1, .ref (aD g 4)), (2, .int x2), (3, .int x3)]) hx hb dX2_readWorker_38 hl (by decide) rfl (fun ls hl => ?_)
    refine lv_iload hx hb dX2_readWorker_40 (lv_at hl 0 rfl) ?_
    refine lv_bipush (v := (-9 : Int32)) hx hb dX2_readWorker_42 (by decide) ?_
    refine lv_icmp_ne (tgt := 51) hx hb dX2_readWorker_44 (by decide) (fun c_6 => ?_) (fun c_6 => ?_)
    · rw [if_neg c_6] at hf
      refine lv_aload_n hx hb dX2_readWorker_51 rfl (lv_at hl 3 rfl) ?_
      refine lv_iload_n hx hb dX2_readWorker_52 rfl (lv_at hl 4 rfl) ?_
      refine lv_iload_n hx hb dX2_readWorker_53 rfl (lv_at hl 5 rfl) ?_
      refine lv_iconst (v := (2 : Int32)) hx hb dX2_readWorker_54 (by decide) ?_
      refine lv_iadd hx hb dX2_readWorker_55 ?_
      refine lv_iconst (v := (1 : Int32)) hx hb dX2_readWorker_56 (by decide) ?_
      obtain ⟨q_7, hq_7, hf⟩ := bind_ex hf
      refine r_Si (As := [.ref (aD g 4), .int x2, .int (x3 + (2 : Int32)), .int (1 : Int32)]) (rest := []) ⟨hx, hb, hml, hown, hts⟩ hC hP hS (c_X2_figure l g u x2 (x3 + (2 : Int32)) (1 : Int32) hq_7) (va_cwS 4 hts gX2_readWorker_X2_figure rfl rfl rfl (by decide +kernel) ⟨(Nat.le_trans (Nat.le_of_ble_eq_true rfl) hRf), (Nat.le_trans (Nat.le_of_ble_eq_true rfl) hRl)⟩) rfl hl.1 rfl (Nat.le_of_ble_eq_true rfl) dX2_readWorker_57 (fun H locs hP hS => ?_)
      refine lv_istore (lv' := [(6, .int q_7), (5, .int q_5), (4, .int x4_2), (0, .ref (aD g 7)), (1, .ref (aD g 4)), (2, .int x2), (3, .int x3)]) hx hb dX2_readWorker_60 hl (by decide) rfl (fun ls hl => ?_)
      refine lv_iload hx hb dX2_readWorker_62 (lv_at hl 0 rfl) ?_
      refine lv_bipush (v := (-9 : Int32)) hx hb dX2_readWorker_64 (by decide) ?_
      refine lv_icmp_ne (tgt := 73) hx hb dX2_readWorker_66 (by decide) (fun c_8 => ?_) (fun c_8 => ?_)
      · rw [if_neg c_8] at hf
        refine lv_aload_n hx hb dX2_readWorker_73 rfl (lv_at hl 3 rfl) ?_
        refine r_get hx hb hts hown hC hP hinX2 7 (by decide) (ci := 1) rfl (by decide) rfl 0 (by decide) (hts (.fieldLink RX2 9 "LoafParts$Reader" "kind" "[I") (by decide +kernel)) (v := .ref (aD g 8)) rfl dX2_readWorker_74 ?_
        refine lv_aload_n hx hb dX2_readWorker_77 rfl (lv_at hl 3 rfl) ?_
        refine r_get hx hb hts hown hC hP hinX2 7 (by decide) (ci := 1) rfl (by decide) rfl 4 (by decide) (hts (.fieldLink RX2 27 "LoafParts$Reader" "workers" "I") (by decide +kernel)) (v := .int (ui u 7 4)) rfl dX2_readWorker_78 ?_
        refine lv_iload hx hb dX2_readWorker_81 (lv_at hl 2 rfl) ?_
        obtain ⟨hi_9, hf⟩ := ix_ex hf
        obtain ⟨u_10, eu_10, hf⟩ := lt_ex hf
        refine r_ast hx hb hC hP hS 8 (by decide) rfl hi_9 eu_10 dX2_readWorker_83 (fun H locs hP hS => ?_)
        refine lv_aload_n hx hb dX2_readWorker_84 rfl (lv_at hl 3 rfl) ?_
        refine r_get hx hb hts hown hC hP hinX2 7 (by decide) (ci := 1) rfl (by decide) rfl 1 (by decide) (hts (.fieldLink RX2 15 "LoafParts$Reader" "over" "[I") (by decide +kernel)) (v := .ref (aD g 9)) rfl dX2_readWorker_85 ?_
        refine lv_aload_n hx hb dX2_readWorker_88 rfl (lv_at hl 3 rfl) ?_
        refine r_get hx hb hts hown hC hP hinX2 7 (by decide) (ci := 1) rfl (by decide) rfl 4 (by decide) (hts (.fieldLink RX2 27 "LoafParts$Reader" "workers" "I") (by decide +kernel)) (v := .int (ui u_10 7 4)) rfl dX2_readWorker_89 ?_
        refine lv_iload hx hb dX2_readWorker_92 (lv_at hl 1 rfl) ?_
        obtain ⟨hi_11, hf⟩ := ix_ex hf
        obtain ⟨u_12, eu_12, hf⟩ := lt_ex hf
        refine r_ast hx hb hC hP hS 9 (by decide) rfl hi_11 eu_12 dX2_readWorker_94 (fun H locs hP hS => ?_)
        refine lv_aload_n hx hb dX2_readWorker_95 rfl (lv_at hl 3 rfl) ?_
        refine r_get hx hb hts hown hC hP hinX2 7 (by decide) (ci := 1) rfl (by decide) rfl 2 (by decide) (hts (.fieldLink RX2 18 "LoafParts$Reader" "under" "[I") (by decide +kernel)) (v := .ref (aD g 10)) rfl dX2_readWorker_96 ?_
        refine lv_aload_n hx hb dX2_readWorker_99 rfl (lv_at hl 3 rfl) ?_
        refine r_get hx hb hts hown hC hP hinX2 7 (by decide) (ci := 1) rfl (by decide) rfl 4 (by decide) (hts (.fieldLink RX2 27 "LoafParts$Reader" "workers" "I") (by decide +kernel)) (v := .int (ui u_12 7 4)) rfl dX2_readWorker_100 ?_
        refine lv_iload hx hb dX2_readWorker_103 (lv_at hl 0 rfl) ?_
        obtain ⟨hi_13, hf⟩ := ix_ex hf
        obtain ⟨u_14, eu_14, hf⟩ := lt_ex hf
        refine r_ast hx hb hC hP hS 10 (by decide) rfl hi_13 eu_14 dX2_readWorker_105 (fun H locs hP hS => ?_)
        refine lv_aload_n hx hb dX2_readWorker_106 rfl (lv_at hl 3 rfl) ?_
        refine lv_dup hx hb dX2_readWorker_107 rfl ?_
        refine r_get hx hb hts hown hC hP hinX2 7 (by decide) (ci := 1) rfl (by decide) rfl 4 (by decide) (hts (.fieldLink RX2 27 "LoafParts$Reader" "workers" "I") (by decide +kernel)) (v := .int (ui u_14 7 4)) rfl dX2_readWorker_108 ?_
        refine lv_iconst (v := (1 : Int32)) hx hb dX2_readWorker_111 (by decide) ?_
        refine lv_iadd hx hb dX2_readWorker_112 ?_
        obtain ⟨u_15, eu_15, hf⟩ := lt_ex hf
        refine r_puti hx hb hts hown hC hP hS hinX2 tyX2 tyX2_ok nmX2 7 (by decide) (ci := 1) rfl (by decide) rfl 4 (by decide) (hts (.fieldLink RX2 27 "LoafParts$Reader" "workers" "I") (by decide +kernel)) rfl (ty := .int) (by decide +kernel) rfl rfl (by decide) (by decide) eu_15 dX2_readWorker_113 (fun H locs hP hS => ?_)
        refine lv_bipush (v := (-9 : Int32)) hx hb dX2_readWorker_116 (by decide) ?_
        obtain ⟨rfl, rfl⟩ := sp2 hf
        exact kret _ _ _ _ dX2_readWorker_118 hP hS trivial
      rw [if_pos c_8] at hf
      refine lv_iload_n hx hb dX2_readWorker_69 rfl (lv_at hl 6 rfl) ?_
      refine lv_iconst (v := (2 : Int32)) hx hb dX2_readWorker_70 (by decide) ?_
      refine lv_iadd hx hb dX2_readWorker_71 ?_
      obtain ⟨rfl, rfl⟩ := sp2 hf
      exact kret _ _ _ _ dX2_readWorker_72 hP hS trivial
    rw [if_pos c_6] at hf
    refine lv_iload_n hx hb dX2_readWorker_47 rfl (lv_at hl 5 rfl) ?_
    refine lv_iconst (v := (1 : Int32)) hx hb dX2_readWorker_48 (by decide) ?_
    refine lv_iadd hx hb dX2_readWorker_49 ?_
    obtain ⟨rfl, rfl⟩ := sp2 hf
    exact kret _ _ _ _ dX2_readWorker_50 hP hS trivial
  rw [if_neg c_4] at hf
  refine lv_iload_n hx hb dX2_readWorker_27 rfl (lv_at hl 4 rfl) ?_
  obtain ⟨rfl, rfl⟩ := sp2 hf
  exact kret _ _ _ _ dX2_readWorker_28 hP hS trivial
set_option maxHeartbeats 4000000 in
set_option maxRecDepth 100000 in
theorem c_X2_readTable (l : Launch) (g : GG) (u : UU) (x2 : Int32) {r : Int32} {u' : UU} (hf : f_X2_readTable x2 u = some (r, u')) : Ci l g 0 55 yX2_readTable wsX2_readTable 5 115 [.ref (aD g 7), .ref (aD g 4), .int x2] u r u' := by
  refine ct_i (cc := cX2_readTable) (maxL := 9) (by decide) rfl (Nat.le_of_ble_eq_true rfl) ?_
  intro p e s m args below meth c R Q ls hx hb hml hown hts hC hP hl hRf hRl kret hS
  have hown : s.vm.findClass RX2 = some m.cls := hown
  have hl : lv_has ls 9 [(0, .ref (aD g 7)), (1, .ref (aD g 4)), (2, .int x2)] := hl
  have hinX2 : ∀ w ∈ u_ws RX2 TX2 5, w ∈ wsX2_readTable := by decide +kernel
  have w_139 : ∀ (x3 : Int32) (x4 : Int32) (u : UU) (H : Heap) (locs : List Loc) (ls : Array Slot), Ps g 0 55 u H → va_S (aA g) s.heap H locs → lv_has ls 9 [(0, .ref (aD g 7)), (3, .int x3), (4, .int x4)] → f_X2_readTable_139 x3 x4 u = some (r, u') → W p l e R s m args below meth c H locs 0 0 Q (F0 m 139 ls []) := by
    intro x3 x4 u H locs ls hP hS hl hf
    unfold f_X2_readTable_139 at hf
    refine lv_iload hx hb dX2_readTable_139 (lv_at hl 2 rfl) ?_
    refine lv_iload_n hx hb dX2_readTable_141 rfl (lv_at hl 1 rfl) ?_
    refine lv_icmp_ge (tgt := 148) hx hb dX2_readTable_142 (by decide) (fun c_11 => ?_) (fun c_11 => ?_)
    · rw [if_pos c_11] at hf
      refine lv_aload_n hx hb dX2_readTable_148 rfl (lv_at hl 0 rfl) ?_
      refine r_get hx hb hts hown hC hP hinX2 7 (by decide) (ci := 1) rfl (by decide) rfl 4 (by decide) (hts (.fieldLink RX2 27 "LoafParts$Reader" "workers" "I") (by decide +kernel)) (v := .int (ui u 7 4)) rfl dX2_readTable_149 ?_
      refine lv_iconst (v := (2 : Int32)) hx hb dX2_readTable_152 (by decide) ?_
      refine lv_icmp_ge (tgt := 160) hx hb dX2_readTable_153 (by decide) (fun c_12 => ?_) (fun c_12 => ?_)
      · rw [if_pos c_12] at hf
        refine lv_bipush (v := (-9 : Int32)) hx hb dX2_readTable_160 (by decide) ?_
        obtain ⟨rfl, rfl⟩ := sp2 hf
        exact kret _ _ _ _ dX2_readTable_162 hP hS trivial
      rw [if_neg c_12] at hf
      refine lv_iload_n hx hb dX2_readTable_156 rfl (lv_at hl 1 rfl) ?_
      refine lv_goto (tgt := 162) hx hb dX2_readTable_157 (by decide) ?_
      obtain ⟨rfl, rfl⟩ := sp2 hf
      exact kret _ _ _ _ dX2_readTable_162 hP hS trivial
    rw [if_neg c_11] at hf
    refine lv_iload hx hb dX2_readTable_145 (lv_at hl 2 rfl) ?_
    obtain ⟨rfl, rfl⟩ := sp2 hf
    exact kret _ _ _ _ dX2_readTable_147 hP hS trivial
  have w_89 : ∀ (n : Nat), ∀ (x2 : Int32) (x3 : Int32) (x4 : Int32) (x7 : Int32) (u : UU) (H : Heap) (locs : List Loc) (ls : Array Slot), Ps g 0 55 u H → va_S (aA g) s.heap H locs → lv_has ls 9 [(0, .ref (aD g 7)), (1, .ref (aD g 4)), (2, .int x2), (3, .int x3), (4, .int x4), (7, .int x7)] → f_X2_readTable_89 n x2 x3 x4 x7 u = some (r, u') → W p l e R s m args below meth c H locs 0 0 Q (F0 m 89 ls []) := by
    intro n
    induction n with
    | zero =>
      intro x2 x3 x4 x7 u H locs ls hP hS hl hf
      rw [f_X2_readTable_89] at hf
      cases hf
    | succ n ih =>
      intro x2 x3 x4 x7 u H locs ls hP hS hl hf
      rw [f_X2_readTable_89] at hf
      refine lv_iload hx hb dX2_readTable_89 (lv_at hl 5 rfl) ?_
      refine lv_bipush (v := (7 : Int32)) hx hb dX2_readTable_91 (by decide) ?_
      refine lv_icmp_ge (tgt := 139) hx hb dX2_readTable_93 (by decide) (fun c_10 => ?_) (fun c_10 => ?_)
      · rw [if_pos c_10] at hf
        exact w_139 x3 x4 u _ _ _ hP hS (lv_sub hl [0, 3, 4] rfl) hf
      rw [if_neg c_10] at hf
      refine lv_iload hx hb dX2_readTable_96 (lv_at hl 4 rfl) ?_
      refine lv_iload_n hx hb dX2_readTable_98 rfl (lv_at hl 3 rfl) ?_
      refine lv_icmp_ge (tgt := 139) hx hb dX2_readTable_99 (by decide) (fun c_13 => ?_) (fun c_13 => ?_)
      · rw [if_pos c_13] at hf
        exact w_139 x3 x4 u _ _ _ hP hS (lv_sub hl [0, 3, 4] rfl) hf
      rw [if_neg c_13] at hf
      refine lv_aload_n hx hb dX2_readTable_102 rfl (lv_at hl 0 rfl) ?_
      refine lv_aload_n hx hb dX2_readTable_103 rfl (lv_at hl 1 rfl) ?_
      refine lv_iload_n hx hb dX2_readTable_104 rfl (lv_at hl 2 rfl) ?_
      refine lv_iload hx hb dX2_readTable_105 (lv_at hl 4 rfl) ?_
      obtain ⟨q_14, hq_14, hf⟩ := bind_ex hf
      refine r_Vi (r := q_14.1) (u' := q_14.2) (As := [.ref (aD g 4), .int x2, .int x4]) (rest := []) (k := 7) (ci := 1) ⟨hx, hb, hml, hown, hts⟩ hC hP hS (by decide) rfl (by decide) rfl (c_X2_readWorker l g u x2 x4 hq_14) (cwV 3 hts gX2_readTable_X2_readWorker rfl rfl rfl (by decide +kernel) ⟨(Nat.le_trans (Nat.le_of_ble_eq_true rfl) hRf), (Nat.le_trans (Nat.le_of_ble_eq_true rfl) hRl)⟩) rfl hl.1 rfl (Nat.le_of_ble_eq_true rfl) dX2_readTable_107 (fun H locs hP hS => ?_)
      refine lv_istore (lv' := [(8, .int q_14.1), (0, .ref (aD g 7)), (1, .ref (aD g 4)), (2, .int x2), (3, .int x3), (4, .int x4), (7, .int x7)]) hx hb dX2_readTable_110 hl (by decide) rfl (fun ls hl => ?_)
      refine lv_iload hx hb dX2_readTable_112 (lv_at hl 0 rfl) ?_
      refine lv_bipush (v := (-9 : Int32)) hx hb dX2_readTable_114 (by decide) ?_
      refine lv_icmp_eq (tgt := 122) hx hb dX2_readTable_116 (by decide) (fun c_15 => ?_) (fun c_15 => ?_)
      · rw [if_pos c_15] at hf
        refine lv_aload_n hx hb dX2_readTable_122 rfl (lv_at hl 2 rfl) ?_
        refine lv_iload_n hx hb dX2_readTable_123 rfl (lv_at hl 3 rfl) ?_
        refine lv_iload hx hb dX2_readTable_124 (lv_at hl 5 rfl) ?_
        refine lv_iconst (v := (3 : Int32)) hx hb dX2_readTable_126 (by decide) ?_
        refine lv_iadd hx hb dX2_readTable_127 ?_
        obtain ⟨q_16, hq_16, hf⟩ := bind_ex hf
        refine r_Si (As := [.ref (aD g 4), .int x2, .int (x4 + (3 : Int32))]) (rest := []) ⟨hx, hb, hml, hown, hts⟩ hC hP hS (c_X2_pastBlanks l g q_14.2 x2 (x4 + (3 : Int32)) hq_16) (va_cwS 3 hts gX2_readTable_X2_pastBlanks rfl rfl rfl (by decide +kernel) ⟨(Nat.le_trans (Nat.le_of_ble_eq_true rfl) hRf), (Nat.le_trans (Nat.le_of_ble_eq_true rfl) hRl)⟩) rfl hl.1 rfl (Nat.le_of_ble_eq_true rfl) dX2_readTable_128 (fun H locs hP hS => ?_)
        refine lv_istore (lv' := [(4, .int q_16), (8, .int q_14.1), (0, .ref (aD g 7)), (1, .ref (aD g 4)), (2, .int x2), (3, .int x3), (7, .int x7)]) hx hb dX2_readTable_131 hl (by decide) rfl (fun ls hl => ?_)
        obtain ⟨x7_17, ex7_17, hf⟩ := lt_ex hf
        refine lv_iinc (v := x7_17) (lv' := [(7, .int x7_17), (4, .int q_16), (8, .int q_14.1), (0, .ref (aD g 7)), (1, .ref (aD g 4)), (2, .int x2), (3, .int x3)]) hx hb dX2_readTable_133 hl (k := 6) rfl (by rw [ex7_17]; rfl) (by decide) rfl (fun ls hl => ?_)
        refine lv_goto (tgt := 89) hx hb dX2_readTable_136 (by decide) ?_
        exact ih x2 x3 q_16 x7_17 q_14.2 _ _ _ hP hS (lv_sub hl [3, 4, 5, 6, 1, 0] rfl) hf
      rw [if_neg c_15] at hf
      refine lv_iload hx hb dX2_readTable_119 (lv_at hl 0 rfl) ?_
      obtain ⟨rfl, rfl⟩ := sp2 hf
      exact kret _ _ _ _ dX2_readTable_121 hP hS trivial
  unfold f_X2_readTable at hf
  refine lv_aload_n hx hb dX2_readTable_0 rfl (lv_at hl 1 rfl) ?_
  refine lv_iload_n hx hb dX2_readTable_1 rfl (lv_at hl 2 rfl) ?_
  obtain ⟨q_1, hq_1, hf⟩ := bind_ex hf
  refine r_Vi (As := [.int x2]) (rest := []) (k := 4) (ci := 2) ⟨hx, hb, hml, hown, hts⟩ hC hP hS (by decide) rfl (by decide) rfl (c_X3_sizeOf l g 4 4 shf_texts u x2 hq_1) (cwV 1 hts gX2_readTable_X3_sizeOf rfl rfl rfl (by decide +kernel) ⟨(Nat.le_trans (Nat.le_of_ble_eq_true rfl) hRf), (Nat.le_trans (Nat.le_of_ble_eq_true rfl) hRl)⟩) rfl hl.1 rfl (Nat.le_of_ble_eq_true rfl) dX2_readTable_2 (fun H locs hP hS => ?_)
  refine lv_istore_n (lv' := [(3, .int q_1), (0, .ref (aD g 7)), (1, .ref (aD g 4)), (2, .int x2)]) hx hb dX2_readTable_5 rfl hl (by decide) rfl (fun ls hl => ?_)
  refine lv_aload_n hx hb dX2_readTable_6 rfl (lv_at hl 1 rfl) ?_
  refine lv_iconst (v := (0 : Int32)) hx hb dX2_readTable_7 (by decide) ?_
  obtain ⟨u_2, eu_2, hf⟩ := lt_ex hf
  refine r_puti hx hb hts hown hC hP hS hinX2 tyX2 tyX2_ok nmX2 7 (by decide) (ci := 1) rfl (by decide) rfl 4 (by decide) (hts (.fieldLink RX2 27 "LoafParts$Reader" "workers" "I") (by decide +kernel)) rfl (ty := .int) (by decide +kernel) rfl rfl (by decide) (by decide) eu_2 dX2_readTable_8 (fun H locs hP hS => ?_)
  refine lv_aload_n hx hb dX2_readTable_11 rfl (lv_at hl 2 rfl) ?_
  refine lv_iload_n hx hb dX2_readTable_12 rfl (lv_at hl 3 rfl) ?_
  refine lv_iconst (v := (0 : Int32)) hx hb dX2_readTable_13 (by decide) ?_
  obtain ⟨q_3, hq_3, hf⟩ := bind_ex hf
  refine r_Si (As := [.ref (aD g 4), .int x2, .int (0 : Int32)]) (rest := []) ⟨hx, hb, hml, hown, hts⟩ hC hP hS (c_X2_pastBlanks l g u_2 x2 (0 : Int32) hq_3) (va_cwS 3 hts gX2_readTable_X2_pastBlanks rfl rfl rfl (by decide +kernel) ⟨(Nat.le_trans (Nat.le_of_ble_eq_true rfl) hRf), (Nat.le_trans (Nat.le_of_ble_eq_true rfl) hRl)⟩) rfl hl.1 rfl (Nat.le_of_ble_eq_true rfl) dX2_readTable_14 (fun H locs hP hS => ?_)
  refine lv_istore (lv' := [(4, .int q_3), (3, .int q_1), (0, .ref (aD g 7)), (1, .ref (aD g 4)), (2, .int x2)]) hx hb dX2_readTable_17 hl (by decide) rfl (fun ls hl => ?_)
  refine lv_aload_n hx hb dX2_readTable_19 rfl (lv_at hl 3 rfl) ?_
  refine lv_iload_n hx hb dX2_readTable_20 rfl (lv_at hl 4 rfl) ?_
  refine lv_iload hx hb dX2_readTable_21 (lv_at hl 0 rfl) ?_
  refine lv_iconst (v := (0 : Int32)) hx hb dX2_readTable_23 (by decide) ?_
  obtain ⟨q_4, hq_4, hf⟩ := bind_ex hf
  refine r_Si (As := [.ref (aD g 4), .int x2, .int q_3, .int (0 : Int32)]) (rest := []) ⟨hx, hb, hml, hown, hts⟩ hC hP hS (c_X2_figure l g u_2 x2 q_3 (0 : Int32) hq_4) (va_cwS 4 hts gX2_readTable_X2_figure rfl rfl rfl (by decide +kernel) ⟨(Nat.le_trans (Nat.le_of_ble_eq_true rfl) hRf), (Nat.le_trans (Nat.le_of_ble_eq_true rfl) hRl)⟩) rfl hl.1 rfl (Nat.le_of_ble_eq_true rfl) dX2_readTable_24 (fun H locs hP hS => ?_)
  refine lv_istore (lv' := [(5, .int q_4), (4, .int q_3), (3, .int q_1), (0, .ref (aD g 7)), (1, .ref (aD g 4)), (2, .int x2)]) hx hb dX2_readTable_27 hl (by decide) rfl (fun ls hl => ?_)
  refine lv_iload hx hb dX2_readTable_29 (lv_at hl 0 rfl) ?_
  refine lv_bipush (v := (-9 : Int32)) hx hb dX2_readTable_31 (by decide) ?_
  refine lv_icmp_ne (tgt := 39) hx hb dX2_readTable_33 (by decide) (fun c_5 => ?_) (fun c_5 => ?_)
  · rw [if_neg c_5] at hf
    refine lv_aload_n hx hb dX2_readTable_39 rfl (lv_at hl 4 rfl) ?_
    refine lv_iload_n hx hb dX2_readTable_40 rfl (lv_at hl 5 rfl) ?_
    refine lv_iload hx hb dX2_readTable_41 (lv_at hl 1 rfl) ?_
    refine lv_iconst (v := (1 : Int32)) hx hb dX2_readTable_43 (by decide) ?_
    refine lv_iadd hx hb dX2_readTable_44 ?_
    refine lv_iconst (v := (0 : Int32)) hx hb dX2_readTable_45 (by decide) ?_
    obtain ⟨q_6, hq_6, hf⟩ := bind_ex hf
    refine r_Si (As := [.ref (aD g 4), .int x2, .int (q_3 + (1 : Int32)), .int (0 : Int32)]) (rest := []) ⟨hx, hb, hml, hown, hts⟩ hC hP hS (c_X2_figure l g u_2 x2 (q_3 + (1 : Int32)) (0 : Int32) hq_6) (va_cwS 4 hts gX2_readTable_X2_figure rfl rfl rfl (by decide +kernel) ⟨(Nat.le_trans (Nat.le_of_ble_eq_true rfl) hRf), (Nat.le_trans (Nat.le_of_ble_eq_true rfl) hRl)⟩) rfl hl.1 rfl (Nat.le_of_ble_eq_true rfl) dX2_readTable_46 (fun H locs hP hS => ?_)
    refine lv_istore (lv' := [(6, .int q_6), (5, .int q_4), (4, .int q_3), (3, .int q_1), (0, .ref (aD g 7)), (1, .ref (aD g 4)), (2, .int x2)]) hx hb dX2_readTable_49 hl (by decide) rfl (fun ls hl => ?_)
    refine lv_iload hx hb dX2_readTable_51 (lv_at hl 0 rfl) ?_
    refine lv_bipush (v := (-9 : Int32)) hx hb dX2_readTable_53 (by decide) ?_
    refine lv_icmp_ne (tgt := 63) hx hb dX2_readTable_55 (by decide) (fun c_7 => ?_) (fun c_7 => ?_)
    · rw [if_neg c_7] at hf
      refine lv_aload_n hx hb dX2_readTable_63 rfl (lv_at hl 4 rfl) ?_
      refine lv_bipush (v := (10 : Int32)) hx hb dX2_readTable_64 (by decide) ?_
      refine lv_iload hx hb dX2_readTable_66 (lv_at hl 1 rfl) ?_
      refine lv_imul hx hb dX2_readTable_68 ?_
      refine lv_iload hx hb dX2_readTable_69 (lv_at hl 0 rfl) ?_
      refine lv_iadd hx hb dX2_readTable_71 ?_
      obtain ⟨u_8, eu_8, hf⟩ := lt_ex hf
      refine r_puti hx hb hts hown hC hP hS hinX2 tyX2 tyX2_ok nmX2 7 (by decide) (ci := 1) rfl (by decide) rfl 3 (by decide) (hts (.fieldLink RX2 39 "LoafParts$Reader" "loaves" "I") (by decide +kernel)) rfl (ty := .int) (by decide +kernel) rfl rfl (by decide) (by decide) eu_8 dX2_readTable_72 (fun H locs hP hS => ?_)
      refine lv_aload_n hx hb dX2_readTable_75 rfl (lv_at hl 5 rfl) ?_
      refine lv_iload_n hx hb dX2_readTable_76 rfl (lv_at hl 6 rfl) ?_
      refine lv_iload hx hb dX2_readTable_77 (lv_at hl 2 rfl) ?_
      refine lv_iconst (v := (2 : Int32)) hx hb dX2_readTable_79 (by decide) ?_
      refine lv_iadd hx hb dX2_readTable_80 ?_
      obtain ⟨q_9, hq_9, hf⟩ := bind_ex hf
      refine r_Si (As := [.ref (aD g 4), .int x2, .int (q_3 + (2 : Int32))]) (rest := []) ⟨hx, hb, hml, hown, hts⟩ hC hP hS (c_X2_pastBlanks l g u_8 x2 (q_3 + (2 : Int32)) hq_9) (va_cwS 3 hts gX2_readTable_X2_pastBlanks rfl rfl rfl (by decide +kernel) ⟨(Nat.le_trans (Nat.le_of_ble_eq_true rfl) hRf), (Nat.le_trans (Nat.le_of_ble_eq_true rfl) hRl)⟩) rfl hl.1 rfl (Nat.le_of_ble_eq_true rfl) dX2_readTable_81 (fun H locs hP hS => ?_)
      refine lv_istore (lv' := [(4, .int q_9), (6, .int q_6), (5, .int q_4), (3, .int q_1), (0, .ref (aD g 7)), (1, .ref (aD g 4)), (2, .int x2)]) hx hb dX2_readTable_84 hl (by decide) rfl (fun ls hl => ?_)
      refine lv_iconst (v := (0 : Int32)) hx hb dX2_readTable_86 (by decide) ?_
      refine lv_istore (lv' := [(7, .int (0 : Int32)), (4, .int q_9), (6, .int q_6), (5, .int q_4), (3, .int q_1), (0, .ref (aD g 7)), (1, .ref (aD g 4)), (2, .int x2)]) hx hb dX2_readTable_87 hl (by decide) rfl (fun ls hl => ?_)
      exact w_89 fu x2 q_1 q_9 (0 : Int32) u_8 _ _ _ hP hS (lv_sub hl [5, 6, 7, 4, 1, 0] rfl) hf
    rw [if_pos c_7] at hf
    refine lv_iload hx hb dX2_readTable_58 (lv_at hl 2 rfl) ?_
    refine lv_iconst (v := (1 : Int32)) hx hb dX2_readTable_60 (by decide) ?_
    refine lv_iadd hx hb dX2_readTable_61 ?_
    obtain ⟨rfl, rfl⟩ := sp2 hf
    exact kret _ _ _ _ dX2_readTable_62 hP hS trivial
  rw [if_pos c_5] at hf
  refine lv_iload hx hb dX2_readTable_36 (lv_at hl 1 rfl) ?_
  obtain ⟨rfl, rfl⟩ := sp2 hf
  exact kret _ _ _ _ dX2_readTable_38 hP hS trivial
set_option maxHeartbeats 4000000 in
set_option maxRecDepth 100000 in
theorem c_X5_fault (l : Launch) (g : GG) (u : UU) (x1 : Int32) {r : Int32} {u' : UU} (hf : f_X5_fault x1 u = some (r, u')) : Ci l g 0 55 yX5_fault wsX5_fault 6 143 [.ref (aD g 0), .int x1] u r u' := by
  refine ct_i (cc := cX5_fault) (maxL := 3) (by decide) rfl (Nat.le_of_ble_eq_true rfl) ?_
  intro p e s m args below meth c R Q ls hx hb hml hown hts hC hP hl hRf hRl kret hS
  have hown : s.vm.findClass RX5 = some m.cls := hown
  have hl : lv_has ls 3 [(0, .ref (aD g 0)), (1, .int x1)] := hl
  have hinX5 : ∀ w ∈ u_ws RX5 TX5 12, w ∈ wsX5_fault := by decide +kernel
  unfold f_X5_fault at hf
  refine lv_aload_n hx hb dX5_fault_0 rfl (lv_at hl 0 rfl) ?_
  refine lv_aload_n hx hb dX5_fault_1 rfl (lv_at hl 0 rfl) ?_
  refine r_get hx hb hts hown hC hP hinX5 0 (by decide) (ci := 4) rfl (by decide) rfl 1 (by decide) (hts (.fieldLink RX5 18 "LoafParts" "texts" "LLoafParts$Shelf;") (by decide +kernel)) (v := .ref (aD g 4)) rfl dX5_fault_2 ?_
  refine lv_iload_n hx hb dX5_fault_5 rfl (lv_at hl 1 rfl) ?_
  obtain ⟨q_1, hq_1, hf⟩ := bind_ex hf
  refine r_Vi (r := q_1.1) (u' := q_1.2) (As := [.ref (aD g 4), .int x1]) (rest := []) (k := 0) (ci := 4) ⟨hx, hb, hml, hown, hts⟩ hC hP hS (by decide) rfl (by decide) rfl (c_X5_refuseMissing l g 4 4 shf_texts u x1 hq_1) (cwV 2 hts gX5_fault_X5_refuseMissing rfl rfl rfl (by decide +kernel) ⟨(Nat.le_trans (Nat.le_of_ble_eq_true rfl) hRf), (Nat.le_trans (Nat.le_of_ble_eq_true rfl) hRl)⟩) rfl hl.1 rfl (Nat.le_of_ble_eq_true rfl) dX5_fault_6 (fun H locs hP hS => ?_)
  refine lv_istore_n (lv' := [(2, .int q_1.1), (0, .ref (aD g 0)), (1, .int x1)]) hx hb dX5_fault_9 rfl hl (by decide) rfl (fun ls hl => ?_)
  refine lv_iload_n hx hb dX5_fault_10 rfl (lv_at hl 0 rfl) ?_
  refine lv_if_eq (tgt := 18) hx hb dX5_fault_11 (by decide) (fun c_2 => ?_) (fun c_2 => ?_)
  · rw [if_pos c_2] at hf
    refine lv_aload_n hx hb dX5_fault_18 rfl (lv_at hl 1 rfl) ?_
    refine r_get hx hb hts hown hC hP hinX5 0 (by decide) (ci := 4) rfl (by decide) rfl 2 (by decide) (hts (.fieldLink RX5 24 "LoafParts" "reader" "LLoafParts$Reader;") (by decide +kernel)) (v := .ref (aD g 7)) rfl dX5_fault_19 ?_
    refine lv_aload_n hx hb dX5_fault_22 rfl (lv_at hl 1 rfl) ?_
    refine r_get hx hb hts hown hC hP hinX5 0 (by decide) (ci := 4) rfl (by decide) rfl 1 (by decide) (hts (.fieldLink RX5 18 "LoafParts" "texts" "LLoafParts$Shelf;") (by decide +kernel)) (v := .ref (aD g 4)) rfl dX5_fault_23 ?_
    refine lv_iload_n hx hb dX5_fault_26 rfl (lv_at hl 2 rfl) ?_
    obtain ⟨q_3, hq_3, hf⟩ := bind_ex hf
    refine r_Vi (r := q_3.1) (u' := q_3.2) (As := [.ref (aD g 4), .int x1]) (rest := []) (k := 7) (ci := 1) ⟨hx, hb, hml, hown, hts⟩ hC hP hS (by decide) rfl (by decide) rfl (c_X2_readTable l g q_1.2 x1 hq_3) (cwV 2 hts gX5_fault_X2_readTable rfl rfl rfl (by decide +kernel) ⟨(Nat.le_trans (Nat.le_of_ble_eq_true rfl) hRf), (Nat.le_trans (Nat.le_of_ble_eq_true rfl) hRl)⟩) rfl hl.1 rfl (Nat.le_of_ble_eq_true rfl) dX5_fault_27 (fun H locs hP hS => ?_)
    obtain ⟨rfl, rfl⟩ := sp2 hf
    exact kret _ _ _ _ dX5_fault_30 hP hS trivial
  rw [if_neg c_2] at hf
  refine lv_iload_n hx hb dX5_fault_14 rfl (lv_at hl 0 rfl) ?_
  refine lv_goto (tgt := 30) hx hb dX5_fault_15 (by decide) ?_
  obtain ⟨rfl, rfl⟩ := sp2 hf
  exact kret _ _ _ _ dX5_fault_30 hP hS trivial
set_option maxHeartbeats 4000000 in
set_option maxRecDepth 100000 in
theorem c_X4_clear (l : Launch) (g : GG) (b : Nat) (htb : tab b) (u : UU) {u' : UU} (hf : f_X4_clear b u = some u') : Cv l g 0 55 yX4_clear wsX4_clear 0 0 [.ref (aD g b)] u u' := by
  refine ct_v (cc := cX4_clear) (maxL := 2) (by decide) rfl (Nat.le_of_ble_eq_true rfl) ?_
  intro p e s m args below meth c R Q ls hx hb hml hown hts hC hP hl hRf hRl kret hS
  have hown : s.vm.findClass RX4 = some m.cls := hown
  have hl : lv_has ls 2 [(0, .ref (aD g b))] := hl
  have hinX4 : ∀ w ∈ u_ws RX4 TX4 13, w ∈ wsX4_clear := by decide +kernel
  have w_22 : ∀ (n : Nat), ∀ (x1 : Int32) (u : UU) (H : Heap) (locs : List Loc) (ls : Array Slot), Ps g 0 55 u H → va_S (aA g) s.heap H locs → lv_has ls 2 [(0, .ref (aD g b)), (1, .int x1)] → f_X4_clear_22 b n x1 u = some u' → W p l e R s m args below meth c H locs 0 0 Q (F0 m 22 ls []) := by
    intro n
    induction n with
    | zero =>
      intro x1 u H locs ls hP hS hl hf
      rw [f_X4_clear_22] at hf
      cases hf
    | succ n ih =>
      intro x1 u H locs ls hP hS hl hf
      rw [f_X4_clear_22] at hf
      refine lv_iload_n hx hb dX4_clear_22 rfl (lv_at hl 1 rfl) ?_
      refine lv_bipush (v := (17 : Int32)) hx hb dX4_clear_23 (by decide) ?_
      refine lv_icmp_ge (tgt := 41) hx hb dX4_clear_25 (by decide) (fun c_5 => ?_) (fun c_5 => ?_)
      · rw [if_pos c_5] at hf
        obtain rfl := sp1 hf
        exact kret _ _ _ _ dX4_clear_41 hP hS trivial
      rw [if_neg c_5] at hf
      refine lv_aload_n hx hb dX4_clear_28 rfl (lv_at hl 0 rfl) ?_
      refine r_get hx hb hts hown hC hP hinX4 b (tab_k0 htb) (ci := 3) (tab_0 htb) (by decide) rfl 3 (by decide) (hts (.fieldLink RX4 9 "LoafParts$Table" "lying" "[I") (by decide +kernel)) (v := .ref (aD g (b + 1))) rfl dX4_clear_29 ?_
      refine lv_iload_n hx hb dX4_clear_32 rfl (lv_at hl 1 rfl) ?_
      refine lv_iconst (v := (0 : Int32)) hx hb dX4_clear_33 (by decide) ?_
      obtain ⟨hi_6, hf⟩ := ix_ex hf
      obtain ⟨u_7, eu_7, hf⟩ := lt_ex hf
      refine r_ast hx hb hC hP hS (b + 1) (tab_k1 htb) (tab_1 htb) hi_6 eu_7 dX4_clear_34 (fun H locs hP hS => ?_)
      obtain ⟨x1_8, ex1_8, hf⟩ := lt_ex hf
      refine lv_iinc (v := x1_8) (lv' := [(1, .int x1_8), (0, .ref (aD g b))]) hx hb dX4_clear_35 hl (k := 1) rfl (by rw [ex1_8]; rfl) (by decide) rfl (fun ls hl => ?_)
      refine lv_goto (tgt := 22) hx hb dX4_clear_38 (by decide) ?_
      exact ih x1_8 u_7 _ _ _ hP hS (lv_sub hl [1, 0] rfl) hf
  unfold f_X4_clear at hf
  refine lv_aload_n hx hb dX4_clear_0 rfl (lv_at hl 0 rfl) ?_
  refine lv_iconst (v := (0 : Int32)) hx hb dX4_clear_1 (by decide) ?_
  obtain ⟨u_1, eu_1, hf⟩ := lt_ex hf
  refine r_puti hx hb hts hown hC hP hS hinX4 tyX4 tyX4_ok nmX4 b (tab_k0 htb) (ci := 3) (tab_0 htb) (by decide) rfl 0 (by decide) (hts (.fieldLink RX4 39 "LoafParts$Table" "workers" "I") (by decide +kernel)) rfl (ty := .int) (by decide +kernel) rfl rfl (by decide) (by decide) eu_1 dX4_clear_2 (fun H locs hP hS => ?_)
  refine lv_aload_n hx hb dX4_clear_5 rfl (lv_at hl 0 rfl) ?_
  refine lv_iconst (v := (0 : Int32)) hx hb dX4_clear_6 (by decide) ?_
  obtain ⟨u_2, eu_2, hf⟩ := lt_ex hf
  refine r_puti hx hb hts hown hC hP hS hinX4 tyX4 tyX4_ok nmX4 b (tab_k0 htb) (ci := 3) (tab_0 htb) (by decide) rfl 1 (by decide) (hts (.fieldLink RX4 43 "LoafParts$Table" "loaves" "I") (by decide +kernel)) rfl (ty := .int) (by decide +kernel) rfl rfl (by decide) (by decide) eu_2 dX4_clear_7 (fun H locs hP hS => ?_)
  refine lv_aload_n hx hb dX4_clear_10 rfl (lv_at hl 0 rfl) ?_
  refine lv_iconst (v := (0 : Int32)) hx hb dX4_clear_11 (by decide) ?_
  obtain ⟨u_3, eu_3, hf⟩ := lt_ex hf
  refine r_puti hx hb hts hown hC hP hS hinX4 tyX4 tyX4_ok nmX4 b (tab_k0 htb) (ci := 3) (tab_0 htb) (by decide) rfl 2 (by decide) (hts (.fieldLink RX4 46 "LoafParts$Table" "deeds" "I") (by decide +kernel)) rfl (ty := .int) (by decide +kernel) rfl rfl (by decide) (by decide) eu_3 dX4_clear_12 (fun H locs hP hS => ?_)
  refine lv_aload_n hx hb dX4_clear_15 rfl (lv_at hl 0 rfl) ?_
  refine lv_iconst (v := (0 : Int32)) hx hb dX4_clear_16 (by decide) ?_
  obtain ⟨u_4, eu_4, hf⟩ := lt_ex hf
  refine r_puti hx hb hts hown hC hP hS hinX4 tyX4 tyX4_ok nmX4 b (tab_k0 htb) (ci := 3) (tab_0 htb) (by decide) rfl 4 (by decide) (hts (.fieldLink RX4 49 "LoafParts$Table" "lyingSet" "I") (by decide +kernel)) rfl (ty := .int) (by decide +kernel) rfl rfl (by decide) (by decide) eu_4 dX4_clear_17 (fun H locs hP hS => ?_)
  refine lv_iconst (v := (0 : Int32)) hx hb dX4_clear_20 (by decide) ?_
  refine lv_istore_n (lv' := [(1, .int (0 : Int32)), (0, .ref (aD g b))]) hx hb dX4_clear_21 rfl hl (by decide) rfl (fun ls hl => ?_)
  exact w_22 fu (0 : Int32) u_4 _ _ _ hP hS (lv_sub hl [1, 0] rfl) hf
set_option maxHeartbeats 4000000 in
set_option maxRecDepth 100000 in
theorem c_X4_dueOf (l : Launch) (g : GG) (u : UU) (x1 : Int32) {r : Int32} (hf : f_X4_dueOf x1 u = some r) : Ci l g 0 55 yX4_dueOf wsX4_dueOf 0 0 [.ref (aD g 11), .int x1] u r u := by
  refine ct_i (cc := cX4_dueOf) (maxL := 2) (by decide) rfl (Nat.le_of_ble_eq_true rfl) ?_
  intro p e s m args below meth c R Q ls hx hb hml hown hts hC hP hl hRf hRl kret hS
  have hown : s.vm.findClass RX4 = some m.cls := hown
  have hl : lv_has ls 2 [(0, .ref (aD g 11)), (1, .int x1)] := hl
  have hinX4 : ∀ w ∈ u_ws RX4 TX4 13, w ∈ wsX4_dueOf := by decide +kernel
  unfold f_X4_dueOf at hf
  refine lv_aload_n hx hb dX4_dueOf_0 rfl (lv_at hl 0 rfl) ?_
  refine r_get hx hb hts hown hC hP hinX4 11 (by decide) (ci := 3) rfl (by decide) rfl 7 (by decide) (hts (.fieldLink RX4 21 "LoafParts$Table" "under" "[I") (by decide +kernel)) (v := .ref (aD g 15)) rfl dX4_dueOf_1 ?_
  refine lv_iload_n hx hb dX4_dueOf_4 rfl (lv_at hl 1 rfl) ?_
  obtain ⟨hi_1, hf⟩ := ix_ex hf
  refine r_ald hx hb hC hP 15 (by decide) rfl hi_1 dX4_dueOf_5 ?_
  refine lv_if_le (tgt := 28) hx hb dX4_dueOf_6 (by decide) (fun c_2 => ?_) (fun c_2 => ?_)
  · rw [if_pos c_2] at hf
    refine lv_iconst (v := (0 : Int32)) hx hb dX4_dueOf_28 (by decide) ?_
    obtain rfl := sp1 hf
    exact kret _ _ _ _ dX4_dueOf_29 hP hS trivial
  rw [if_neg c_2] at hf
  refine lv_ldc (v := (720720 : Int32)) hx hb hown (hts (.constant RX4 72 (720720)) (by decide +kernel)) dX4_dueOf_9 ?_
  refine lv_aload_n hx hb dX4_dueOf_11 rfl (lv_at hl 0 rfl) ?_
  refine r_get hx hb hts hown hC hP hinX4 11 (by decide) (ci := 3) rfl (by decide) rfl 7 (by decide) (hts (.fieldLink RX4 21 "LoafParts$Table" "under" "[I") (by decide +kernel)) (v := .ref (aD g 15)) rfl dX4_dueOf_12 ?_
  refine lv_iload_n hx hb dX4_dueOf_15 rfl (lv_at hl 1 rfl) ?_
  obtain ⟨hi_3, hf⟩ := ix_ex hf
  refine r_ald hx hb hC hP 15 (by decide) rfl hi_3 dX4_dueOf_16 ?_
  refine lv_idiv hx hb dX4_dueOf_17 (ne_nle c_2) ?_
  refine lv_aload_n hx hb dX4_dueOf_18 rfl (lv_at hl 0 rfl) ?_
  refine r_get hx hb hts hown hC hP hinX4 11 (by decide) (ci := 3) rfl (by decide) rfl 6 (by decide) (hts (.fieldLink RX4 18 "LoafParts$Table" "over" "[I") (by decide +kernel)) (v := .ref (aD g 14)) rfl dX4_dueOf_19 ?_
  refine lv_iload_n hx hb dX4_dueOf_22 rfl (lv_at hl 1 rfl) ?_
  obtain ⟨hi_4, hf⟩ := ix_ex hf
  refine r_ald hx hb hC hP 14 (by decide) rfl hi_4 dX4_dueOf_23 ?_
  refine lv_imul hx hb dX4_dueOf_24 ?_
  refine lv_goto (tgt := 29) hx hb dX4_dueOf_25 (by decide) ?_
  obtain rfl := sp1 hf
  exact kret _ _ _ _ dX4_dueOf_29 hP hS trivial
set_option maxHeartbeats 4000000 in
set_option maxRecDepth 100000 in
theorem c_X4_begin (l : Launch) (g : GG) (u : UU) {u' : UU} (hf : f_X4_begin u = some u') : Cv l g 0 55 yX4_begin wsX4_begin 1 21 [.ref (aD g 11), .ref (aD g 7)] u u' := by
  refine ct_v (cc := cX4_begin) (maxL := 3) (by decide) rfl (Nat.le_of_ble_eq_true rfl) ?_
  intro p e s m args below meth c R Q ls hx hb hml hown hts hC hP hl hRf hRl kret hS
  have hown : s.vm.findClass RX4 = some m.cls := hown
  have hl : lv_has ls 3 [(0, .ref (aD g 11)), (1, .ref (aD g 7))] := hl
  have hinX2 : ∀ w ∈ u_ws RX2 TX2 5, w ∈ wsX4_begin := by decide +kernel
  have hinX4 : ∀ w ∈ u_ws RX4 TX4 13, w ∈ wsX4_begin := by decide +kernel
  have w_22 : ∀ (n : Nat), ∀ (x2 : Int32) (u : UU) (H : Heap) (locs : List Loc) (ls : Array Slot), Ps g 0 55 u H → va_S (aA g) s.heap H locs → lv_has ls 3 [(0, .ref (aD g 11)), (1, .ref (aD g 7)), (2, .int x2)] → f_X4_begin_22 n x2 u = some u' → W p l e R s m args below meth c H locs 0 0 Q (F0 m 22 ls []) := by
    intro n
    induction n with
    | zero =>
      intro x2 u H locs ls hP hS hl hf
      rw [f_X4_begin_22] at hf
      cases hf
    | succ n ih =>
      intro x2 u H locs ls hP hS hl hf
      rw [f_X4_begin_22] at hf
      refine lv_iload_n hx hb dX4_begin_22 rfl (lv_at hl 2 rfl) ?_
      refine lv_aload_n hx hb dX4_begin_23 rfl (lv_at hl 0 rfl) ?_
      refine r_get hx hb hts hown hC hP hinX4 11 (by decide) (ci := 3) rfl (by decide) rfl 0 (by decide) (hts (.fieldLink RX4 39 "LoafParts$Table" "workers" "I") (by decide +kernel)) (v := .int (ui u 11 0)) rfl dX4_begin_24 ?_
      refine lv_icmp_ge (tgt := 90) hx hb dX4_begin_27 (by decide) (fun c_4 => ?_) (fun c_4 => ?_)
      · rw [if_pos c_4] at hf
        obtain rfl := sp1 hf
        exact kret _ _ _ _ dX4_begin_90 hP hS trivial
      rw [if_neg c_4] at hf
      refine lv_aload_n hx hb dX4_begin_30 rfl (lv_at hl 0 rfl) ?_
      refine r_get hx hb hts hown hC hP hinX4 11 (by decide) (ci := 3) rfl (by decide) rfl 5 (by decide) (hts (.fieldLink RX4 15 "LoafParts$Table" "kind" "[I") (by decide +kernel)) (v := .ref (aD g 13)) rfl dX4_begin_31 ?_
      refine lv_iload_n hx hb dX4_begin_34 rfl (lv_at hl 2 rfl) ?_
      refine lv_aload_n hx hb dX4_begin_35 rfl (lv_at hl 1 rfl) ?_
      refine r_getN hx hb hts hown hC hP hinX2 7 (by decide) (ci := 1) rfl (by decide) rfl 0 (by decide) 14 rfl (v := .ref (aD g 8)) rfl dX4_begin_36 ?_
      refine lv_iload_n hx hb dX4_begin_39 rfl (lv_at hl 2 rfl) ?_
      obtain ⟨hi_5, hf⟩ := ix_ex hf
      refine r_ald hx hb hC hP 8 (by decide) rfl hi_5 dX4_begin_40 ?_
      obtain ⟨hi_6, hf⟩ := ix_ex hf
      obtain ⟨u_7, eu_7, hf⟩ := lt_ex hf
      refine r_ast hx hb hC hP hS 13 (by decide) rfl hi_6 eu_7 dX4_begin_41 (fun H locs hP hS => ?_)
      refine lv_aload_n hx hb dX4_begin_42 rfl (lv_at hl 0 rfl) ?_
      refine r_get hx hb hts hown hC hP hinX4 11 (by decide) (ci := 3) rfl (by decide) rfl 6 (by decide) (hts (.fieldLink RX4 18 "LoafParts$Table" "over" "[I") (by decide +kernel)) (v := .ref (aD g 14)) rfl dX4_begin_43 ?_
      refine lv_iload_n hx hb dX4_begin_46 rfl (lv_at hl 2 rfl) ?_
      refine lv_aload_n hx hb dX4_begin_47 rfl (lv_at hl 1 rfl) ?_
      refine r_getN hx hb hts hown hC hP hinX2 7 (by decide) (ci := 1) rfl (by decide) rfl 1 (by decide) 15 rfl (v := .ref (aD g 9)) rfl dX4_begin_48 ?_
      refine lv_iload_n hx hb dX4_begin_51 rfl (lv_at hl 2 rfl) ?_
      obtain ⟨hi_8, hf⟩ := ix_ex hf
      refine r_ald hx hb hC hP 9 (by decide) rfl hi_8 dX4_begin_52 ?_
      obtain ⟨hi_9, hf⟩ := ix_ex hf
      obtain ⟨u_10, eu_10, hf⟩ := lt_ex hf
      refine r_ast hx hb hC hP hS 14 (by decide) rfl hi_9 eu_10 dX4_begin_53 (fun H locs hP hS => ?_)
      refine lv_aload_n hx hb dX4_begin_54 rfl (lv_at hl 0 rfl) ?_
      refine r_get hx hb hts hown hC hP hinX4 11 (by decide) (ci := 3) rfl (by decide) rfl 7 (by decide) (hts (.fieldLink RX4 21 "LoafParts$Table" "under" "[I") (by decide +kernel)) (v := .ref (aD g 15)) rfl dX4_begin_55 ?_
      refine lv_iload_n hx hb dX4_begin_58 rfl (lv_at hl 2 rfl) ?_
      refine lv_aload_n hx hb dX4_begin_59 rfl (lv_at hl 1 rfl) ?_
      refine r_getN hx hb hts hown hC hP hinX2 7 (by decide) (ci := 1) rfl (by decide) rfl 2 (by decide) 16 rfl (v := .ref (aD g 10)) rfl dX4_begin_60 ?_
      refine lv_iload_n hx hb dX4_begin_63 rfl (lv_at hl 2 rfl) ?_
      obtain ⟨hi_11, hf⟩ := ix_ex hf
      refine r_ald hx hb hC hP 10 (by decide) rfl hi_11 dX4_begin_64 ?_
      obtain ⟨hi_12, hf⟩ := ix_ex hf
      obtain ⟨u_13, eu_13, hf⟩ := lt_ex hf
      refine r_ast hx hb hC hP hS 15 (by decide) rfl hi_12 eu_13 dX4_begin_65 (fun H locs hP hS => ?_)
      refine lv_aload_n hx hb dX4_begin_66 rfl (lv_at hl 0 rfl) ?_
      refine r_get hx hb hts hown hC hP hinX4 11 (by decide) (ci := 3) rfl (by decide) rfl 8 (by decide) (hts (.fieldLink RX4 24 "LoafParts$Table" "has" "[I") (by decide +kernel)) (v := .ref (aD g 16)) rfl dX4_begin_67 ?_
      refine lv_iload_n hx hb dX4_begin_70 rfl (lv_at hl 2 rfl) ?_
      refine lv_iconst (v := (0 : Int32)) hx hb dX4_begin_71 (by decide) ?_
      obtain ⟨hi_14, hf⟩ := ix_ex hf
      obtain ⟨u_15, eu_15, hf⟩ := lt_ex hf
      refine r_ast hx hb hC hP hS 16 (by decide) rfl hi_14 eu_15 dX4_begin_72 (fun H locs hP hS => ?_)
      refine lv_aload_n hx hb dX4_begin_73 rfl (lv_at hl 0 rfl) ?_
      refine r_get hx hb hts hown hC hP hinX4 11 (by decide) (ci := 3) rfl (by decide) rfl 9 (by decide) (hts (.fieldLink RX4 27 "LoafParts$Table" "lack" "[I") (by decide +kernel)) (v := .ref (aD g 17)) rfl dX4_begin_74 ?_
      refine lv_iload_n hx hb dX4_begin_77 rfl (lv_at hl 2 rfl) ?_
      refine lv_aload_n hx hb dX4_begin_78 rfl (lv_at hl 0 rfl) ?_
      refine lv_iload_n hx hb dX4_begin_79 rfl (lv_at hl 2 rfl) ?_
      obtain ⟨q_16, hq_16, hf⟩ := bind_ex hf
      refine r_Vi (As := [.int x2]) (rest := [.int x2, .ref (aD g 17)]) (k := 11) (ci := 3) ⟨hx, hb, hml, hown, hts⟩ hC hP hS (by decide) rfl (by decide) rfl (c_X4_dueOf l g u_15 x2 hq_16) (cwV 1 hts gX4_begin_X4_dueOf rfl rfl rfl (by decide +kernel) ⟨(Nat.le_trans (Nat.le_of_ble_eq_true rfl) hRf), (Nat.le_trans (Nat.le_of_ble_eq_true rfl) hRl)⟩) rfl hl.1 rfl (Nat.le_of_ble_eq_true rfl) dX4_begin_80 (fun H locs hP hS => ?_)
      obtain ⟨hi_17, hf⟩ := ix_ex hf
      obtain ⟨u_18, eu_18, hf⟩ := lt_ex hf
      refine r_ast hx hb hC hP hS 17 (by decide) rfl hi_17 eu_18 dX4_begin_83 (fun H locs hP hS => ?_)
      obtain ⟨x2_19, ex2_19, hf⟩ := lt_ex hf
      refine lv_iinc (v := x2_19) (lv' := [(2, .int x2_19), (0, .ref (aD g 11)), (1, .ref (aD g 7))]) hx hb dX4_begin_84 hl (k := 2) rfl (by rw [ex2_19]; rfl) (by decide) rfl (fun ls hl => ?_)
      refine lv_goto (tgt := 22) hx hb dX4_begin_87 (by decide) ?_
      exact ih x2_19 u_18 _ _ _ hP hS (lv_sub hl [1, 2, 0] rfl) hf
  unfold f_X4_begin at hf
  refine lv_aload_n hx hb dX4_begin_0 rfl (lv_at hl 0 rfl) ?_
  obtain ⟨q_1, hq_1, hf⟩ := bind_ex hf
  refine r_Vv (As := []) (rest := []) (k := 11) (ci := 3) ⟨hx, hb, hml, hown, hts⟩ hC hP hS (by decide) rfl (by decide) rfl (c_X4_clear l g 11 tab_11 u hq_1) (cwV 0 hts gX4_begin_X4_clear rfl rfl rfl (by decide +kernel) ⟨(Nat.le_trans (Nat.le_of_ble_eq_true rfl) hRf), (Nat.le_trans (Nat.le_of_ble_eq_true rfl) hRl)⟩) rfl hl.1 rfl (Nat.le_of_ble_eq_true rfl) dX4_begin_1 (fun H locs hP hS => ?_)
  refine lv_aload_n hx hb dX4_begin_4 rfl (lv_at hl 0 rfl) ?_
  refine lv_aload_n hx hb dX4_begin_5 rfl (lv_at hl 1 rfl) ?_
  refine r_getN hx hb hts hown hC hP hinX2 7 (by decide) (ci := 1) rfl (by decide) rfl 4 (by decide) 12 rfl (v := .int (ui q_1 7 4)) rfl dX4_begin_6 ?_
  obtain ⟨u_2, eu_2, hf⟩ := lt_ex hf
  refine r_puti hx hb hts hown hC hP hS hinX4 tyX4 tyX4_ok nmX4 11 (by decide) (ci := 3) rfl (by decide) rfl 0 (by decide) (hts (.fieldLink RX4 39 "LoafParts$Table" "workers" "I") (by decide +kernel)) rfl (ty := .int) (by decide +kernel) rfl rfl (by decide) (by decide) eu_2 dX4_begin_9 (fun H locs hP hS => ?_)
  refine lv_aload_n hx hb dX4_begin_12 rfl (lv_at hl 0 rfl) ?_
  refine lv_aload_n hx hb dX4_begin_13 rfl (lv_at hl 1 rfl) ?_
  refine r_getN hx hb hts hown hC hP hinX2 7 (by decide) (ci := 1) rfl (by decide) rfl 3 (by decide) 13 rfl (v := .int (ui u_2 7 3)) rfl dX4_begin_14 ?_
  obtain ⟨u_3, eu_3, hf⟩ := lt_ex hf
  refine r_puti hx hb hts hown hC hP hS hinX4 tyX4 tyX4_ok nmX4 11 (by decide) (ci := 3) rfl (by decide) rfl 1 (by decide) (hts (.fieldLink RX4 43 "LoafParts$Table" "loaves" "I") (by decide +kernel)) rfl (ty := .int) (by decide +kernel) rfl rfl (by decide) (by decide) eu_3 dX4_begin_17 (fun H locs hP hS => ?_)
  refine lv_iconst (v := (0 : Int32)) hx hb dX4_begin_20 (by decide) ?_
  refine lv_istore_n (lv' := [(2, .int (0 : Int32)), (0, .ref (aD g 11)), (1, .ref (aD g 7))]) hx hb dX4_begin_21 rfl hl (by decide) rfl (fun ls hl => ?_)
  exact w_22 fu (0 : Int32) u_3 _ _ _ hP hS (lv_sub hl [1, 2, 0] rfl) hf
set_option maxHeartbeats 4000000 in
set_option maxRecDepth 100000 in
theorem c_X5_table (l : Launch) (g : GG) (u : UU) (x1 : Int32) {r : Int32} {u' : UU} (hf : f_X5_table x1 u = some (r, u')) : Ci l g 0 55 yX5_table wsX5_table 6 143 [.ref (aD g 0), .int x1] u r u' := by
  refine ct_i (cc := cX5_table) (maxL := 4) (by decide) rfl (Nat.le_of_ble_eq_true rfl) ?_
  intro p e s m args below meth c R Q ls hx hb hml hown hts hC hP hl hRf hRl kret hS
  have hown : s.vm.findClass RX5 = some m.cls := hown
  have hl : lv_has ls 4 [(0, .ref (aD g 0)), (1, .int x1)] := hl
  have hinX4 : ∀ w ∈ u_ws RX4 TX4 13, w ∈ wsX5_table := by decide +kernel
  have hinX5 : ∀ w ∈ u_ws RX5 TX5 12, w ∈ wsX5_table := by decide +kernel
  have w_49 : ∀ (n : Nat), ∀ (x3 : Int32) (u : UU) (H : Heap) (locs : List Loc) (ls : Array Slot), Ps g 0 55 u H → va_S (aA g) s.heap H locs → lv_has ls 4 [(0, .ref (aD g 0)), (3, .int x3)] → f_X5_table_49 n x3 u = some (r, u') → W p l e R s m args below meth c H locs 0 0 Q (F0 m 49 ls []) := by
    intro n
    induction n with
    | zero =>
      intro x3 u H locs ls hP hS hl hf
      rw [f_X5_table_49] at hf
      cases hf
    | succ n ih =>
      intro x3 u H locs ls hP hS hl hf
      rw [f_X5_table_49] at hf
      refine lv_iload_n hx hb dX5_table_49 rfl (lv_at hl 1 rfl) ?_
      refine lv_iconst (v := (3 : Int32)) hx hb dX5_table_50 (by decide) ?_
      refine lv_icmp_ge (tgt := 69) hx hb dX5_table_51 (by decide) (fun c_6 => ?_) (fun c_6 => ?_)
      · rw [if_pos c_6] at hf
        refine lv_aload_n hx hb dX5_table_69 rfl (lv_at hl 0 rfl) ?_
        refine r_get hx hb hts hown hC hP hinX5 0 (by decide) (ci := 4) rfl (by decide) rfl 3 (by decide) (hts (.fieldLink RX5 31 "LoafParts" "table" "LLoafParts$Table;") (by decide +kernel)) (v := .ref (aD g 11)) rfl dX5_table_70 ?_
        refine r_getN hx hb hts hown hC hP hinX4 11 (by decide) (ci := 3) rfl (by decide) rfl 0 (by decide) 0 rfl (v := .int (ui u 11 0)) rfl dX5_table_73 ?_
        obtain ⟨rfl, rfl⟩ := sp2 hf
        exact kret _ _ _ _ dX5_table_76 hP hS trivial
      rw [if_neg c_6] at hf
      refine lv_aload_n hx hb dX5_table_54 rfl (lv_at hl 0 rfl) ?_
      refine r_get hx hb hts hown hC hP hinX5 0 (by decide) (ci := 4) rfl (by decide) rfl 4 (by decide) (hts (.fieldLink RX5 35 "LoafParts" "kept" "[LLoafParts$Table;") (by decide +kernel)) (v := .ref (aD g 21)) rfl dX5_table_55 ?_
      refine lv_iload_n hx hb dX5_table_58 rfl (lv_at hl 1 rfl) ?_
      obtain ⟨hi_7, hf⟩ := ix_ex hf
      refine r_aldq hx hb hC hP 21 (by decide) rfl hi_7 dX5_table_59 ?_
      obtain ⟨q_8, hq_8, hf⟩ := bind_ex hf
      refine r_Vv (As := []) (rest := []) (k := (22 + 10 * (x3 : Int32).toNatClampNeg)) (ci := 3) ⟨hx, hb, hml, hown, hts⟩ hC hP hS (tab_k0 (tab_kept hi_7)) (tab_0 (tab_kept hi_7)) (by decide) rfl (c_X4_clear l g (22 + 10 * (x3 : Int32).toNatClampNeg) (tab_kept hi_7) u hq_8) (cwV 0 hts gX5_table_X4_clear rfl rfl rfl (by decide +kernel) ⟨(Nat.le_trans (Nat.le_of_ble_eq_true rfl) hRf), (Nat.le_trans (Nat.le_of_ble_eq_true rfl) hRl)⟩) rfl hl.1 rfl (Nat.le_of_ble_eq_true rfl) dX5_table_60 (fun H locs hP hS => ?_)
      obtain ⟨x3_9, ex3_9, hf⟩ := lt_ex hf
      refine lv_iinc (v := x3_9) (lv' := [(3, .int x3_9), (0, .ref (aD g 0))]) hx hb dX5_table_63 hl (k := 1) rfl (by rw [ex3_9]; rfl) (by decide) rfl (fun ls hl => ?_)
      refine lv_goto (tgt := 49) hx hb dX5_table_66 (by decide) ?_
      exact ih x3_9 q_8 _ _ _ hP hS (lv_sub hl [1, 0] rfl) hf
  unfold f_X5_table at hf
  refine lv_aload_n hx hb dX5_table_0 rfl (lv_at hl 0 rfl) ?_
  refine lv_aload_n hx hb dX5_table_1 rfl (lv_at hl 0 rfl) ?_
  refine r_get hx hb hts hown hC hP hinX5 0 (by decide) (ci := 4) rfl (by decide) rfl 1 (by decide) (hts (.fieldLink RX5 18 "LoafParts" "texts" "LLoafParts$Shelf;") (by decide +kernel)) (v := .ref (aD g 4)) rfl dX5_table_2 ?_
  refine lv_iload_n hx hb dX5_table_5 rfl (lv_at hl 1 rfl) ?_
  obtain ⟨q_1, hq_1, hf⟩ := bind_ex hf
  refine r_Vi (r := q_1.1) (u' := q_1.2) (As := [.ref (aD g 4), .int x1]) (rest := []) (k := 0) (ci := 4) ⟨hx, hb, hml, hown, hts⟩ hC hP hS (by decide) rfl (by decide) rfl (c_X5_refuseMissing l g 4 4 shf_texts u x1 hq_1) (cwV 2 hts gX5_table_X5_refuseMissing rfl rfl rfl (by decide +kernel) ⟨(Nat.le_trans (Nat.le_of_ble_eq_true rfl) hRf), (Nat.le_trans (Nat.le_of_ble_eq_true rfl) hRl)⟩) rfl hl.1 rfl (Nat.le_of_ble_eq_true rfl) dX5_table_6 (fun H locs hP hS => ?_)
  refine lv_istore_n (lv' := [(2, .int q_1.1), (0, .ref (aD g 0)), (1, .int x1)]) hx hb dX5_table_9 rfl hl (by decide) rfl (fun ls hl => ?_)
  refine lv_iload_n hx hb dX5_table_10 rfl (lv_at hl 0 rfl) ?_
  refine lv_if_eq (tgt := 16) hx hb dX5_table_11 (by decide) (fun c_2 => ?_) (fun c_2 => ?_)
  · rw [if_pos c_2] at hf
    refine lv_aload_n hx hb dX5_table_16 rfl (lv_at hl 1 rfl) ?_
    refine r_get hx hb hts hown hC hP hinX5 0 (by decide) (ci := 4) rfl (by decide) rfl 2 (by decide) (hts (.fieldLink RX5 24 "LoafParts" "reader" "LLoafParts$Reader;") (by decide +kernel)) (v := .ref (aD g 7)) rfl dX5_table_17 ?_
    refine lv_aload_n hx hb dX5_table_20 rfl (lv_at hl 1 rfl) ?_
    refine r_get hx hb hts hown hC hP hinX5 0 (by decide) (ci := 4) rfl (by decide) rfl 1 (by decide) (hts (.fieldLink RX5 18 "LoafParts" "texts" "LLoafParts$Shelf;") (by decide +kernel)) (v := .ref (aD g 4)) rfl dX5_table_21 ?_
    refine lv_iload_n hx hb dX5_table_24 rfl (lv_at hl 2 rfl) ?_
    obtain ⟨q_3, hq_3, hf⟩ := bind_ex hf
    refine r_Vi (r := q_3.1) (u' := q_3.2) (As := [.ref (aD g 4), .int x1]) (rest := []) (k := 7) (ci := 1) ⟨hx, hb, hml, hown, hts⟩ hC hP hS (by decide) rfl (by decide) rfl (c_X2_readTable l g q_1.2 x1 hq_3) (cwV 2 hts gX5_table_X2_readTable rfl rfl rfl (by decide +kernel) ⟨(Nat.le_trans (Nat.le_of_ble_eq_true rfl) hRf), (Nat.le_trans (Nat.le_of_ble_eq_true rfl) hRl)⟩) rfl hl.1 rfl (Nat.le_of_ble_eq_true rfl) dX5_table_25 (fun H locs hP hS => ?_)
    refine lv_bipush (v := (-9 : Int32)) hx hb dX5_table_28 (by decide) ?_
    refine lv_icmp_eq (tgt := 36) hx hb dX5_table_30 (by decide) (fun c_4 => ?_) (fun c_4 => ?_)
    · rw [if_pos c_4] at hf
      refine lv_aload_n hx hb dX5_table_36 rfl (lv_at hl 1 rfl) ?_
      refine r_get hx hb hts hown hC hP hinX5 0 (by decide) (ci := 4) rfl (by decide) rfl 3 (by decide) (hts (.fieldLink RX5 31 "LoafParts" "table" "LLoafParts$Table;") (by decide +kernel)) (v := .ref (aD g 11)) rfl dX5_table_37 ?_
      refine lv_aload_n hx hb dX5_table_40 rfl (lv_at hl 1 rfl) ?_
      refine r_get hx hb hts hown hC hP hinX5 0 (by decide) (ci := 4) rfl (by decide) rfl 2 (by decide) (hts (.fieldLink RX5 24 "LoafParts" "reader" "LLoafParts$Reader;") (by decide +kernel)) (v := .ref (aD g 7)) rfl dX5_table_41 ?_
      obtain ⟨q_5, hq_5, hf⟩ := bind_ex hf
      refine r_Vv (As := [.ref (aD g 7)]) (rest := []) (k := 11) (ci := 3) ⟨hx, hb, hml, hown, hts⟩ hC hP hS (by decide) rfl (by decide) rfl (c_X4_begin l g q_3.2 hq_5) (cwV 1 hts gX5_table_X4_begin rfl rfl rfl (by decide +kernel) ⟨(Nat.le_trans (Nat.le_of_ble_eq_true rfl) hRf), (Nat.le_trans (Nat.le_of_ble_eq_true rfl) hRl)⟩) rfl hl.1 rfl (Nat.le_of_ble_eq_true rfl) dX5_table_44 (fun H locs hP hS => ?_)
      refine lv_iconst (v := (0 : Int32)) hx hb dX5_table_47 (by decide) ?_
      refine lv_istore_n (lv' := [(3, .int (0 : Int32)), (2, .int q_1.1), (0, .ref (aD g 0)), (1, .int x1)]) hx hb dX5_table_48 rfl hl (by decide) rfl (fun ls hl => ?_)
      exact w_49 fu (0 : Int32) q_5 _ _ _ hP hS (lv_sub hl [2, 0] rfl) hf
    rw [if_neg c_4] at hf
    refine lv_bipush (v := (-4 : Int32)) hx hb dX5_table_33 (by decide) ?_
    obtain ⟨rfl, rfl⟩ := sp2 hf
    exact kret _ _ _ _ dX5_table_35 hP hS trivial
  rw [if_neg c_2] at hf
  refine lv_iload_n hx hb dX5_table_14 rfl (lv_at hl 0 rfl) ?_
  obtain ⟨rfl, rfl⟩ := sp2 hf
  exact kret _ _ _ _ dX5_table_15 hP hS trivial
set_option maxHeartbeats 4000000 in
set_option maxRecDepth 100000 in
theorem c_X4_isWorker (l : Launch) (g : GG) (u : UU) (x1 : Int32) {r : Int32} (hf : f_X4_isWorker x1 u = some r) : Ci l g 0 55 yX4_isWorker wsX4_isWorker 0 0 [.ref (aD g 11), .int x1] u r u := by
  refine ct_z (cc := cX4_isWorker) (maxL := 2) (by decide) rfl (Nat.le_of_ble_eq_true rfl) ?_
  intro p e s m args below meth c R Q ls hx hb hml hown hts hC hP hl hRf hRl kret hS
  have hown : s.vm.findClass RX4 = some m.cls := hown
  have hl : lv_has ls 2 [(0, .ref (aD g 11)), (1, .int x1)] := hl
  have hinX4 : ∀ w ∈ u_ws RX4 TX4 13, w ∈ wsX4_isWorker := by decide +kernel
  unfold f_X4_isWorker at hf
  refine lv_iload_n hx hb dX4_isWorker_0 rfl (lv_at hl 1 rfl) ?_
  refine lv_if_lt (tgt := 16) hx hb dX4_isWorker_1 (by decide) (fun c_1 => ?_) (fun c_1 => ?_)
  · rw [if_pos c_1] at hf
    refine lv_iconst (v := (0 : Int32)) hx hb dX4_isWorker_16 (by decide) ?_
    obtain rfl := sp1 hf
    exact kret _ _ _ _ dX4_isWorker_17 hP hS rfl
  rw [if_neg c_1] at hf
  refine lv_iload_n hx hb dX4_isWorker_4 rfl (lv_at hl 1 rfl) ?_
  refine lv_aload_n hx hb dX4_isWorker_5 rfl (lv_at hl 0 rfl) ?_
  refine r_get hx hb hts hown hC hP hinX4 11 (by decide) (ci := 3) rfl (by decide) rfl 0 (by decide) (hts (.fieldLink RX4 39 "LoafParts$Table" "workers" "I") (by decide +kernel)) (v := .int (ui u 11 0)) rfl dX4_isWorker_6 ?_
  refine lv_icmp_ge (tgt := 16) hx hb dX4_isWorker_9 (by decide) (fun c_2 => ?_) (fun c_2 => ?_)
  · rw [if_pos c_2] at hf
    refine lv_iconst (v := (0 : Int32)) hx hb dX4_isWorker_16 (by decide) ?_
    obtain rfl := sp1 hf
    exact kret _ _ _ _ dX4_isWorker_17 hP hS rfl
  rw [if_neg c_2] at hf
  refine lv_iconst (v := (1 : Int32)) hx hb dX4_isWorker_12 (by decide) ?_
  refine lv_goto (tgt := 17) hx hb dX4_isWorker_13 (by decide) ?_
  obtain rfl := sp1 hf
  exact kret _ _ _ _ dX4_isWorker_17 hP hS rfl
set_option maxHeartbeats 4000000 in
set_option maxRecDepth 100000 in
theorem c_X0_partsOf (l : Launch) (g : GG) (u : UU) (x0 : Int32) {r : Int32} (hf : f_X0_partsOf x0 = r) : Ci l g 0 55 yX0_partsOf wsX0_partsOf 0 0 [.int x0] u r u := by
  refine ct_i (cc := cX0_partsOf) (maxL := 1) (by decide) rfl (Nat.le_of_ble_eq_true rfl) ?_
  intro p e s m args below meth c R Q ls hx hb hml hown hts hC hP hl hRf hRl kret hS
  have hown : s.vm.findClass RX0 = some m.cls := hown
  have hl : lv_has ls 1 [(0, .int x0)] := hl
  unfold f_X0_partsOf at hf
  refine lv_iload_n hx hb dX0_partsOf_0 rfl (lv_at hl 0 rfl) ?_
  by_cases s_1 : x0 = (1 : Int32)
  · rw [if_pos s_1] at hf
    refine r_tin (tgt := 36) hx hb (1 : Int32) 35 s_1 dX0_partsOf_1 (by decide) ?_
    refine lv_ldc (v := (65812 : Int32)) hx hb hown (hts (.constant RX0 11 (65812)) (by decide +kernel)) dX0_partsOf_36 ?_
    obtain rfl := hf
    exact kret _ _ _ _ dX0_partsOf_38 hP hS trivial
  rw [if_neg s_1] at hf
  by_cases s_2 : x0 = (2 : Int32)
  · rw [if_pos s_2] at hf
    refine r_tin (tgt := 39) hx hb (2 : Int32) 38 s_2 dX0_partsOf_1 (by decide) ?_
    refine lv_ldc (v := (43688 : Int32)) hx hb hown (hts (.constant RX0 12 (43688)) (by decide +kernel)) dX0_partsOf_39 ?_
    obtain rfl := hf
    exact kret _ _ _ _ dX0_partsOf_41 hP hS trivial
  rw [if_neg s_2] at hf
  by_cases s_3 : x0 = (3 : Int32)
  · rw [if_pos s_3] at hf
    refine r_tin (tgt := 42) hx hb (3 : Int32) 41 s_3 dX0_partsOf_1 (by decide) ?_
    refine lv_ldc (v := (131056 : Int32)) hx hb hown (hts (.constant RX0 13 (131056)) (by decide +kernel)) dX0_partsOf_42 ?_
    obtain rfl := hf
    exact kret _ _ _ _ dX0_partsOf_44 hP hS trivial
  rw [if_neg s_3] at hf
  by_cases s_4 : x0 = (4 : Int32)
  · rw [if_pos s_4] at hf
    refine r_tin (tgt := 45) hx hb (4 : Int32) 44 s_4 dX0_partsOf_1 (by decide) ?_
    refine lv_ldc (v := (69980 : Int32)) hx hb hown (hts (.constant RX0 14 (69980)) (by decide +kernel)) dX0_partsOf_45 ?_
    obtain rfl := hf
    exact kret _ _ _ _ dX0_partsOf_47 hP hS trivial
  rw [if_neg s_4] at hf
  by_cases s_5 : x0 = (5 : Int32)
  · rw [if_pos s_5] at hf
    refine r_tin (tgt := 48) hx hb (5 : Int32) 47 s_5 dX0_partsOf_1 (by decide) ?_
    refine lv_ldc (v := (87376 : Int32)) hx hb hown (hts (.constant RX0 15 (87376)) (by decide +kernel)) dX0_partsOf_48 ?_
    obtain rfl := hf
    exact kret _ _ _ _ dX0_partsOf_50 hP hS trivial
  rw [if_neg s_5] at hf
  refine lv_tableOut (tgt := 51) hx hb dX0_partsOf_1 (tsw_out 1 5 5 [(1 : Int32), (2 : Int32), (3 : Int32), (4 : Int32), (5 : Int32)] (by decide) (by decide) (by decide) (List.forall_mem_cons.mpr ⟨s_1, (List.forall_mem_cons.mpr ⟨s_2, (List.forall_mem_cons.mpr ⟨s_3, (List.forall_mem_cons.mpr ⟨s_4, (List.forall_mem_cons.mpr ⟨s_5, (fun _ h => absurd h List.not_mem_nil)⟩)⟩)⟩)⟩)⟩)) (by decide) ?_
  refine lv_ldc (v := (131068 : Int32)) hx hb hown (hts (.constant RX0 16 (131068)) (by decide +kernel)) dX0_partsOf_51 ?_
  obtain rfl := hf
  exact kret _ _ _ _ dX0_partsOf_53 hP hS trivial
set_option maxHeartbeats 4000000 in
set_option maxRecDepth 100000 in
theorem c_X4_openTo (l : Launch) (g : GG) (u : UU) (x1 : Int32) {r : Int32} (hf : f_X4_openTo x1 u = some r) : Ci l g 0 55 yX4_openTo wsX4_openTo 1 20 [.ref (aD g 11), .int x1] u r u := by
  refine ct_i (cc := cX4_openTo) (maxL := 2) (by decide) rfl (Nat.le_of_ble_eq_true rfl) ?_
  intro p e s m args below meth c R Q ls hx hb hml hown hts hC hP hl hRf hRl kret hS
  have hown : s.vm.findClass RX4 = some m.cls := hown
  have hl : lv_has ls 2 [(0, .ref (aD g 11)), (1, .int x1)] := hl
  have hinX4 : ∀ w ∈ u_ws RX4 TX4 13, w ∈ wsX4_openTo := by decide +kernel
  unfold f_X4_openTo at hf
  refine lv_aload_n hx hb dX4_openTo_0 rfl (lv_at hl 0 rfl) ?_
  refine r_get hx hb hts hown hC hP hinX4 11 (by decide) (ci := 3) rfl (by decide) rfl 5 (by decide) (hts (.fieldLink RX4 15 "LoafParts$Table" "kind" "[I") (by decide +kernel)) (v := .ref (aD g 13)) rfl dX4_openTo_1 ?_
  refine lv_iload_n hx hb dX4_openTo_4 rfl (lv_at hl 1 rfl) ?_
  obtain ⟨hi_1, hf⟩ := ix_ex hf
  refine r_ald hx hb hC hP 13 (by decide) rfl hi_1 dX4_openTo_5 ?_
  refine r_Si (As := [.int (ui u 13 (x1 : Int32).toNatClampNeg)]) (rest := []) ⟨hx, hb, hml, hown, hts⟩ hC hP hS (c_X0_partsOf l g u (ui u 13 (x1 : Int32).toNatClampNeg) rfl) (va_cwS 1 hts gX4_openTo_X0_partsOf rfl rfl rfl (by decide +kernel) ⟨(Nat.le_trans (Nat.le_of_ble_eq_true rfl) hRf), (Nat.le_trans (Nat.le_of_ble_eq_true rfl) hRl)⟩) rfl hl.1 rfl (Nat.le_of_ble_eq_true rfl) dX4_openTo_6 (fun H locs hP hS => ?_)
  refine lv_aload_n hx hb dX4_openTo_9 rfl (lv_at hl 0 rfl) ?_
  refine r_get hx hb hts hown hC hP hinX4 11 (by decide) (ci := 3) rfl (by decide) rfl 8 (by decide) (hts (.fieldLink RX4 24 "LoafParts$Table" "has" "[I") (by decide +kernel)) (v := .ref (aD g 16)) rfl dX4_openTo_10 ?_
  refine lv_iload_n hx hb dX4_openTo_13 rfl (lv_at hl 1 rfl) ?_
  obtain ⟨hi_2, hf⟩ := ix_ex hf
  refine r_ald hx hb hC hP 16 (by decide) rfl hi_2 dX4_openTo_14 ?_
  refine lv_iconst (v := (-1 : Int32)) hx hb dX4_openTo_15 (by decide) ?_
  refine lv_ixor hx hb dX4_openTo_16 ?_
  refine lv_iand hx hb dX4_openTo_17 ?_
  obtain rfl := sp1 hf
  exact kret _ _ _ _ dX4_openTo_18 hP hS trivial
set_option maxHeartbeats 4000000 in
set_option maxRecDepth 100000 in
theorem c_X4_noGreaterThan (l : Launch) (g : GG) (u : UU) (x0 : Int32) {r : Int32} (hf : f_X4_noGreaterThan x0 = r) : Ci l g 0 55 yX4_noGreaterThan wsX4_noGreaterThan 1 21 [.int x0] u r u := by
  refine ct_i (cc := cX4_noGreaterThan) (maxL := 2) (by decide) rfl (Nat.le_of_ble_eq_true rfl) ?_
  intro p e s m args below meth c R Q ls hx hb hml hown hts hC hP hl hRf hRl kret hS
  have hown : s.vm.findClass RX4 = some m.cls := hown
  have hl : lv_has ls 2 [(0, .int x0)] := hl
  unfold f_X4_noGreaterThan at hf
  refine lv_iload_n hx hb dX4_noGreaterThan_0 rfl (lv_at hl 0 rfl) ?_
  refine lv_if_gt (tgt := 6) hx hb dX4_noGreaterThan_1 (by decide) (fun c_1 => ?_) (fun c_1 => ?_)
  · rw [if_pos c_1] at hf
    refine lv_ldc (v := (720720 : Int32)) hx hb hown (hts (.constant RX4 72 (720720)) (by decide +kernel)) dX4_noGreaterThan_6 ?_
    refine lv_iload_n hx hb dX4_noGreaterThan_8 rfl (lv_at hl 0 rfl) ?_
    refine lv_iadd hx hb dX4_noGreaterThan_9 ?_
    refine lv_iconst (v := (1 : Int32)) hx hb dX4_noGreaterThan_10 (by decide) ?_
    refine lv_isub hx hb dX4_noGreaterThan_11 ?_
    refine lv_iload_n hx hb dX4_noGreaterThan_12 rfl (lv_at hl 0 rfl) ?_
    refine lv_idiv hx hb dX4_noGreaterThan_13 (ne_lt c_1) ?_
    refine lv_iconst (v := (2 : Int32)) hx hb dX4_noGreaterThan_14 (by decide) ?_
    refine va_mmax hx hb (hml.trans hl.1.symm) hown (hts (.methodLink RX4 84 Lib.Math.max.name) (by decide +kernel)) (hts (.static Lib.Math.max.name) (by decide +kernel)) (hts (.initialized "java/lang/Math") (by decide +kernel)) (hts (.code Lib.Math.max.name Lib.Math.max.code 2 (some .int)) (by decide +kernel)) (Nat.le_trans (Nat.le_of_ble_eq_true rfl) hRf) (Nat.le_trans (Nat.le_of_ble_eq_true rfl) hRl) (Nat.zero_le _) (Nat.zero_le _) dX4_noGreaterThan_15 ?_
    obtain ⟨x1_2, ex1_2, hf⟩ := lt_ex hf
    refine r_nm ex1_2 ?_
    refine lv_istore_n (lv' := [(1, .int x1_2), (0, .int x0)]) hx hb dX4_noGreaterThan_18 rfl hl (by decide) rfl (fun ls hl => ?_)
    refine lv_iload_n hx hb dX4_noGreaterThan_19 rfl (lv_at hl 0 rfl) ?_
    refine lv_bipush (v := (16 : Int32)) hx hb dX4_noGreaterThan_20 (by decide) ?_
    refine lv_icmp_le (tgt := 29) hx hb dX4_noGreaterThan_22 (by decide) (fun c_3 => ?_) (fun c_3 => ?_)
    · rw [if_pos c_3] at hf
      refine lv_ldc (v := (131072 : Int32)) hx hb hown (hts (.constant RX4 90 (131072)) (by decide +kernel)) dX4_noGreaterThan_29 ?_
      refine lv_iconst (v := (1 : Int32)) hx hb dX4_noGreaterThan_31 (by decide) ?_
      refine lv_iload_n hx hb dX4_noGreaterThan_32 rfl (lv_at hl 0 rfl) ?_
      refine lv_ishl hx hb dX4_noGreaterThan_33 ?_
      refine lv_isub hx hb dX4_noGreaterThan_34 ?_
      obtain rfl := hf
      exact kret _ _ _ _ dX4_noGreaterThan_35 hP hS trivial
    rw [if_neg c_3] at hf
    refine lv_iconst (v := (0 : Int32)) hx hb dX4_noGreaterThan_25 (by decide) ?_
    refine lv_goto (tgt := 35) hx hb dX4_noGreaterThan_26 (by decide) ?_
    obtain rfl := hf
    exact kret _ _ _ _ dX4_noGreaterThan_35 hP hS trivial
  rw [if_neg c_1] at hf
  refine lv_iconst (v := (0 : Int32)) hx hb dX4_noGreaterThan_4 (by decide) ?_
  obtain rfl := hf
  exact kret _ _ _ _ dX4_noGreaterThan_5 hP hS trivial