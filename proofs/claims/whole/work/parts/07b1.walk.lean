set_option maxHeartbeats 4000000 in
set_option maxRecDepth 100000 in
theorem c_X6_give (l : Launch) (g : GG) (u : UU) (x1 : Int32) (x2 : Int32) {r : Int32} {u' : UU} (hf : f_X6_give x1 x2 u = some (r, u')) : Ci l g 55 20 yX6_give wsX6_give 5 109 [.ref (aD g 55), .int x1, .int x2] u r u' := by
  refine ct_i (cc := cX6_give) (maxL := 3) (by decide) rfl (Nat.le_of_ble_eq_true rfl) ?_
  intro p e s m args below meth c R Q ls hx hb hml hown hts hC hP hl hRf hRl kret hS
  have hown : s.vm.findClass RX6 = some m.cls := hown
  have hl : lv_has ls 3 [(0, .ref (aD g 55)), (1, .int x1), (2, .int x2)] := hl
  have hinX6 : ∀ w ∈ u_ws RX6 TX6 34, w ∈ wsX6_give := by decide +kernel
  unfold f_X6_give at hf
  refine lv_aload_n hx hb dX6_give_0 rfl (lv_at hl 0 rfl) ?_
  refine lv_iload_n hx hb dX6_give_1 rfl (lv_at hl 1 rfl) ?_
  obtain ⟨q_1, hq_1, hf⟩ := bind_ex hf
  refine r_Vi (As := [.int x1]) (rest := []) (k := 55) (ci := 5) ⟨hx, hb, hml, hown, hts⟩ hC hP hS (by decide) rfl (by decide) rfl (c_X6_isWorker l g u x1 hq_1) (cwV 1 hts gX6_give_X6_isWorker rfl rfl rfl (by decide +kernel) ⟨(Nat.le_trans (Nat.le_of_ble_eq_true rfl) hRf), (Nat.le_trans (Nat.le_of_ble_eq_true rfl) hRl)⟩) rfl hl.1 rfl (Nat.le_of_ble_eq_true rfl) dX6_give_2 (fun H locs hP hS => ?_)
  refine lv_if_eq (tgt := 15) hx hb dX6_give_5 (by decide) (fun c_2 => ?_) (fun c_2 => ?_)
  · rw [if_pos c_2] at hf
    refine lv_iconst (v := (-1 : Int32)) hx hb dX6_give_15 (by decide) ?_
    obtain ⟨rfl, rfl⟩ := sp2 hf
    exact kret _ _ _ _ dX6_give_16 hP hS trivial
  rw [if_neg c_2] at hf
  refine lv_iload_n hx hb dX6_give_8 rfl (lv_at hl 2 rfl) ?_
  refine r_Si (As := [.int x2]) (rest := []) ⟨hx, hb, hml, hown, hts⟩ hC hP hS (c_X6_isPart l g u x2 rfl) (va_cwS 1 hts gX6_give_X6_isPart rfl rfl rfl (by decide +kernel) ⟨(Nat.le_trans (Nat.le_of_ble_eq_true rfl) hRf), (Nat.le_trans (Nat.le_of_ble_eq_true rfl) hRl)⟩) rfl hl.1 rfl (Nat.le_of_ble_eq_true rfl) dX6_give_9 (fun H locs hP hS => ?_)
  refine lv_if_ne (tgt := 17) hx hb dX6_give_12 (by decide) (fun c_3 => ?_) (fun c_3 => ?_)
  · rw [if_neg c_3] at hf
    refine lv_aload_n hx hb dX6_give_17 rfl (lv_at hl 0 rfl) ?_
    refine lv_iload_n hx hb dX6_give_18 rfl (lv_at hl 1 rfl) ?_
    obtain ⟨q_4, hq_4, hf⟩ := bind_ex hf
    refine r_Vi (As := [.int x1]) (rest := []) (k := 55) (ci := 5) ⟨hx, hb, hml, hown, hts⟩ hC hP hS (by decide) rfl (by decide) rfl (c_X6_fits l g u x1 hq_4) (cwV 1 hts gX6_give_X6_fits rfl rfl rfl (by decide +kernel) ⟨(Nat.le_trans (Nat.le_of_ble_eq_true rfl) hRf), (Nat.le_trans (Nat.le_of_ble_eq_true rfl) hRl)⟩) rfl hl.1 rfl (Nat.le_of_ble_eq_true rfl) dX6_give_19 (fun H locs hP hS => ?_)
    refine lv_iload_n hx hb dX6_give_22 rfl (lv_at hl 2 rfl) ?_
    refine r_Si (As := [.int q_4, .int x2]) (rest := []) ⟨hx, hb, hml, hown, hts⟩ hC hP hS (c_X6_has l g u q_4 x2 rfl) (va_cwS 2 hts gX6_give_X6_has rfl rfl rfl (by decide +kernel) ⟨(Nat.le_trans (Nat.le_of_ble_eq_true rfl) hRf), (Nat.le_trans (Nat.le_of_ble_eq_true rfl) hRl)⟩) rfl hl.1 rfl (Nat.le_of_ble_eq_true rfl) dX6_give_23 (fun H locs hP hS => ?_)
    refine lv_if_ne (tgt := 32) hx hb dX6_give_26 (by decide) (fun c_5 => ?_) (fun c_5 => ?_)
    · rw [if_neg c_5] at hf
      refine lv_aload_n hx hb dX6_give_32 rfl (lv_at hl 0 rfl) ?_
      refine r_get hx hb hts hown hC hP hinX6 55 (by decide) (ci := 5) rfl (by decide) rfl 22 (by decide) (hts (.fieldLink RX6 139 "LoafPartsModel" "deedMany" "I") (by decide +kernel)) (v := .int (ui u 55 22)) rfl dX6_give_33 ?_
      refine lv_bipush (v := (40 : Int32)) hx hb dX6_give_36 (by decide) ?_
      refine lv_icmp_ne (tgt := 44) hx hb dX6_give_38 (by decide) (fun c_6 => ?_) (fun c_6 => ?_)
      · rw [if_neg c_6] at hf
        refine lv_aload_n hx hb dX6_give_44 rfl (lv_at hl 0 rfl) ?_
        obtain ⟨q_7, hq_7, hf⟩ := bind_ex hf
        refine r_Vv (As := []) (rest := []) (k := 55) (ci := 5) ⟨hx, hb, hml, hown, hts⟩ hC hP hS (by decide) rfl (by decide) rfl (c_X6_remember l g u hq_7) (cwV 0 hts gX6_give_X6_remember rfl rfl rfl (by decide +kernel) ⟨(Nat.le_trans (Nat.le_of_ble_eq_true rfl) hRf), (Nat.le_trans (Nat.le_of_ble_eq_true rfl) hRl)⟩) rfl hl.1 rfl (Nat.le_of_ble_eq_true rfl) dX6_give_45 (fun H locs hP hS => ?_)
        refine lv_aload_n hx hb dX6_give_48 rfl (lv_at hl 0 rfl) ?_
        refine lv_iload_n hx hb dX6_give_49 rfl (lv_at hl 1 rfl) ?_
        refine lv_iload_n hx hb dX6_give_50 rfl (lv_at hl 2 rfl) ?_
        obtain ⟨q_8, hq_8, hf⟩ := bind_ex hf
        refine r_Vv (As := [.int x1, .int x2]) (rest := []) (k := 55) (ci := 5) ⟨hx, hb, hml, hown, hts⟩ hC hP hS (by decide) rfl (by decide) rfl (c_X6_gives l g q_7 x1 x2 hq_8) (cwV 2 hts gX6_give_X6_gives rfl rfl rfl (by decide +kernel) ⟨(Nat.le_trans (Nat.le_of_ble_eq_true rfl) hRf), (Nat.le_trans (Nat.le_of_ble_eq_true rfl) hRl)⟩) rfl hl.1 rfl (Nat.le_of_ble_eq_true rfl) dX6_give_51 (fun H locs hP hS => ?_)
        refine lv_aload_n hx hb dX6_give_54 rfl (lv_at hl 0 rfl) ?_
        refine r_get hx hb hts hown hC hP hinX6 55 (by decide) (ci := 5) rfl (by decide) rfl 21 (by decide) (hts (.fieldLink RX6 51 "LoafPartsModel" "now" "[I") (by decide +kernel)) (v := .ref (aD g 68)) rfl dX6_give_55 ?_
        refine lv_bipush (v := (18 : Int32)) hx hb dX6_give_58 (by decide) ?_
        refine lv_iload_n hx hb dX6_give_60 rfl (lv_at hl 1 rfl) ?_
        refine lv_iadd hx hb dX6_give_61 ?_
        obtain ⟨hi_9, hf⟩ := ix_ex hf
        refine r_ald hx hb hC hP 68 (by decide) rfl hi_9 dX6_give_62 ?_
        obtain ⟨q_10, hq_10, hf⟩ := bind_ex hf
        refine r_Si (As := [.int (ui q_8 68 (((18 : Int32) + x1) : Int32).toNatClampNeg)]) (rest := []) ⟨hx, hb, hml, hown, hts⟩ hC hP hS (c_X6_bits l g q_8 (ui q_8 68 (((18 : Int32) + x1) : Int32).toNatClampNeg) hq_10) (va_cwS 1 hts gX6_give_X6_bits rfl rfl rfl (by decide +kernel) ⟨(Nat.le_trans (Nat.le_of_ble_eq_true rfl) hRf), (Nat.le_trans (Nat.le_of_ble_eq_true rfl) hRl)⟩) rfl hl.1 rfl (Nat.le_of_ble_eq_true rfl) dX6_give_63 (fun H locs hP hS => ?_)
        obtain ⟨rfl, rfl⟩ := sp2 hf
        exact kret _ _ _ _ dX6_give_66 hP hS trivial
      rw [if_pos c_6] at hf
      refine lv_bipush (v := (-2 : Int32)) hx hb dX6_give_41 (by decide) ?_
      obtain ⟨rfl, rfl⟩ := sp2 hf
      exact kret _ _ _ _ dX6_give_43 hP hS trivial
    rw [if_pos c_5] at hf
    refine lv_bipush (v := (-4 : Int32)) hx hb dX6_give_29 (by decide) ?_
    obtain ⟨rfl, rfl⟩ := sp2 hf
    exact kret _ _ _ _ dX6_give_31 hP hS trivial
  rw [if_pos c_3] at hf
  refine lv_iconst (v := (-1 : Int32)) hx hb dX6_give_15 (by decide) ?_
  obtain ⟨rfl, rfl⟩ := sp2 hf
  exact kret _ _ _ _ dX6_give_16 hP hS trivial
set_option maxHeartbeats 4000000 in
set_option maxRecDepth 100000 in
theorem c_X6_comesBack (l : Launch) (g : GG) (u : UU) (x1 : Int32) (x2 : Int32) {u' : UU} (hf : f_X6_comesBack x1 x2 u = some u') : Cv l g 55 20 yX6_comesBack wsX6_comesBack 0 0 [.ref (aD g 55), .int x1, .int x2] u u' := by
  refine ct_v (cc := cX6_comesBack) (maxL := 3) (by decide) rfl (Nat.le_of_ble_eq_true rfl) ?_
  intro p e s m args below meth c R Q ls hx hb hml hown hts hC hP hl hRf hRl kret hS
  have hown : s.vm.findClass RX6 = some m.cls := hown
  have hl : lv_has ls 3 [(0, .ref (aD g 55)), (1, .int x1), (2, .int x2)] := hl
  have hinX6 : ∀ w ∈ u_ws RX6 TX6 34, w ∈ wsX6_comesBack := by decide +kernel
  unfold f_X6_comesBack at hf
  refine lv_aload_n hx hb dX6_comesBack_0 rfl (lv_at hl 0 rfl) ?_
  refine r_get hx hb hts hown hC hP hinX6 55 (by decide) (ci := 5) rfl (by decide) rfl 21 (by decide) (hts (.fieldLink RX6 51 "LoafPartsModel" "now" "[I") (by decide +kernel)) (v := .ref (aD g 68)) rfl dX6_comesBack_1 ?_
  refine lv_iconst (v := (1 : Int32)) hx hb dX6_comesBack_4 (by decide) ?_
  refine lv_iload_n hx hb dX6_comesBack_5 rfl (lv_at hl 2 rfl) ?_
  refine lv_iadd hx hb dX6_comesBack_6 ?_
  refine lv_dup2_11 hx hb dX6_comesBack_7 rfl rfl ?_
  obtain ⟨hi_1, hf⟩ := ix_ex hf
  refine r_ald hx hb hC hP 68 (by decide) rfl hi_1 dX6_comesBack_8 ?_
  refine lv_iconst (v := (1 : Int32)) hx hb dX6_comesBack_9 (by decide) ?_
  refine lv_iadd hx hb dX6_comesBack_10 ?_
  obtain ⟨hi_2, hf⟩ := ix_ex hf
  obtain ⟨u_3, eu_3, hf⟩ := lt_ex hf
  refine r_ast hx hb hC hP hS 68 (by decide) rfl hi_2 eu_3 dX6_comesBack_11 (fun H locs hP hS => ?_)
  refine lv_aload_n hx hb dX6_comesBack_12 rfl (lv_at hl 0 rfl) ?_
  refine r_get hx hb hts hown hC hP hinX6 55 (by decide) (ci := 5) rfl (by decide) rfl 21 (by decide) (hts (.fieldLink RX6 51 "LoafPartsModel" "now" "[I") (by decide +kernel)) (v := .ref (aD g 68)) rfl dX6_comesBack_13 ?_
  refine lv_bipush (v := (18 : Int32)) hx hb dX6_comesBack_16 (by decide) ?_
  refine lv_iload_n hx hb dX6_comesBack_18 rfl (lv_at hl 1 rfl) ?_
  refine lv_iadd hx hb dX6_comesBack_19 ?_
  refine lv_dup2_11 hx hb dX6_comesBack_20 rfl rfl ?_
  obtain ⟨hi_4, hf⟩ := ix_ex hf
  refine r_ald hx hb hC hP 68 (by decide) rfl hi_4 dX6_comesBack_21 ?_
  refine lv_iconst (v := (1 : Int32)) hx hb dX6_comesBack_22 (by decide) ?_
  refine lv_iload_n hx hb dX6_comesBack_23 rfl (lv_at hl 2 rfl) ?_
  refine lv_ishl hx hb dX6_comesBack_24 ?_
  refine lv_iconst (v := (-1 : Int32)) hx hb dX6_comesBack_25 (by decide) ?_
  refine lv_ixor hx hb dX6_comesBack_26 ?_
  refine lv_iand hx hb dX6_comesBack_27 ?_
  obtain ⟨hi_5, hf⟩ := ix_ex hf
  obtain ⟨u_6, eu_6, hf⟩ := lt_ex hf
  refine r_ast hx hb hC hP hS 68 (by decide) rfl hi_5 eu_6 dX6_comesBack_28 (fun H locs hP hS => ?_)
  obtain rfl := sp1 hf
  exact kret _ _ _ _ dX6_comesBack_29 hP hS trivial
set_option maxHeartbeats 4000000 in
set_option maxRecDepth 100000 in
theorem c_X6_back (l : Launch) (g : GG) (u : UU) (x1 : Int32) (x2 : Int32) {r : Int32} {u' : UU} (hf : f_X6_back x1 x2 u = some (r, u')) : Ci l g 55 20 yX6_back wsX6_back 2 43 [.ref (aD g 55), .int x1, .int x2] u r u' := by
  refine ct_i (cc := cX6_back) (maxL := 3) (by decide) rfl (Nat.le_of_ble_eq_true rfl) ?_
  intro p e s m args below meth c R Q ls hx hb hml hown hts hC hP hl hRf hRl kret hS
  have hown : s.vm.findClass RX6 = some m.cls := hown
  have hl : lv_has ls 3 [(0, .ref (aD g 55)), (1, .int x1), (2, .int x2)] := hl
  have hinX6 : ∀ w ∈ u_ws RX6 TX6 34, w ∈ wsX6_back := by decide +kernel
  unfold f_X6_back at hf
  refine lv_aload_n hx hb dX6_back_0 rfl (lv_at hl 0 rfl) ?_
  refine lv_iload_n hx hb dX6_back_1 rfl (lv_at hl 1 rfl) ?_
  obtain ⟨q_1, hq_1, hf⟩ := bind_ex hf
  refine r_Vi (As := [.int x1]) (rest := []) (k := 55) (ci := 5) ⟨hx, hb, hml, hown, hts⟩ hC hP hS (by decide) rfl (by decide) rfl (c_X6_isWorker l g u x1 hq_1) (cwV 1 hts gX6_back_X6_isWorker rfl rfl rfl (by decide +kernel) ⟨(Nat.le_trans (Nat.le_of_ble_eq_true rfl) hRf), (Nat.le_trans (Nat.le_of_ble_eq_true rfl) hRl)⟩) rfl hl.1 rfl (Nat.le_of_ble_eq_true rfl) dX6_back_2 (fun H locs hP hS => ?_)
  refine lv_if_eq (tgt := 15) hx hb dX6_back_5 (by decide) (fun c_2 => ?_) (fun c_2 => ?_)
  · rw [if_pos c_2] at hf
    refine lv_iconst (v := (-1 : Int32)) hx hb dX6_back_15 (by decide) ?_
    obtain ⟨rfl, rfl⟩ := sp2 hf
    exact kret _ _ _ _ dX6_back_16 hP hS trivial
  rw [if_neg c_2] at hf
  refine lv_iload_n hx hb dX6_back_8 rfl (lv_at hl 2 rfl) ?_
  refine r_Si (As := [.int x2]) (rest := []) ⟨hx, hb, hml, hown, hts⟩ hC hP hS (c_X6_isPart l g u x2 rfl) (va_cwS 1 hts gX6_back_X6_isPart rfl rfl rfl (by decide +kernel) ⟨(Nat.le_trans (Nat.le_of_ble_eq_true rfl) hRf), (Nat.le_trans (Nat.le_of_ble_eq_true rfl) hRl)⟩) rfl hl.1 rfl (Nat.le_of_ble_eq_true rfl) dX6_back_9 (fun H locs hP hS => ?_)
  refine lv_if_ne (tgt := 17) hx hb dX6_back_12 (by decide) (fun c_3 => ?_) (fun c_3 => ?_)
  · rw [if_neg c_3] at hf
    refine lv_aload_n hx hb dX6_back_17 rfl (lv_at hl 0 rfl) ?_
    refine r_get hx hb hts hown hC hP hinX6 55 (by decide) (ci := 5) rfl (by decide) rfl 21 (by decide) (hts (.fieldLink RX6 51 "LoafPartsModel" "now" "[I") (by decide +kernel)) (v := .ref (aD g 68)) rfl dX6_back_18 ?_
    refine lv_bipush (v := (18 : Int32)) hx hb dX6_back_21 (by decide) ?_
    refine lv_iload_n hx hb dX6_back_23 rfl (lv_at hl 1 rfl) ?_
    refine lv_iadd hx hb dX6_back_24 ?_
    obtain ⟨hi_4, hf⟩ := ix_ex hf
    refine r_ald hx hb hC hP 68 (by decide) rfl hi_4 dX6_back_25 ?_
    refine lv_iload_n hx hb dX6_back_26 rfl (lv_at hl 2 rfl) ?_
    refine r_Si (As := [.int (ui u 68 (((18 : Int32) + x1) : Int32).toNatClampNeg), .int x2]) (rest := []) ⟨hx, hb, hml, hown, hts⟩ hC hP hS (c_X6_has l g u (ui u 68 (((18 : Int32) + x1) : Int32).toNatClampNeg) x2 rfl) (va_cwS 2 hts gX6_back_X6_has rfl rfl rfl (by decide +kernel) ⟨(Nat.le_trans (Nat.le_of_ble_eq_true rfl) hRf), (Nat.le_trans (Nat.le_of_ble_eq_true rfl) hRl)⟩) rfl hl.1 rfl (Nat.le_of_ble_eq_true rfl) dX6_back_27 (fun H locs hP hS => ?_)
    refine lv_if_ne (tgt := 36) hx hb dX6_back_30 (by decide) (fun c_5 => ?_) (fun c_5 => ?_)
    · rw [if_neg c_5] at hf
      refine lv_aload_n hx hb dX6_back_36 rfl (lv_at hl 0 rfl) ?_
      refine r_get hx hb hts hown hC hP hinX6 55 (by decide) (ci := 5) rfl (by decide) rfl 22 (by decide) (hts (.fieldLink RX6 139 "LoafPartsModel" "deedMany" "I") (by decide +kernel)) (v := .int (ui u 55 22)) rfl dX6_back_37 ?_
      refine lv_bipush (v := (40 : Int32)) hx hb dX6_back_40 (by decide) ?_
      refine lv_icmp_ne (tgt := 48) hx hb dX6_back_42 (by decide) (fun c_6 => ?_) (fun c_6 => ?_)
      · rw [if_neg c_6] at hf
        refine lv_aload_n hx hb dX6_back_48 rfl (lv_at hl 0 rfl) ?_
        obtain ⟨q_7, hq_7, hf⟩ := bind_ex hf
        refine r_Vv (As := []) (rest := []) (k := 55) (ci := 5) ⟨hx, hb, hml, hown, hts⟩ hC hP hS (by decide) rfl (by decide) rfl (c_X6_remember l g u hq_7) (cwV 0 hts gX6_back_X6_remember rfl rfl rfl (by decide +kernel) ⟨(Nat.le_trans (Nat.le_of_ble_eq_true rfl) hRf), (Nat.le_trans (Nat.le_of_ble_eq_true rfl) hRl)⟩) rfl hl.1 rfl (Nat.le_of_ble_eq_true rfl) dX6_back_49 (fun H locs hP hS => ?_)
        refine lv_aload_n hx hb dX6_back_52 rfl (lv_at hl 0 rfl) ?_
        refine lv_iload_n hx hb dX6_back_53 rfl (lv_at hl 1 rfl) ?_
        refine lv_iload_n hx hb dX6_back_54 rfl (lv_at hl 2 rfl) ?_
        obtain ⟨q_8, hq_8, hf⟩ := bind_ex hf
        refine r_Vv (As := [.int x1, .int x2]) (rest := []) (k := 55) (ci := 5) ⟨hx, hb, hml, hown, hts⟩ hC hP hS (by decide) rfl (by decide) rfl (c_X6_comesBack l g q_7 x1 x2 hq_8) (cwV 2 hts gX6_back_X6_comesBack rfl rfl rfl (by decide +kernel) ⟨(Nat.le_trans (Nat.le_of_ble_eq_true rfl) hRf), (Nat.le_trans (Nat.le_of_ble_eq_true rfl) hRl)⟩) rfl hl.1 rfl (Nat.le_of_ble_eq_true rfl) dX6_back_55 (fun H locs hP hS => ?_)
        refine lv_aload_n hx hb dX6_back_58 rfl (lv_at hl 0 rfl) ?_
        refine r_get hx hb hts hown hC hP hinX6 55 (by decide) (ci := 5) rfl (by decide) rfl 21 (by decide) (hts (.fieldLink RX6 51 "LoafPartsModel" "now" "[I") (by decide +kernel)) (v := .ref (aD g 68)) rfl dX6_back_59 ?_
        refine lv_bipush (v := (18 : Int32)) hx hb dX6_back_62 (by decide) ?_
        refine lv_iload_n hx hb dX6_back_64 rfl (lv_at hl 1 rfl) ?_
        refine lv_iadd hx hb dX6_back_65 ?_
        obtain ⟨hi_9, hf⟩ := ix_ex hf
        refine r_ald hx hb hC hP 68 (by decide) rfl hi_9 dX6_back_66 ?_
        obtain ⟨q_10, hq_10, hf⟩ := bind_ex hf
        refine r_Si (As := [.int (ui q_8 68 (((18 : Int32) + x1) : Int32).toNatClampNeg)]) (rest := []) ⟨hx, hb, hml, hown, hts⟩ hC hP hS (c_X6_bits l g q_8 (ui q_8 68 (((18 : Int32) + x1) : Int32).toNatClampNeg) hq_10) (va_cwS 1 hts gX6_back_X6_bits rfl rfl rfl (by decide +kernel) ⟨(Nat.le_trans (Nat.le_of_ble_eq_true rfl) hRf), (Nat.le_trans (Nat.le_of_ble_eq_true rfl) hRl)⟩) rfl hl.1 rfl (Nat.le_of_ble_eq_true rfl) dX6_back_67 (fun H locs hP hS => ?_)
        obtain ⟨rfl, rfl⟩ := sp2 hf
        exact kret _ _ _ _ dX6_back_70 hP hS trivial
      rw [if_pos c_6] at hf
      refine lv_bipush (v := (-2 : Int32)) hx hb dX6_back_45 (by decide) ?_
      obtain ⟨rfl, rfl⟩ := sp2 hf
      exact kret _ _ _ _ dX6_back_47 hP hS trivial
    rw [if_pos c_5] at hf
    refine lv_bipush (v := (-4 : Int32)) hx hb dX6_back_33 (by decide) ?_
    obtain ⟨rfl, rfl⟩ := sp2 hf
    exact kret _ _ _ _ dX6_back_35 hP hS trivial
  rw [if_pos c_3] at hf
  refine lv_iconst (v := (-1 : Int32)) hx hb dX6_back_15 (by decide) ?_
  obtain ⟨rfl, rfl⟩ := sp2 hf
  exact kret _ _ _ _ dX6_back_16 hP hS trivial
set_option maxHeartbeats 4000000 in
set_option maxRecDepth 100000 in
theorem c_X6_bake (l : Launch) (g : GG) (u : UU) (x1 : Int32) {r : Int32} {u' : UU} (hf : f_X6_bake x1 u = some (r, u')) : Ci l g 55 20 yX6_bake wsX6_bake 1 22 [.ref (aD g 55), .int x1] u r u' := by
  refine ct_i (cc := cX6_bake) (maxL := 2) (by decide) rfl (Nat.le_of_ble_eq_true rfl) ?_
  intro p e s m args below meth c R Q ls hx hb hml hown hts hC hP hl hRf hRl kret hS
  have hown : s.vm.findClass RX6 = some m.cls := hown
  have hl : lv_has ls 2 [(0, .ref (aD g 55)), (1, .int x1)] := hl
  have hinX6 : ∀ w ∈ u_ws RX6 TX6 34, w ∈ wsX6_bake := by decide +kernel
  have w_80 : ∀ (t0 : Int32) (t1 : Int32) (u : UU) (H : Heap) (locs : List Loc) (ls : Array Slot), Ps g 55 20 u H → va_S (aA g) s.heap H locs → lv_has ls 2 [(0, .ref (aD g 55))] → f_X6_bake_80 t0 t1 u = some (r, u') → W p l e R s m args below meth c H locs 0 0 Q (F0 m 80 ls [.int t0, .int t1, .ref (aD g 68)]) := by
    intro t0 t1 u H locs ls hP hS hl hf
    unfold f_X6_bake_80 at hf
    obtain ⟨hi_10, hf⟩ := ix_ex hf
    obtain ⟨u_11, eu_11, hf⟩ := lt_ex hf
    refine r_ast hx hb hC hP hS 68 (by decide) rfl hi_10 eu_11 dX6_bake_80 (fun H locs hP hS => ?_)
    refine lv_aload_n hx hb dX6_bake_81 rfl (lv_at hl 0 rfl) ?_
    refine r_get hx hb hts hown hC hP hinX6 55 (by decide) (ci := 5) rfl (by decide) rfl 21 (by decide) (hts (.fieldLink RX6 51 "LoafPartsModel" "now" "[I") (by decide +kernel)) (v := .ref (aD g 68)) rfl dX6_bake_82 ?_
    refine lv_iconst (v := (0 : Int32)) hx hb dX6_bake_85 (by decide) ?_
    obtain ⟨hi_12, hf⟩ := ix_ex hf
    refine r_ald hx hb hC hP 68 (by decide) rfl hi_12 dX6_bake_86 ?_
    obtain ⟨rfl, rfl⟩ := sp2 hf
    exact kret _ _ _ _ dX6_bake_87 hP hS trivial
  unfold f_X6_bake at hf
  refine lv_iload_n hx hb dX6_bake_0 rfl (lv_at hl 1 rfl) ?_
  refine lv_iconst (v := (1 : Int32)) hx hb dX6_bake_1 (by decide) ?_
  refine lv_bipush (v := (9 : Int32)) hx hb dX6_bake_2 (by decide) ?_
  refine r_Si (As := [.int x1, .int (1 : Int32), .int (9 : Int32)]) (rest := []) ⟨hx, hb, hml, hown, hts⟩ hC hP hS (c_X6_in l g u x1 (1 : Int32) (9 : Int32) rfl) (va_cwS 3 hts gX6_bake_X6_in rfl rfl rfl (by decide +kernel) ⟨(Nat.le_trans (Nat.le_of_ble_eq_true rfl) hRf), (Nat.le_trans (Nat.le_of_ble_eq_true rfl) hRl)⟩) rfl hl.1 rfl (Nat.le_of_ble_eq_true rfl) dX6_bake_4 (fun H locs hP hS => ?_)
  refine lv_if_ne (tgt := 12) hx hb dX6_bake_7 (by decide) (fun c_1 => ?_) (fun c_1 => ?_)
  · rw [if_neg c_1] at hf
    refine lv_aload_n hx hb dX6_bake_12 rfl (lv_at hl 0 rfl) ?_
    refine r_get hx hb hts hown hC hP hinX6 55 (by decide) (ci := 5) rfl (by decide) rfl 17 (by decide) (hts (.fieldLink RX6 136 "LoafPartsModel" "n" "I") (by decide +kernel)) (v := .int (ui u 55 17)) rfl dX6_bake_13 ?_
    refine lv_if_eq (tgt := 30) hx hb dX6_bake_16 (by decide) (fun c_2 => ?_) (fun c_2 => ?_)
    · rw [if_pos c_2] at hf
      refine lv_bipush (v := (-4 : Int32)) hx hb dX6_bake_30 (by decide) ?_
      obtain ⟨rfl, rfl⟩ := sp2 hf
      exact kret _ _ _ _ dX6_bake_32 hP hS trivial
    rw [if_neg c_2] at hf
    refine lv_aload_n hx hb dX6_bake_19 rfl (lv_at hl 0 rfl) ?_
    refine r_get hx hb hts hown hC hP hinX6 55 (by decide) (ci := 5) rfl (by decide) rfl 21 (by decide) (hts (.fieldLink RX6 51 "LoafPartsModel" "now" "[I") (by decide +kernel)) (v := .ref (aD g 68)) rfl dX6_bake_20 ?_
    refine lv_iconst (v := (0 : Int32)) hx hb dX6_bake_23 (by decide) ?_
    obtain ⟨hi_3, hf⟩ := ix_ex hf
    refine r_ald hx hb hC hP 68 (by decide) rfl hi_3 dX6_bake_24 ?_
    refine lv_bipush (v := (99 : Int32)) hx hb dX6_bake_25 (by decide) ?_
    refine lv_icmp_ne (tgt := 33) hx hb dX6_bake_27 (by decide) (fun c_4 => ?_) (fun c_4 => ?_)
    · rw [if_neg c_4] at hf
      refine lv_aload_n hx hb dX6_bake_33 rfl (lv_at hl 0 rfl) ?_
      refine r_get hx hb hts hown hC hP hinX6 55 (by decide) (ci := 5) rfl (by decide) rfl 22 (by decide) (hts (.fieldLink RX6 139 "LoafPartsModel" "deedMany" "I") (by decide +kernel)) (v := .int (ui u 55 22)) rfl dX6_bake_34 ?_
      refine lv_bipush (v := (40 : Int32)) hx hb dX6_bake_37 (by decide) ?_
      refine lv_icmp_ne (tgt := 45) hx hb dX6_bake_39 (by decide) (fun c_5 => ?_) (fun c_5 => ?_)
      · rw [if_neg c_5] at hf
        refine lv_aload_n hx hb dX6_bake_45 rfl (lv_at hl 0 rfl) ?_
        obtain ⟨q_6, hq_6, hf⟩ := bind_ex hf
        refine r_Vv (As := []) (rest := []) (k := 55) (ci := 5) ⟨hx, hb, hml, hown, hts⟩ hC hP hS (by decide) rfl (by decide) rfl (c_X6_remember l g u hq_6) (cwV 0 hts gX6_bake_X6_remember rfl rfl rfl (by decide +kernel) ⟨(Nat.le_trans (Nat.le_of_ble_eq_true rfl) hRf), (Nat.le_trans (Nat.le_of_ble_eq_true rfl) hRl)⟩) rfl hl.1 rfl (Nat.le_of_ble_eq_true rfl) dX6_bake_46 (fun H locs hP hS => ?_)
        refine lv_aload_n hx hb dX6_bake_49 rfl (lv_at hl 0 rfl) ?_
        refine r_get hx hb hts hown hC hP hinX6 55 (by decide) (ci := 5) rfl (by decide) rfl 21 (by decide) (hts (.fieldLink RX6 51 "LoafPartsModel" "now" "[I") (by decide +kernel)) (v := .ref (aD g 68)) rfl dX6_bake_50 ?_
        refine lv_iconst (v := (0 : Int32)) hx hb dX6_bake_53 (by decide) ?_
        refine lv_aload_n hx hb dX6_bake_54 rfl (lv_at hl 0 rfl) ?_
        refine r_get hx hb hts hown hC hP hinX6 55 (by decide) (ci := 5) rfl (by decide) rfl 21 (by decide) (hts (.fieldLink RX6 51 "LoafPartsModel" "now" "[I") (by decide +kernel)) (v := .ref (aD g 68)) rfl dX6_bake_55 ?_
        refine lv_iconst (v := (0 : Int32)) hx hb dX6_bake_58 (by decide) ?_
        obtain ⟨hi_7, hf⟩ := ix_ex hf
        refine r_ald hx hb hC hP 68 (by decide) rfl hi_7 dX6_bake_59 ?_
        refine lv_iload_n hx hb dX6_bake_60 rfl (lv_at hl 1 rfl) ?_
        refine lv_iadd hx hb dX6_bake_61 ?_
        refine lv_bipush (v := (99 : Int32)) hx hb dX6_bake_62 (by decide) ?_
        refine lv_icmp_le (tgt := 72) hx hb dX6_bake_64 (by decide) (fun c_8 => ?_) (fun c_8 => ?_)
        · rw [if_pos c_8] at hf
          refine lv_aload_n hx hb dX6_bake_72 rfl (lv_at hl 0 rfl) ?_
          refine r_get hx hb hts hown hC hP hinX6 55 (by decide) (ci := 5) rfl (by decide) rfl 21 (by decide) (hts (.fieldLink RX6 51 "LoafPartsModel" "now" "[I") (by decide +kernel)) (v := .ref (aD g 68)) rfl dX6_bake_73 ?_
          refine lv_iconst (v := (0 : Int32)) hx hb dX6_bake_76 (by decide) ?_
          obtain ⟨hi_9, hf⟩ := ix_ex hf
          refine r_ald hx hb hC hP 68 (by decide) rfl hi_9 dX6_bake_77 ?_
          refine lv_iload_n hx hb dX6_bake_78 rfl (lv_at hl 1 rfl) ?_
          refine lv_iadd hx hb dX6_bake_79 ?_
          exact w_80 ((ui q_6 68 ((0 : Int32) : Int32).toNatClampNeg) + x1) (0 : Int32) q_6 _ _ _ hP hS (lv_sub hl [0] rfl) hf
        rw [if_neg c_8] at hf
        refine lv_bipush (v := (99 : Int32)) hx hb dX6_bake_67 (by decide) ?_
        refine lv_goto (tgt := 80) hx hb dX6_bake_69 (by decide) ?_
        exact w_80 (99 : Int32) (0 : Int32) q_6 _ _ _ hP hS (lv_sub hl [0] rfl) hf
      rw [if_pos c_5] at hf
      refine lv_bipush (v := (-2 : Int32)) hx hb dX6_bake_42 (by decide) ?_
      obtain ⟨rfl, rfl⟩ := sp2 hf
      exact kret _ _ _ _ dX6_bake_44 hP hS trivial
    rw [if_pos c_4] at hf
    refine lv_bipush (v := (-4 : Int32)) hx hb dX6_bake_30 (by decide) ?_
    obtain ⟨rfl, rfl⟩ := sp2 hf
    exact kret _ _ _ _ dX6_bake_32 hP hS trivial
  rw [if_pos c_1] at hf
  refine lv_iconst (v := (-1 : Int32)) hx hb dX6_bake_10 (by decide) ?_
  obtain ⟨rfl, rfl⟩ := sp2 hf
  exact kret _ _ _ _ dX6_bake_11 hP hS trivial
set_option maxHeartbeats 4000000 in
set_option maxRecDepth 100000 in
theorem c_X6_undo (l : Launch) (g : GG) (u : UU) (x1 : Int32) {r : Int32} {u' : UU} (hf : f_X6_undo x1 u = some (r, u')) : Ci l g 55 20 yX6_undo wsX6_undo 1 22 [.ref (aD g 55), .int x1] u r u' := by
  refine ct_i (cc := cX6_undo) (maxL := 4) (by decide) rfl (Nat.le_of_ble_eq_true rfl) ?_
  intro p e s m args below meth c R Q ls hx hb hml hown hts hC hP hl hRf hRl kret hS
  have hown : s.vm.findClass RX6 = some m.cls := hown
  have hl : lv_has ls 4 [(0, .ref (aD g 55)), (1, .int x1)] := hl
  have hinX6 : ∀ w ∈ u_ws RX6 TX6 34, w ∈ wsX6_undo := by decide +kernel
  have w_56 : ∀ (x1 : Int32) (x2 : Int32) (u : UU) (H : Heap) (locs : List Loc) (ls : Array Slot), Ps g 55 20 u H → va_S (aA g) s.heap H locs → lv_has ls 4 [(0, .ref (aD g 55)), (1, .int x1), (2, .int x2)] → f_X6_undo_56 x1 x2 u = some (r, u') → W p l e R s m args below meth c H locs 0 0 Q (F0 m 56 ls []) := by
    intro x1 x2 u H locs ls hP hS hl hf
    unfold f_X6_undo_56 at hf
    refine lv_aload_n hx hb dX6_undo_56 rfl (lv_at hl 0 rfl) ?_
    refine lv_iload_n hx hb dX6_undo_57 rfl (lv_at hl 1 rfl) ?_
    obtain ⟨u_4, eu_4, hf⟩ := lt_ex hf
    refine r_puti hx hb hts hown hC hP hS hinX6 tyX6 tyX6_ok nmX6 55 (by decide) (ci := 5) rfl (by decide) rfl 22 (by decide) (hts (.fieldLink RX6 139 "LoafPartsModel" "deedMany" "I") (by decide +kernel)) rfl (ty := .int) (by decide +kernel) rfl rfl (by decide) (by decide) eu_4 dX6_undo_58 (fun H locs hP hS => ?_)
    refine lv_iload_n hx hb dX6_undo_61 rfl (lv_at hl 2 rfl) ?_
    obtain ⟨rfl, rfl⟩ := sp2 hf
    exact kret _ _ _ _ dX6_undo_62 hP hS trivial
  have w_23 : ∀ (n : Nat), ∀ (x1 : Int32) (x2 : Int32) (x3 : Int32) (u : UU) (H : Heap) (locs : List Loc) (ls : Array Slot), Ps g 55 20 u H → va_S (aA g) s.heap H locs → lv_has ls 4 [(0, .ref (aD g 55)), (1, .int x1), (2, .int x2), (3, .int x3)] → f_X6_undo_23 n x1 x2 x3 u = some (r, u') → W p l e R s m args below meth c H locs 0 0 Q (F0 m 23 ls []) := by
    intro n
    induction n with
    | zero =>
      intro x1 x2 x3 u H locs ls hP hS hl hf
      rw [f_X6_undo_23] at hf
      cases hf
    | succ n ih =>
      intro x1 x2 x3 u H locs ls hP hS hl hf
      rw [f_X6_undo_23] at hf
      refine lv_iload_n hx hb dX6_undo_23 rfl (lv_at hl 3 rfl) ?_
      refine lv_bipush (v := (25 : Int32)) hx hb dX6_undo_24 (by decide) ?_
      refine lv_icmp_ge (tgt := 56) hx hb dX6_undo_26 (by decide) (fun c_3 => ?_) (fun c_3 => ?_)
      · rw [if_pos c_3] at hf
        exact w_56 x1 x2 u _ _ _ hP hS (lv_sub hl [0, 1, 2] rfl) hf
      rw [if_neg c_3] at hf
      refine lv_iload_n hx hb dX6_undo_29 rfl (lv_at hl 2 rfl) ?_
      refine lv_if_le (tgt := 56) hx hb dX6_undo_30 (by decide) (fun c_5 => ?_) (fun c_5 => ?_)
      · rw [if_pos c_5] at hf
        exact w_56 x1 x2 u _ _ _ hP hS (lv_sub hl [0, 1, 2] rfl) hf
      rw [if_neg c_5] at hf
      refine lv_aload_n hx hb dX6_undo_33 rfl (lv_at hl 0 rfl) ?_
      refine r_get hx hb hts hown hC hP hinX6 55 (by decide) (ci := 5) rfl (by decide) rfl 21 (by decide) (hts (.fieldLink RX6 51 "LoafPartsModel" "now" "[I") (by decide +kernel)) (v := .ref (aD g 68)) rfl dX6_undo_34 ?_
      refine lv_iload_n hx hb dX6_undo_37 rfl (lv_at hl 3 rfl) ?_
      refine lv_aload_n hx hb dX6_undo_38 rfl (lv_at hl 0 rfl) ?_
      refine r_get hx hb hts hown hC hP hinX6 55 (by decide) (ci := 5) rfl (by decide) rfl 23 (by decide) (hts (.fieldLink RX6 54 "LoafPartsModel" "log" "[I") (by decide +kernel)) (v := .ref (aD g 69)) rfl dX6_undo_39 ?_
      refine lv_bipush (v := (25 : Int32)) hx hb dX6_undo_42 (by decide) ?_
      refine lv_iload_n hx hb dX6_undo_44 rfl (lv_at hl 1 rfl) ?_
      refine lv_imul hx hb dX6_undo_45 ?_
      refine lv_iload_n hx hb dX6_undo_46 rfl (lv_at hl 3 rfl) ?_
      refine lv_iadd hx hb dX6_undo_47 ?_
      obtain ⟨hi_6, hf⟩ := ix_ex hf
      refine r_ald hx hb hC hP 69 (by decide) rfl hi_6 dX6_undo_48 ?_
      obtain ⟨hi_7, hf⟩ := ix_ex hf
      obtain ⟨u_8, eu_8, hf⟩ := lt_ex hf
      refine r_ast hx hb hC hP hS 68 (by decide) rfl hi_7 eu_8 dX6_undo_49 (fun H locs hP hS => ?_)
      obtain ⟨x3_9, ex3_9, hf⟩ := lt_ex hf
      refine lv_iinc (v := x3_9) (lv' := [(3, .int x3_9), (0, .ref (aD g 55)), (1, .int x1), (2, .int x2)]) hx hb dX6_undo_50 hl (k := 3) rfl (by rw [ex3_9]; rfl) (by decide) rfl (fun ls hl => ?_)
      refine lv_goto (tgt := 23) hx hb dX6_undo_53 (by decide) ?_
      exact ih x1 x2 x3_9 u_8 _ _ _ hP hS (lv_sub hl [1, 2, 3, 0] rfl) hf
  unfold f_X6_undo at hf
  refine lv_iload_n hx hb dX6_undo_0 rfl (lv_at hl 1 rfl) ?_
  refine lv_iconst (v := (0 : Int32)) hx hb dX6_undo_1 (by decide) ?_
  refine lv_aload_n hx hb dX6_undo_2 rfl (lv_at hl 0 rfl) ?_
  refine r_get hx hb hts hown hC hP hinX6 55 (by decide) (ci := 5) rfl (by decide) rfl 22 (by decide) (hts (.fieldLink RX6 139 "LoafPartsModel" "deedMany" "I") (by decide +kernel)) (v := .int (ui u 55 22)) rfl dX6_undo_3 ?_
  refine r_Si (As := [.int x1, .int (0 : Int32), .int (ui u 55 22)]) (rest := []) ⟨hx, hb, hml, hown, hts⟩ hC hP hS (c_X6_in l g u x1 (0 : Int32) (ui u 55 22) rfl) (va_cwS 3 hts gX6_undo_X6_in rfl rfl rfl (by decide +kernel) ⟨(Nat.le_trans (Nat.le_of_ble_eq_true rfl) hRf), (Nat.le_trans (Nat.le_of_ble_eq_true rfl) hRl)⟩) rfl hl.1 rfl (Nat.le_of_ble_eq_true rfl) dX6_undo_6 (fun H locs hP hS => ?_)
  refine lv_if_ne (tgt := 14) hx hb dX6_undo_9 (by decide) (fun c_1 => ?_) (fun c_1 => ?_)
  · rw [if_neg c_1] at hf
    refine lv_aload_n hx hb dX6_undo_14 rfl (lv_at hl 0 rfl) ?_
    refine r_get hx hb hts hown hC hP hinX6 55 (by decide) (ci := 5) rfl (by decide) rfl 22 (by decide) (hts (.fieldLink RX6 139 "LoafPartsModel" "deedMany" "I") (by decide +kernel)) (v := .int (ui u 55 22)) rfl dX6_undo_15 ?_
    refine lv_iload_n hx hb dX6_undo_18 rfl (lv_at hl 1 rfl) ?_
    refine lv_isub hx hb dX6_undo_19 ?_
    obtain ⟨x2_2, ex2_2, hf⟩ := lt_ex hf
    refine r_nm ex2_2 ?_
    refine lv_istore_n (lv' := [(2, .int x2_2), (0, .ref (aD g 55)), (1, .int x1)]) hx hb dX6_undo_20 rfl hl (by decide) rfl (fun ls hl => ?_)
    refine lv_iconst (v := (0 : Int32)) hx hb dX6_undo_21 (by decide) ?_
    refine lv_istore_n (lv' := [(3, .int (0 : Int32)), (2, .int x2_2), (0, .ref (aD g 55)), (1, .int x1)]) hx hb dX6_undo_22 rfl hl (by decide) rfl (fun ls hl => ?_)
    exact w_23 fu x1 x2_2 (0 : Int32) u _ _ _ hP hS (lv_sub hl [2, 3, 1, 0] rfl) hf
  rw [if_pos c_1] at hf
  refine lv_iconst (v := (-1 : Int32)) hx hb dX6_undo_12 (by decide) ?_
  obtain ⟨rfl, rfl⟩ := sp2 hf
  exact kret _ _ _ _ dX6_undo_13 hP hS trivial
set_option maxHeartbeats 4000000 in
set_option maxRecDepth 100000 in
theorem c_X6_keep (l : Launch) (g : GG) (u : UU) (x1 : Int32) {r : Int32} {u' : UU} (hf : f_X6_keep x1 u = some (r, u')) : Ci l g 55 20 yX6_keep wsX6_keep 1 22 [.ref (aD g 55), .int x1] u r u' := by
  refine ct_i (cc := cX6_keep) (maxL := 3) (by decide) rfl (Nat.le_of_ble_eq_true rfl) ?_
  intro p e s m args below meth c R Q ls hx hb hml hown hts hC hP hl hRf hRl kret hS
  have hown : s.vm.findClass RX6 = some m.cls := hown
  have hl : lv_has ls 3 [(0, .ref (aD g 55)), (1, .int x1)] := hl
  have hinX6 : ∀ w ∈ u_ws RX6 TX6 34, w ∈ wsX6_keep := by decide +kernel
  have w_65 : ∀ (n : Nat), ∀ (x1 : Int32) (x2 : Int32) (u : UU) (H : Heap) (locs : List Loc) (ls : Array Slot), Ps g 55 20 u H → va_S (aA g) s.heap H locs → lv_has ls 3 [(0, .ref (aD g 55)), (1, .int x1), (2, .int x2)] → f_X6_keep_65 n x1 x2 u = some (r, u') → W p l e R s m args below meth c H locs 0 0 Q (F0 m 65 ls []) := by
    intro n
    induction n with
    | zero =>
      intro x1 x2 u H locs ls hP hS hl hf
      rw [f_X6_keep_65] at hf
      cases hf
    | succ n ih =>
      intro x1 x2 u H locs ls hP hS hl hf
      rw [f_X6_keep_65] at hf
      refine lv_iload_n hx hb dX6_keep_65 rfl (lv_at hl 2 rfl) ?_
      refine lv_bipush (v := (25 : Int32)) hx hb dX6_keep_66 (by decide) ?_
      refine lv_aload_n hx hb dX6_keep_68 rfl (lv_at hl 0 rfl) ?_
      refine r_get hx hb hts hown hC hP hinX6 55 (by decide) (ci := 5) rfl (by decide) rfl 22 (by decide) (hts (.fieldLink RX6 139 "LoafPartsModel" "deedMany" "I") (by decide +kernel)) (v := .int (ui u 55 22)) rfl dX6_keep_69 ?_
      refine lv_imul hx hb dX6_keep_72 ?_
      refine lv_icmp_ge (tgt := 103) hx hb dX6_keep_73 (by decide) (fun c_6 => ?_) (fun c_6 => ?_)
      · rw [if_pos c_6] at hf
        refine lv_aload_n hx hb dX6_keep_103 rfl (lv_at hl 0 rfl) ?_
        refine r_get hx hb hts hown hC hP hinX6 55 (by decide) (ci := 5) rfl (by decide) rfl 22 (by decide) (hts (.fieldLink RX6 139 "LoafPartsModel" "deedMany" "I") (by decide +kernel)) (v := .int (ui u 55 22)) rfl dX6_keep_104 ?_
        obtain ⟨rfl, rfl⟩ := sp2 hf
        exact kret _ _ _ _ dX6_keep_107 hP hS trivial
      rw [if_neg c_6] at hf
      refine lv_aload_n hx hb dX6_keep_76 rfl (lv_at hl 0 rfl) ?_
      refine r_get hx hb hts hown hC hP hinX6 55 (by decide) (ci := 5) rfl (by decide) rfl 25 (by decide) (hts (.fieldLink RX6 60 "LoafPartsModel" "kept" "[I") (by decide +kernel)) (v := .ref (aD g 71)) rfl dX6_keep_77 ?_
      refine lv_sipush (v := (1025 : Int32)) hx hb dX6_keep_80 (by decide) ?_
      refine lv_iload_n hx hb dX6_keep_83 rfl (lv_at hl 1 rfl) ?_
      refine lv_imul hx hb dX6_keep_84 ?_
      refine lv_bipush (v := (25 : Int32)) hx hb dX6_keep_85 (by decide) ?_
      refine lv_iadd hx hb dX6_keep_87 ?_
      refine lv_iload_n hx hb dX6_keep_88 rfl (lv_at hl 2 rfl) ?_
      refine lv_iadd hx hb dX6_keep_89 ?_
      refine lv_aload_n hx hb dX6_keep_90 rfl (lv_at hl 0 rfl) ?_
      refine r_get hx hb hts hown hC hP hinX6 55 (by decide) (ci := 5) rfl (by decide) rfl 23 (by decide) (hts (.fieldLink RX6 54 "LoafPartsModel" "log" "[I") (by decide +kernel)) (v := .ref (aD g 69)) rfl dX6_keep_91 ?_
      refine lv_iload_n hx hb dX6_keep_94 rfl (lv_at hl 2 rfl) ?_
      obtain ⟨hi_7, hf⟩ := ix_ex hf
      refine r_ald hx hb hC hP 69 (by decide) rfl hi_7 dX6_keep_95 ?_
      obtain ⟨hi_8, hf⟩ := ix_ex hf
      obtain ⟨u_9, eu_9, hf⟩ := lt_ex hf
      refine r_ast hx hb hC hP hS 71 (by decide) rfl hi_8 eu_9 dX6_keep_96 (fun H locs hP hS => ?_)
      obtain ⟨x2_10, ex2_10, hf⟩ := lt_ex hf
      refine lv_iinc (v := x2_10) (lv' := [(2, .int x2_10), (0, .ref (aD g 55)), (1, .int x1)]) hx hb dX6_keep_97 hl (k := 2) rfl (by rw [ex2_10]; rfl) (by decide) rfl (fun ls hl => ?_)
      refine lv_goto (tgt := 65) hx hb dX6_keep_100 (by decide) ?_
      exact ih x1 x2_10 u_9 _ _ _ hP hS (lv_sub hl [1, 2, 0] rfl) hf
  have w_33 : ∀ (n : Nat), ∀ (x1 : Int32) (x2 : Int32) (u : UU) (H : Heap) (locs : List Loc) (ls : Array Slot), Ps g 55 20 u H → va_S (aA g) s.heap H locs → lv_has ls 3 [(0, .ref (aD g 55)), (1, .int x1), (2, .int x2)] → f_X6_keep_33 n x1 x2 u = some (r, u') → W p l e R s m args below meth c H locs 0 0 Q (F0 m 33 ls []) := by
    intro n
    induction n with
    | zero =>
      intro x1 x2 u H locs ls hP hS hl hf
      rw [f_X6_keep_33] at hf
      cases hf
    | succ n ih =>
      intro x1 x2 u H locs ls hP hS hl hf
      rw [f_X6_keep_33] at hf
      refine lv_iload_n hx hb dX6_keep_33 rfl (lv_at hl 2 rfl) ?_
      refine lv_bipush (v := (25 : Int32)) hx hb dX6_keep_34 (by decide) ?_
      refine lv_icmp_ge (tgt := 63) hx hb dX6_keep_36 (by decide) (fun c_5 => ?_) (fun c_5 => ?_)
      · rw [if_pos c_5] at hf
        refine lv_iconst (v := (0 : Int32)) hx hb dX6_keep_63 (by decide) ?_
        refine lv_istore_n (lv' := [(2, .int (0 : Int32)), (0, .ref (aD g 55)), (1, .int x1)]) hx hb dX6_keep_64 rfl hl (by decide) rfl (fun ls hl => ?_)
        exact w_65 fu x1 (0 : Int32) u _ _ _ hP hS (lv_sub hl [1, 2, 0] rfl) hf
      rw [if_neg c_5] at hf
      refine lv_aload_n hx hb dX6_keep_39 rfl (lv_at hl 0 rfl) ?_
      refine r_get hx hb hts hown hC hP hinX6 55 (by decide) (ci := 5) rfl (by decide) rfl 25 (by decide) (hts (.fieldLink RX6 60 "LoafPartsModel" "kept" "[I") (by decide +kernel)) (v := .ref (aD g 71)) rfl dX6_keep_40 ?_
      refine lv_sipush (v := (1025 : Int32)) hx hb dX6_keep_43 (by decide) ?_
      refine lv_iload_n hx hb dX6_keep_46 rfl (lv_at hl 1 rfl) ?_
      refine lv_imul hx hb dX6_keep_47 ?_
      refine lv_iload_n hx hb dX6_keep_48 rfl (lv_at hl 2 rfl) ?_
      refine lv_iadd hx hb dX6_keep_49 ?_
      refine lv_aload_n hx hb dX6_keep_50 rfl (lv_at hl 0 rfl) ?_
      refine r_get hx hb hts hown hC hP hinX6 55 (by decide) (ci := 5) rfl (by decide) rfl 21 (by decide) (hts (.fieldLink RX6 51 "LoafPartsModel" "now" "[I") (by decide +kernel)) (v := .ref (aD g 68)) rfl dX6_keep_51 ?_
      refine lv_iload_n hx hb dX6_keep_54 rfl (lv_at hl 2 rfl) ?_
      obtain ⟨hi_11, hf⟩ := ix_ex hf
      refine r_ald hx hb hC hP 68 (by decide) rfl hi_11 dX6_keep_55 ?_
      obtain ⟨hi_12, hf⟩ := ix_ex hf
      obtain ⟨u_13, eu_13, hf⟩ := lt_ex hf
      refine r_ast hx hb hC hP hS 71 (by decide) rfl hi_12 eu_13 dX6_keep_56 (fun H locs hP hS => ?_)
      obtain ⟨x2_14, ex2_14, hf⟩ := lt_ex hf
      refine lv_iinc (v := x2_14) (lv' := [(2, .int x2_14), (0, .ref (aD g 55)), (1, .int x1)]) hx hb dX6_keep_57 hl (k := 2) rfl (by rw [ex2_14]; rfl) (by decide) rfl (fun ls hl => ?_)
      refine lv_goto (tgt := 33) hx hb dX6_keep_60 (by decide) ?_
      exact ih x1 x2_14 u_13 _ _ _ hP hS (lv_sub hl [1, 2, 0] rfl) hf
  unfold f_X6_keep at hf
  refine lv_iload_n hx hb dX6_keep_0 rfl (lv_at hl 1 rfl) ?_
  refine lv_iconst (v := (0 : Int32)) hx hb dX6_keep_1 (by decide) ?_
  refine lv_iconst (v := (2 : Int32)) hx hb dX6_keep_2 (by decide) ?_
  refine r_Si (As := [.int x1, .int (0 : Int32), .int (2 : Int32)]) (rest := []) ⟨hx, hb, hml, hown, hts⟩ hC hP hS (c_X6_in l g u x1 (0 : Int32) (2 : Int32) rfl) (va_cwS 3 hts gX6_keep_X6_in rfl rfl rfl (by decide +kernel) ⟨(Nat.le_trans (Nat.le_of_ble_eq_true rfl) hRf), (Nat.le_trans (Nat.le_of_ble_eq_true rfl) hRl)⟩) rfl hl.1 rfl (Nat.le_of_ble_eq_true rfl) dX6_keep_3 (fun H locs hP hS => ?_)
  refine lv_if_ne (tgt := 11) hx hb dX6_keep_6 (by decide) (fun c_1 => ?_) (fun c_1 => ?_)
  · rw [if_neg c_1] at hf
    refine lv_aload_n hx hb dX6_keep_11 rfl (lv_at hl 0 rfl) ?_
    refine r_get hx hb hts hown hC hP hinX6 55 (by decide) (ci := 5) rfl (by decide) rfl 17 (by decide) (hts (.fieldLink RX6 136 "LoafPartsModel" "n" "I") (by decide +kernel)) (v := .int (ui u 55 17)) rfl dX6_keep_12 ?_
    refine lv_if_ne (tgt := 21) hx hb dX6_keep_15 (by decide) (fun c_2 => ?_) (fun c_2 => ?_)
    · rw [if_neg c_2] at hf
      refine lv_aload_n hx hb dX6_keep_21 rfl (lv_at hl 0 rfl) ?_
      refine r_get hx hb hts hown hC hP hinX6 55 (by decide) (ci := 5) rfl (by decide) rfl 24 (by decide) (hts (.fieldLink RX6 57 "LoafPartsModel" "keptMany" "[I") (by decide +kernel)) (v := .ref (aD g 70)) rfl dX6_keep_22 ?_
      refine lv_iload_n hx hb dX6_keep_25 rfl (lv_at hl 1 rfl) ?_
      refine lv_aload_n hx hb dX6_keep_26 rfl (lv_at hl 0 rfl) ?_
      refine r_get hx hb hts hown hC hP hinX6 55 (by decide) (ci := 5) rfl (by decide) rfl 22 (by decide) (hts (.fieldLink RX6 139 "LoafPartsModel" "deedMany" "I") (by decide +kernel)) (v := .int (ui u 55 22)) rfl dX6_keep_27 ?_
      obtain ⟨hi_3, hf⟩ := ix_ex hf
      obtain ⟨u_4, eu_4, hf⟩ := lt_ex hf
      refine r_ast hx hb hC hP hS 70 (by decide) rfl hi_3 eu_4 dX6_keep_30 (fun H locs hP hS => ?_)
      refine lv_iconst (v := (0 : Int32)) hx hb dX6_keep_31 (by decide) ?_
      refine lv_istore_n (lv' := [(2, .int (0 : Int32)), (0, .ref (aD g 55)), (1, .int x1)]) hx hb dX6_keep_32 rfl hl (by decide) rfl (fun ls hl => ?_)
      exact w_33 fu x1 (0 : Int32) u_4 _ _ _ hP hS (lv_sub hl [1, 2, 0] rfl) hf
    rw [if_pos c_2] at hf
    refine lv_bipush (v := (-4 : Int32)) hx hb dX6_keep_18 (by decide) ?_
    obtain ⟨rfl, rfl⟩ := sp2 hf
    exact kret _ _ _ _ dX6_keep_20 hP hS trivial
  rw [if_pos c_1] at hf
  refine lv_iconst (v := (-1 : Int32)) hx hb dX6_keep_9 (by decide) ?_
  obtain ⟨rfl, rfl⟩ := sp2 hf
  exact kret _ _ _ _ dX6_keep_10 hP hS trivial
set_option maxHeartbeats 4000000 in
set_option maxRecDepth 100000 in
theorem c_X6_on (l : Launch) (g : GG) (u : UU) (x1 : Int32) {r : Int32} {u' : UU} (hf : f_X6_on x1 u = some (r, u')) : Ci l g 55 20 yX6_on wsX6_on 1 22 [.ref (aD g 55), .int x1] u r u' := by
  refine ct_i (cc := cX6_on) (maxL := 3) (by decide) rfl (Nat.le_of_ble_eq_true rfl) ?_
  intro p e s m args below meth c R Q ls hx hb hml hown hts hC hP hl hRf hRl kret hS
  have hown : s.vm.findClass RX6 = some m.cls := hown
  have hl : lv_has ls 3 [(0, .ref (aD g 55)), (1, .int x1)] := hl
  have hinX6 : ∀ w ∈ u_ws RX6 TX6 34, w ∈ wsX6_on := by decide +kernel
  have w_70 : ∀ (n : Nat), ∀ (x1 : Int32) (x2 : Int32) (u : UU) (H : Heap) (locs : List Loc) (ls : Array Slot), Ps g 55 20 u H → va_S (aA g) s.heap H locs → lv_has ls 3 [(0, .ref (aD g 55)), (1, .int x1), (2, .int x2)] → f_X6_on_70 n x1 x2 u = some (r, u') → W p l e R s m args below meth c H locs 0 0 Q (F0 m 70 ls []) := by
    intro n
    induction n with
    | zero =>
      intro x1 x2 u H locs ls hP hS hl hf
      rw [f_X6_on_70] at hf
      cases hf
    | succ n ih =>
      intro x1 x2 u H locs ls hP hS hl hf
      rw [f_X6_on_70] at hf
      refine lv_iload_n hx hb dX6_on_70 rfl (lv_at hl 2 rfl) ?_
      refine lv_bipush (v := (25 : Int32)) hx hb dX6_on_71 (by decide) ?_
      refine lv_aload_n hx hb dX6_on_73 rfl (lv_at hl 0 rfl) ?_
      refine r_get hx hb hts hown hC hP hinX6 55 (by decide) (ci := 5) rfl (by decide) rfl 22 (by decide) (hts (.fieldLink RX6 139 "LoafPartsModel" "deedMany" "I") (by decide +kernel)) (v := .int (ui u 55 22)) rfl dX6_on_74 ?_
      refine lv_imul hx hb dX6_on_77 ?_
      refine lv_icmp_ge (tgt := 108) hx hb dX6_on_78 (by decide) (fun c_7 => ?_) (fun c_7 => ?_)
      · rw [if_pos c_7] at hf
        refine lv_aload_n hx hb dX6_on_108 rfl (lv_at hl 0 rfl) ?_
        refine r_get hx hb hts hown hC hP hinX6 55 (by decide) (ci := 5) rfl (by decide) rfl 22 (by decide) (hts (.fieldLink RX6 139 "LoafPartsModel" "deedMany" "I") (by decide +kernel)) (v := .int (ui u 55 22)) rfl dX6_on_109 ?_
        obtain ⟨rfl, rfl⟩ := sp2 hf
        exact kret _ _ _ _ dX6_on_112 hP hS trivial
      rw [if_neg c_7] at hf
      refine lv_aload_n hx hb dX6_on_81 rfl (lv_at hl 0 rfl) ?_
      refine r_get hx hb hts hown hC hP hinX6 55 (by decide) (ci := 5) rfl (by decide) rfl 23 (by decide) (hts (.fieldLink RX6 54 "LoafPartsModel" "log" "[I") (by decide +kernel)) (v := .ref (aD g 69)) rfl dX6_on_82 ?_
      refine lv_iload_n hx hb dX6_on_85 rfl (lv_at hl 2 rfl) ?_
      refine lv_aload_n hx hb dX6_on_86 rfl (lv_at hl 0 rfl) ?_
      refine r_get hx hb hts hown hC hP hinX6 55 (by decide) (ci := 5) rfl (by decide) rfl 25 (by decide) (hts (.fieldLink RX6 60 "LoafPartsModel" "kept" "[I") (by decide +kernel)) (v := .ref (aD g 71)) rfl dX6_on_87 ?_
      refine lv_sipush (v := (1025 : Int32)) hx hb dX6_on_90 (by decide) ?_
      refine lv_iload_n hx hb dX6_on_93 rfl (lv_at hl 1 rfl) ?_
      refine lv_imul hx hb dX6_on_94 ?_
      refine lv_bipush (v := (25 : Int32)) hx hb dX6_on_95 (by decide) ?_
      refine lv_iadd hx hb dX6_on_97 ?_
      refine lv_iload_n hx hb dX6_on_98 rfl (lv_at hl 2 rfl) ?_
      refine lv_iadd hx hb dX6_on_99 ?_
      obtain ⟨hi_8, hf⟩ := ix_ex hf
      refine r_ald hx hb hC hP 71 (by decide) rfl hi_8 dX6_on_100 ?_
      obtain ⟨hi_9, hf⟩ := ix_ex hf
      obtain ⟨u_10, eu_10, hf⟩ := lt_ex hf
      refine r_ast hx hb hC hP hS 69 (by decide) rfl hi_9 eu_10 dX6_on_101 (fun H locs hP hS => ?_)
      obtain ⟨x2_11, ex2_11, hf⟩ := lt_ex hf
      refine lv_iinc (v := x2_11) (lv' := [(2, .int x2_11), (0, .ref (aD g 55)), (1, .int x1)]) hx hb dX6_on_102 hl (k := 2) rfl (by rw [ex2_11]; rfl) (by decide) rfl (fun ls hl => ?_)
      refine lv_goto (tgt := 70) hx hb dX6_on_105 (by decide) ?_
      exact ih x1 x2_11 u_10 _ _ _ hP hS (lv_sub hl [1, 2, 0] rfl) hf
  have w_38 : ∀ (n : Nat), ∀ (x1 : Int32) (x2 : Int32) (u : UU) (H : Heap) (locs : List Loc) (ls : Array Slot), Ps g 55 20 u H → va_S (aA g) s.heap H locs → lv_has ls 3 [(0, .ref (aD g 55)), (1, .int x1), (2, .int x2)] → f_X6_on_38 n x1 x2 u = some (r, u') → W p l e R s m args below meth c H locs 0 0 Q (F0 m 38 ls []) := by
    intro n
    induction n with
    | zero =>
      intro x1 x2 u H locs ls hP hS hl hf
      rw [f_X6_on_38] at hf
      cases hf
    | succ n ih =>
      intro x1 x2 u H locs ls hP hS hl hf
      rw [f_X6_on_38] at hf
      refine lv_iload_n hx hb dX6_on_38 rfl (lv_at hl 2 rfl) ?_
      refine lv_bipush (v := (25 : Int32)) hx hb dX6_on_39 (by decide) ?_
      refine lv_icmp_ge (tgt := 68) hx hb dX6_on_41 (by decide) (fun c_6 => ?_) (fun c_6 => ?_)
      · rw [if_pos c_6] at hf
        refine lv_iconst (v := (0 : Int32)) hx hb dX6_on_68 (by decide) ?_
        refine lv_istore_n (lv' := [(2, .int (0 : Int32)), (0, .ref (aD g 55)), (1, .int x1)]) hx hb dX6_on_69 rfl hl (by decide) rfl (fun ls hl => ?_)
        exact w_70 fu x1 (0 : Int32) u _ _ _ hP hS (lv_sub hl [1, 2, 0] rfl) hf
      rw [if_neg c_6] at hf
      refine lv_aload_n hx hb dX6_on_44 rfl (lv_at hl 0 rfl) ?_
      refine r_get hx hb hts hown hC hP hinX6 55 (by decide) (ci := 5) rfl (by decide) rfl 21 (by decide) (hts (.fieldLink RX6 51 "LoafPartsModel" "now" "[I") (by decide +kernel)) (v := .ref (aD g 68)) rfl dX6_on_45 ?_
      refine lv_iload_n hx hb dX6_on_48 rfl (lv_at hl 2 rfl) ?_
      refine lv_aload_n hx hb dX6_on_49 rfl (lv_at hl 0 rfl) ?_
      refine r_get hx hb hts hown hC hP hinX6 55 (by decide) (ci := 5) rfl (by decide) rfl 25 (by decide) (hts (.fieldLink RX6 60 "LoafPartsModel" "kept" "[I") (by decide +kernel)) (v := .ref (aD g 71)) rfl dX6_on_50 ?_
      refine lv_sipush (v := (1025 : Int32)) hx hb dX6_on_53 (by decide) ?_
      refine lv_iload_n hx hb dX6_on_56 rfl (lv_at hl 1 rfl) ?_
      refine lv_imul hx hb dX6_on_57 ?_
      refine lv_iload_n hx hb dX6_on_58 rfl (lv_at hl 2 rfl) ?_
      refine lv_iadd hx hb dX6_on_59 ?_
      obtain ⟨hi_12, hf⟩ := ix_ex hf
      refine r_ald hx hb hC hP 71 (by decide) rfl hi_12 dX6_on_60 ?_
      obtain ⟨hi_13, hf⟩ := ix_ex hf
      obtain ⟨u_14, eu_14, hf⟩ := lt_ex hf
      refine r_ast hx hb hC hP hS 68 (by decide) rfl hi_13 eu_14 dX6_on_61 (fun H locs hP hS => ?_)
      obtain ⟨x2_15, ex2_15, hf⟩ := lt_ex hf
      refine lv_iinc (v := x2_15) (lv' := [(2, .int x2_15), (0, .ref (aD g 55)), (1, .int x1)]) hx hb dX6_on_62 hl (k := 2) rfl (by rw [ex2_15]; rfl) (by decide) rfl (fun ls hl => ?_)
      refine lv_goto (tgt := 38) hx hb dX6_on_65 (by decide) ?_
      exact ih x1 x2_15 u_14 _ _ _ hP hS (lv_sub hl [1, 2, 0] rfl) hf
  unfold f_X6_on at hf
  refine lv_iload_n hx hb dX6_on_0 rfl (lv_at hl 1 rfl) ?_
  refine lv_iconst (v := (0 : Int32)) hx hb dX6_on_1 (by decide) ?_
  refine lv_iconst (v := (2 : Int32)) hx hb dX6_on_2 (by decide) ?_
  refine r_Si (As := [.int x1, .int (0 : Int32), .int (2 : Int32)]) (rest := []) ⟨hx, hb, hml, hown, hts⟩ hC hP hS (c_X6_in l g u x1 (0 : Int32) (2 : Int32) rfl) (va_cwS 3 hts gX6_on_X6_in rfl rfl rfl (by decide +kernel) ⟨(Nat.le_trans (Nat.le_of_ble_eq_true rfl) hRf), (Nat.le_trans (Nat.le_of_ble_eq_true rfl) hRl)⟩) rfl hl.1 rfl (Nat.le_of_ble_eq_true rfl) dX6_on_3 (fun H locs hP hS => ?_)
  refine lv_if_ne (tgt := 11) hx hb dX6_on_6 (by decide) (fun c_1 => ?_) (fun c_1 => ?_)
  · rw [if_neg c_1] at hf
    refine lv_aload_n hx hb dX6_on_11 rfl (lv_at hl 0 rfl) ?_
    refine r_get hx hb hts hown hC hP hinX6 55 (by decide) (ci := 5) rfl (by decide) rfl 24 (by decide) (hts (.fieldLink RX6 57 "LoafPartsModel" "keptMany" "[I") (by decide +kernel)) (v := .ref (aD g 70)) rfl dX6_on_12 ?_
    refine lv_iload_n hx hb dX6_on_15 rfl (lv_at hl 1 rfl) ?_
    obtain ⟨hi_2, hf⟩ := ix_ex hf
    refine r_ald hx hb hC hP 70 (by decide) rfl hi_2 dX6_on_16 ?_
    refine lv_if_ge (tgt := 26) hx hb dX6_on_17 (by decide) (fun c_3 => ?_) (fun c_3 => ?_)
    · rw [if_pos c_3] at hf
      refine lv_aload_n hx hb dX6_on_26 rfl (lv_at hl 0 rfl) ?_
      refine lv_aload_n hx hb dX6_on_27 rfl (lv_at hl 0 rfl) ?_
      refine r_get hx hb hts hown hC hP hinX6 55 (by decide) (ci := 5) rfl (by decide) rfl 24 (by decide) (hts (.fieldLink RX6 57 "LoafPartsModel" "keptMany" "[I") (by decide +kernel)) (v := .ref (aD g 70)) rfl dX6_on_28 ?_
      refine lv_iload_n hx hb dX6_on_31 rfl (lv_at hl 1 rfl) ?_
      obtain ⟨hi_4, hf⟩ := ix_ex hf
      refine r_ald hx hb hC hP 70 (by decide) rfl hi_4 dX6_on_32 ?_
      obtain ⟨u_5, eu_5, hf⟩ := lt_ex hf
      refine r_puti hx hb hts hown hC hP hS hinX6 tyX6 tyX6_ok nmX6 55 (by decide) (ci := 5) rfl (by decide) rfl 22 (by decide) (hts (.fieldLink RX6 139 "LoafPartsModel" "deedMany" "I") (by decide +kernel)) rfl (ty := .int) (by decide +kernel) rfl rfl (by decide) (by decide) eu_5 dX6_on_33 (fun H locs hP hS => ?_)
      refine lv_iconst (v := (0 : Int32)) hx hb dX6_on_36 (by decide) ?_
      refine lv_istore_n (lv' := [(2, .int (0 : Int32)), (0, .ref (aD g 55)), (1, .int x1)]) hx hb dX6_on_37 rfl hl (by decide) rfl (fun ls hl => ?_)
      exact w_38 fu x1 (0 : Int32) u_5 _ _ _ hP hS (lv_sub hl [1, 2, 0] rfl) hf
    rw [if_neg c_3] at hf
    refine lv_aload_n hx hb dX6_on_20 rfl (lv_at hl 0 rfl) ?_
    refine lv_iconst (v := (1 : Int32)) hx hb dX6_on_21 (by decide) ?_
    obtain ⟨q_16, hq_16, hf⟩ := bind_ex hf
    refine r_Vi (r := q_16.1) (u' := q_16.2) (As := [.int (1 : Int32)]) (rest := []) (k := 55) (ci := 5) ⟨hx, hb, hml, hown, hts⟩ hC hP hS (by decide) rfl (by decide) rfl (c_X6_meets l g u (1 : Int32) hq_16) (cwV 1 hts gX6_on_X6_meets rfl rfl rfl (by decide +kernel) ⟨(Nat.le_trans (Nat.le_of_ble_eq_true rfl) hRf), (Nat.le_trans (Nat.le_of_ble_eq_true rfl) hRl)⟩) rfl hl.1 rfl (Nat.le_of_ble_eq_true rfl) dX6_on_22 (fun H locs hP hS => ?_)
    obtain ⟨rfl, rfl⟩ := sp2 hf
    exact kret _ _ _ _ dX6_on_25 hP hS trivial
  rw [if_pos c_1] at hf
  refine lv_iconst (v := (-1 : Int32)) hx hb dX6_on_9 (by decide) ?_
  obtain ⟨rfl, rfl⟩ := sp2 hf
  exact kret _ _ _ _ dX6_on_10 hP hS trivial
set_option maxHeartbeats 4000000 in
set_option maxRecDepth 100000 in
theorem c_X6_lacks (l : Launch) (g : GG) (u : UU) (x1 : Int32) {r : Int32} {u' : UU} (hf : f_X6_lacks x1 u = some (r, u')) : Ci l g 55 20 yX6_lacks wsX6_lacks 3 64 [.ref (aD g 55), .int x1] u r u' := by
  refine ct_i (cc := cX6_lacks) (maxL := 2) (by decide) rfl (Nat.le_of_ble_eq_true rfl) ?_
  intro p e s m args below meth c R Q ls hx hb hml hown hts hC hP hl hRf hRl kret hS
  have hown : s.vm.findClass RX6 = some m.cls := hown
  have hl : lv_has ls 2 [(0, .ref (aD g 55)), (1, .int x1)] := hl
  unfold f_X6_lacks at hf
  refine lv_aload_n hx hb dX6_lacks_0 rfl (lv_at hl 0 rfl) ?_
  refine lv_iload_n hx hb dX6_lacks_1 rfl (lv_at hl 1 rfl) ?_
  obtain ⟨q_1, hq_1, hf⟩ := bind_ex hf
  refine r_Vi (As := [.int x1]) (rest := []) (k := 55) (ci := 5) ⟨hx, hb, hml, hown, hts⟩ hC hP hS (by decide) rfl (by decide) rfl (c_X6_isWorker l g u x1 hq_1) (cwV 1 hts gX6_lacks_X6_isWorker rfl rfl rfl (by decide +kernel) ⟨(Nat.le_trans (Nat.le_of_ble_eq_true rfl) hRf), (Nat.le_trans (Nat.le_of_ble_eq_true rfl) hRl)⟩) rfl hl.1 rfl (Nat.le_of_ble_eq_true rfl) dX6_lacks_2 (fun H locs hP hS => ?_)
  refine lv_if_eq (tgt := 25) hx hb dX6_lacks_5 (by decide) (fun c_2 => ?_) (fun c_2 => ?_)
  · rw [if_pos c_2] at hf
    refine lv_iconst (v := (-1 : Int32)) hx hb dX6_lacks_25 (by decide) ?_
    obtain ⟨rfl, rfl⟩ := sp2 hf
    exact kret _ _ _ _ dX6_lacks_26 hP hS trivial
  rw [if_neg c_2] at hf
  refine lv_aload_n hx hb dX6_lacks_8 rfl (lv_at hl 0 rfl) ?_
  refine lv_aload_n hx hb dX6_lacks_9 rfl (lv_at hl 0 rfl) ?_
  refine lv_iload_n hx hb dX6_lacks_10 rfl (lv_at hl 1 rfl) ?_
  obtain ⟨q_3, hq_3, hf⟩ := bind_ex hf
  refine r_Vi (As := [.int x1]) (rest := [.ref (aD g 55)]) (k := 55) (ci := 5) ⟨hx, hb, hml, hown, hts⟩ hC hP hS (by decide) rfl (by decide) rfl (c_X6_lackOf l g u x1 hq_3) (cwV 1 hts gX6_lacks_X6_lackOf rfl rfl rfl (by decide +kernel) ⟨(Nat.le_trans (Nat.le_of_ble_eq_true rfl) hRf), (Nat.le_trans (Nat.le_of_ble_eq_true rfl) hRl)⟩) rfl hl.1 rfl (Nat.le_of_ble_eq_true rfl) dX6_lacks_11 (fun H locs hP hS => ?_)
  refine lv_i2l hx hb dX6_lacks_14 rfl ?_
  refine lv_ldc2 (v := (720720 : Int64)) hx hb hown (hts (.constantLong RX6 201 (720720)) (by decide +kernel)) dX6_lacks_15 ?_
  refine lv_iconst (v := (1 : Int32)) hx hb dX6_lacks_18 (by decide) ?_
  obtain ⟨q_4, hq_4, hf⟩ := bind_ex hf
  refine r_Vi (r := q_4.1) (u' := q_4.2) (As := [.long ((q_3 : Int32).toInt64), .long (720720 : Int64), .int (1 : Int32)]) (rest := []) (k := 55) (ci := 5) ⟨hx, hb, hml, hown, hts⟩ hC hP hS (by decide) rfl (by decide) rfl (c_X6_lowest l g u ((q_3 : Int32).toInt64) (720720 : Int64) (1 : Int32) hq_4) (cwV 3 hts gX6_lacks_X6_lowest rfl rfl rfl (by decide +kernel) ⟨(Nat.le_trans (Nat.le_of_ble_eq_true rfl) hRf), (Nat.le_trans (Nat.le_of_ble_eq_true rfl) hRl)⟩) rfl hl.1 rfl (Nat.le_of_ble_eq_true rfl) dX6_lacks_19 (fun H locs hP hS => ?_)
  refine lv_goto (tgt := 26) hx hb dX6_lacks_22 (by decide) ?_
  obtain ⟨rfl, rfl⟩ := sp2 hf
  exact kret _ _ _ _ dX6_lacks_26 hP hS trivial
set_option maxHeartbeats 4000000 in
set_option maxRecDepth 100000 in
theorem c_X6_laySets (l : Launch) (g : GG) (u : UU) (x1 : Int32) (x2 : Int32) {u' : UU} (hf : f_X6_laySets x1 x2 u = some u') : Cv l g 55 20 yX6_laySets wsX6_laySets 2 43 [.ref (aD g 55), .int x1, .int x2] u u' := by
  refine ct_v (cc := cX6_laySets) (maxL := 5) (by decide) rfl (Nat.le_of_ble_eq_true rfl) ?_
  intro p e s m args below meth c R Q ls hx hb hml hown hts hC hP hl hRf hRl kret hS
  have hown : s.vm.findClass RX6 = some m.cls := hown
  have hl : lv_has ls 5 [(0, .ref (aD g 55)), (1, .int x1), (2, .int x2)] := hl
  have hinX6 : ∀ w ∈ u_ws RX6 TX6 34, w ∈ wsX6_laySets := by decide +kernel
  have w_114 : ∀ (k_25 : Int32 → Int32 → Int32 → UU → Option UU) (K_25 : ∀ (x1 : Int32) (x2 : Int32) (x3 : Int32) (u : UU) (H : Heap) (locs : List Loc) (ls : Array Slot), Ps g 55 20 u H → va_S (aA g) s.heap H locs → lv_has ls 5 [(0, .ref (aD g 55)), (1, .int x1), (2, .int x2), (3, .int x3)] → k_25 x1 x2 x3 u = some u' → W p l e R s m args below meth c H locs 0 0 Q (F0 m 25 ls [])), ∀ (x1 : Int32) (x2 : Int32) (x3 : Int32) (u : UU) (H : Heap) (locs : List Loc) (ls : Array Slot), Ps g 55 20 u H → va_S (aA g) s.heap H locs → lv_has ls 5 [(0, .ref (aD g 55)), (1, .int x1), (2, .int x2), (3, .int x3)] → f_X6_laySets_114 k_25 x1 x2 x3 u = some u' → W p l e R s m args below meth c H locs 0 0 Q (F0 m 114 ls []) := by
    intro k_25 K_25
    intro x1 x2 x3 u H locs ls hP hS hl hf
    unfold f_X6_laySets_114 at hf
    refine lv_iload_n hx hb dX6_laySets_114 rfl (lv_at hl 3 rfl) ?_
    refine lv_iload_n hx hb dX6_laySets_115 rfl (lv_at hl 1 rfl) ?_
    refine lv_isub hx hb dX6_laySets_116 ?_
    refine lv_iload_n hx hb dX6_laySets_117 rfl (lv_at hl 1 rfl) ?_
    refine lv_iand hx hb dX6_laySets_118 ?_
    obtain ⟨x3_7, ex3_7, hf⟩ := lt_ex hf
    refine r_nm ex3_7 ?_
    refine lv_istore_n (lv' := [(3, .int x3_7), (0, .ref (aD g 55)), (1, .int x1), (2, .int x2)]) hx hb dX6_laySets_119 rfl hl (by decide) rfl (fun ls hl => ?_)
    refine lv_iload_n hx hb dX6_laySets_120 rfl (lv_at hl 0 rfl) ?_
    refine lv_if_ne (tgt := 25) hx hb dX6_laySets_121 (by decide) (fun c_8 => ?_) (fun c_8 => ?_)
    · rw [if_neg c_8] at hf
      exact K_25 x1 x2 x3_7 u _ _ _ hP hS (lv_sub hl [1, 2, 3, 0] rfl) hf
    rw [if_pos c_8] at hf
    obtain rfl := sp1 hf
    exact kret _ _ _ _ dX6_laySets_124 hP hS trivial
  have w_111 : ∀ (k_25 : Int32 → Int32 → Int32 → UU → Option UU) (K_25 : ∀ (x1 : Int32) (x2 : Int32) (x3 : Int32) (u : UU) (H : Heap) (locs : List Loc) (ls : Array Slot), Ps g 55 20 u H → va_S (aA g) s.heap H locs → lv_has ls 5 [(0, .ref (aD g 55)), (1, .int x1), (2, .int x2), (3, .int x3)] → k_25 x1 x2 x3 u = some u' → W p l e R s m args below meth c H locs 0 0 Q (F0 m 25 ls [])), ∀ (x1 : Int32) (x2 : Int32) (x3 : Int32) (t0 : Int32) (u : UU) (H : Heap) (locs : List Loc) (ls : Array Slot), Ps g 55 20 u H → va_S (aA g) s.heap H locs → lv_has ls 5 [(0, .ref (aD g 55)), (1, .int x1), (2, .int x2), (3, .int x3)] → f_X6_laySets_111 k_25 x1 x2 x3 t0 u = some u' → W p l e R s m args below meth c H locs 0 0 Q (F0 m 111 ls [.int t0, .ref (aD g 55)]) := by
    intro k_25 K_25
    intro x1 x2 x3 t0 u H locs ls hP hS hl hf
    unfold f_X6_laySets_111 at hf
    obtain ⟨u_16, eu_16, hf⟩ := lt_ex hf
    refine r_puti hx hb hts hown hC hP hS hinX6 tyX6 tyX6_ok nmX6 55 (by decide) (ci := 5) rfl (by decide) rfl 29 (by decide) (hts (.fieldLink RX6 216 "LoafPartsModel" "setGreat" "I") (by decide +kernel)) rfl (ty := .int) (by decide +kernel) rfl rfl (by decide) (by decide) eu_16 dX6_laySets_111 (fun H locs hP hS => ?_)
    exact w_114 (k_25) K_25 x1 x2 x3 u_16 _ _ _ hP hS (lv_sub hl [0, 1, 2, 3] rfl) hf
  have w_89 : ∀ (k_25 : Int32 → Int32 → Int32 → UU → Option UU) (K_25 : ∀ (x1 : Int32) (x2 : Int32) (x3 : Int32) (u : UU) (H : Heap) (locs : List Loc) (ls : Array Slot), Ps g 55 20 u H → va_S (aA g) s.heap H locs → lv_has ls 5 [(0, .ref (aD g 55)), (1, .int x1), (2, .int x2), (3, .int x3)] → k_25 x1 x2 x3 u = some u' → W p l e R s m args below meth c H locs 0 0 Q (F0 m 25 ls [])), ∀ (x1 : Int32) (x2 : Int32) (x3 : Int32) (x4 : Int32) (t0 : Int32) (u : UU) (H : Heap) (locs : List Loc) (ls : Array Slot), Ps g 55 20 u H → va_S (aA g) s.heap H locs → lv_has ls 5 [(0, .ref (aD g 55)), (1, .int x1), (2, .int x2), (3, .int x3), (4, .int x4)] → f_X6_laySets_89 k_25 x1 x2 x3 x4 t0 u = some u' → W p l e R s m args below meth c H locs 0 0 Q (F0 m 89 ls [.int t0, .ref (aD g 55)]) := by
    intro k_25 K_25
    intro x1 x2 x3 x4 t0 u H locs ls hP hS hl hf
    unfold f_X6_laySets_89 at hf
    obtain ⟨u_14, eu_14, hf⟩ := lt_ex hf
    refine r_puti hx hb hts hown hC hP hS hinX6 tyX6 tyX6_ok nmX6 55 (by decide) (ci := 5) rfl (by decide) rfl 27 (by decide) (hts (.fieldLink RX6 210 "LoafPartsModel" "setFew" "I") (by decide +kernel)) rfl (ty := .int) (by decide +kernel) rfl rfl (by decide) (by decide) eu_14 dX6_laySets_89 (fun H locs hP hS => ?_)
    refine lv_aload_n hx hb dX6_laySets_92 rfl (lv_at hl 0 rfl) ?_
    refine lv_iload hx hb dX6_laySets_93 (lv_at hl 4 rfl) ?_
    refine lv_aload_n hx hb dX6_laySets_95 rfl (lv_at hl 0 rfl) ?_
    refine r_get hx hb hts hown hC hP hinX6 55 (by decide) (ci := 5) rfl (by decide) rfl 29 (by decide) (hts (.fieldLink RX6 216 "LoafPartsModel" "setGreat" "I") (by decide +kernel)) (v := .int (ui u_14 55 29)) rfl dX6_laySets_96 ?_
    refine lv_icmp_le (tgt := 107) hx hb dX6_laySets_99 (by decide) (fun c_15 => ?_) (fun c_15 => ?_)
    · rw [if_pos c_15] at hf
      refine lv_aload_n hx hb dX6_laySets_107 rfl (lv_at hl 0 rfl) ?_
      refine r_get hx hb hts hown hC hP hinX6 55 (by decide) (ci := 5) rfl (by decide) rfl 29 (by decide) (hts (.fieldLink RX6 216 "LoafPartsModel" "setGreat" "I") (by decide +kernel)) (v := .int (ui u_14 55 29)) rfl dX6_laySets_108 ?_
      exact w_111 (k_25) K_25 x1 x2 x3 (ui u_14 55 29) u_14 _ _ _ hP hS (lv_sub hl [0, 1, 2, 3] rfl) hf
    rw [if_neg c_15] at hf
    refine lv_iload hx hb dX6_laySets_102 (lv_at hl 4 rfl) ?_
    refine lv_goto (tgt := 111) hx hb dX6_laySets_104 (by decide) ?_
    exact w_111 (k_25) K_25 x1 x2 x3 x4 u_14 _ _ _ hP hS (lv_sub hl [0, 1, 2, 3] rfl) hf
  have w_67 : ∀ (k_25 : Int32 → Int32 → Int32 → UU → Option UU) (K_25 : ∀ (x1 : Int32) (x2 : Int32) (x3 : Int32) (u : UU) (H : Heap) (locs : List Loc) (ls : Array Slot), Ps g 55 20 u H → va_S (aA g) s.heap H locs → lv_has ls 5 [(0, .ref (aD g 55)), (1, .int x1), (2, .int x2), (3, .int x3)] → k_25 x1 x2 x3 u = some u' → W p l e R s m args below meth c H locs 0 0 Q (F0 m 25 ls [])), ∀ (x1 : Int32) (x2 : Int32) (x3 : Int32) (x4 : Int32) (t0 : Int32) (u : UU) (H : Heap) (locs : List Loc) (ls : Array Slot), Ps g 55 20 u H → va_S (aA g) s.heap H locs → lv_has ls 5 [(0, .ref (aD g 55)), (1, .int x1), (2, .int x2), (3, .int x3), (4, .int x4)] → f_X6_laySets_67 k_25 x1 x2 x3 x4 t0 u = some u' → W p l e R s m args below meth c H locs 0 0 Q (F0 m 67 ls [.int t0, .ref (aD g 55)]) := by
    intro k_25 K_25
    intro x1 x2 x3 x4 t0 u H locs ls hP hS hl hf
    unfold f_X6_laySets_67 at hf
    obtain ⟨u_12, eu_12, hf⟩ := lt_ex hf
    refine r_puti hx hb hts hown hC hP hS hinX6 tyX6 tyX6_ok nmX6 55 (by decide) (ci := 5) rfl (by decide) rfl 28 (by decide) (hts (.fieldLink RX6 213 "LoafPartsModel" "setBits" "I") (by decide +kernel)) rfl (ty := .int) (by decide +kernel) rfl rfl (by decide) (by decide) eu_12 dX6_laySets_67 (fun H locs hP hS => ?_)
    refine lv_aload_n hx hb dX6_laySets_70 rfl (lv_at hl 0 rfl) ?_
    refine lv_iload hx hb dX6_laySets_71 (lv_at hl 4 rfl) ?_
    refine lv_aload_n hx hb dX6_laySets_73 rfl (lv_at hl 0 rfl) ?_
    refine r_get hx hb hts hown hC hP hinX6 55 (by decide) (ci := 5) rfl (by decide) rfl 27 (by decide) (hts (.fieldLink RX6 210 "LoafPartsModel" "setFew" "I") (by decide +kernel)) (v := .int (ui u_12 55 27)) rfl dX6_laySets_74 ?_
    refine lv_icmp_ge (tgt := 85) hx hb dX6_laySets_77 (by decide) (fun c_13 => ?_) (fun c_13 => ?_)
    · rw [if_pos c_13] at hf
      refine lv_aload_n hx hb dX6_laySets_85 rfl (lv_at hl 0 rfl) ?_
      refine r_get hx hb hts hown hC hP hinX6 55 (by decide) (ci := 5) rfl (by decide) rfl 27 (by decide) (hts (.fieldLink RX6 210 "LoafPartsModel" "setFew" "I") (by decide +kernel)) (v := .int (ui u_12 55 27)) rfl dX6_laySets_86 ?_
      exact w_89 (k_25) K_25 x1 x2 x3 x4 (ui u_12 55 27) u_12 _ _ _ hP hS (lv_sub hl [0, 1, 2, 3, 4] rfl) hf
    rw [if_neg c_13] at hf
    refine lv_iload hx hb dX6_laySets_80 (lv_at hl 4 rfl) ?_
    refine lv_goto (tgt := 89) hx hb dX6_laySets_82 (by decide) ?_
    exact w_89 (k_25) K_25 x1 x2 x3 x4 x4 u_12 _ _ _ hP hS (lv_sub hl [0, 1, 2, 3, 4] rfl) hf
  have w_25 : ∀ (n : Nat), ∀ (x1 : Int32) (x2 : Int32) (x3 : Int32) (u : UU) (H : Heap) (locs : List Loc) (ls : Array Slot), Ps g 55 20 u H → va_S (aA g) s.heap H locs → lv_has ls 5 [(0, .ref (aD g 55)), (1, .int x1), (2, .int x2), (3, .int x3)] → f_X6_laySets_25 n x1 x2 x3 u = some u' → W p l e R s m args below meth c H locs 0 0 Q (F0 m 25 ls []) := by
    intro n
    induction n with
    | zero =>
      intro x1 x2 x3 u H locs ls hP hS hl hf
      rw [f_X6_laySets_25] at hf
      cases hf
    | succ n ih =>
      intro x1 x2 x3 u H locs ls hP hS hl hf
      rw [f_X6_laySets_25] at hf
      refine lv_iload_n hx hb dX6_laySets_25 rfl (lv_at hl 3 rfl) ?_
      obtain ⟨q_5, hq_5, hf⟩ := bind_ex hf
      refine r_Si (As := [.int x3]) (rest := []) ⟨hx, hb, hml, hown, hts⟩ hC hP hS (c_X6_sumOf l g u x3 hq_5) (va_cwS 1 hts gX6_laySets_X6_sumOf rfl rfl rfl (by decide +kernel) ⟨(Nat.le_trans (Nat.le_of_ble_eq_true rfl) hRf), (Nat.le_trans (Nat.le_of_ble_eq_true rfl) hRl)⟩) rfl hl.1 rfl (Nat.le_of_ble_eq_true rfl) dX6_laySets_26 (fun H locs hP hS => ?_)
      refine lv_iload_n hx hb dX6_laySets_29 rfl (lv_at hl 2 rfl) ?_
      refine lv_icmp_ne (tgt := 114) hx hb dX6_laySets_30 (by decide) (fun c_6 => ?_) (fun c_6 => ?_)
      · rw [if_neg c_6] at hf
        exact w_114 (f_X6_laySets_25 n) ih x1 x2 x3 u _ _ _ hP hS (lv_sub hl [0, 1, 2, 3] rfl) hf
      rw [if_pos c_6] at hf
      refine lv_iload_n hx hb dX6_laySets_33 rfl (lv_at hl 3 rfl) ?_
      obtain ⟨q_9, hq_9, hf⟩ := bind_ex hf
      refine r_Si (As := [.int x3]) (rest := []) ⟨hx, hb, hml, hown, hts⟩ hC hP hS (c_X6_bits l g u x3 hq_9) (va_cwS 1 hts gX6_laySets_X6_bits rfl rfl rfl (by decide +kernel) ⟨(Nat.le_trans (Nat.le_of_ble_eq_true rfl) hRf), (Nat.le_trans (Nat.le_of_ble_eq_true rfl) hRl)⟩) rfl hl.1 rfl (Nat.le_of_ble_eq_true rfl) dX6_laySets_34 (fun H locs hP hS => ?_)
      refine lv_istore (lv' := [(4, .int q_9), (0, .ref (aD g 55)), (1, .int x1), (2, .int x2), (3, .int x3)]) hx hb dX6_laySets_37 hl (by decide) rfl (fun ls hl => ?_)
      refine lv_aload_n hx hb dX6_laySets_39 rfl (lv_at hl 1 rfl) ?_
      refine lv_dup hx hb dX6_laySets_40 rfl ?_
      refine r_get hx hb hts hown hC hP hinX6 55 (by decide) (ci := 5) rfl (by decide) rfl 26 (by decide) (hts (.fieldLink RX6 207 "LoafPartsModel" "setMany" "I") (by decide +kernel)) (v := .int (ui u 55 26)) rfl dX6_laySets_41 ?_
      refine lv_iconst (v := (1 : Int32)) hx hb dX6_laySets_44 (by decide) ?_
      refine lv_iadd hx hb dX6_laySets_45 ?_
      obtain ⟨u_10, eu_10, hf⟩ := lt_ex hf
      refine r_puti hx hb hts hown hC hP hS hinX6 tyX6 tyX6_ok nmX6 55 (by decide) (ci := 5) rfl (by decide) rfl 26 (by decide) (hts (.fieldLink RX6 207 "LoafPartsModel" "setMany" "I") (by decide +kernel)) rfl (ty := .int) (by decide +kernel) rfl rfl (by decide) (by decide) eu_10 dX6_laySets_46 (fun H locs hP hS => ?_)
      refine lv_aload_n hx hb dX6_laySets_49 rfl (lv_at hl 1 rfl) ?_
      refine lv_iload hx hb dX6_laySets_50 (lv_at hl 0 rfl) ?_
      refine lv_aload_n hx hb dX6_laySets_52 rfl (lv_at hl 1 rfl) ?_
      refine r_get hx hb hts hown hC hP hinX6 55 (by decide) (ci := 5) rfl (by decide) rfl 27 (by decide) (hts (.fieldLink RX6 210 "LoafPartsModel" "setFew" "I") (by decide +kernel)) (v := .int (ui u_10 55 27)) rfl dX6_laySets_53 ?_
      refine lv_icmp_ge (tgt := 63) hx hb dX6_laySets_56 (by decide) (fun c_11 => ?_) (fun c_11 => ?_)
      · rw [if_pos c_11] at hf
        refine lv_aload_n hx hb dX6_laySets_63 rfl (lv_at hl 1 rfl) ?_
        refine r_get hx hb hts hown hC hP hinX6 55 (by decide) (ci := 5) rfl (by decide) rfl 28 (by decide) (hts (.fieldLink RX6 213 "LoafPartsModel" "setBits" "I") (by decide +kernel)) (v := .int (ui u_10 55 28)) rfl dX6_laySets_64 ?_
        exact w_67 (f_X6_laySets_25 n) ih x1 x2 x3 q_9 (ui u_10 55 28) u_10 _ _ _ hP hS (lv_sub hl [1, 2, 3, 4, 0] rfl) hf
      rw [if_neg c_11] at hf
      refine lv_iload_n hx hb dX6_laySets_59 rfl (lv_at hl 4 rfl) ?_
      refine lv_goto (tgt := 67) hx hb dX6_laySets_60 (by decide) ?_
      exact w_67 (f_X6_laySets_25 n) ih x1 x2 x3 q_9 x3 u_10 _ _ _ hP hS (lv_sub hl [1, 2, 3, 4, 0] rfl) hf
  unfold f_X6_laySets at hf
  refine lv_aload_n hx hb dX6_laySets_0 rfl (lv_at hl 0 rfl) ?_
  refine lv_iconst (v := (0 : Int32)) hx hb dX6_laySets_1 (by decide) ?_
  obtain ⟨u_1, eu_1, hf⟩ := lt_ex hf
  refine r_puti hx hb hts hown hC hP hS hinX6 tyX6 tyX6_ok nmX6 55 (by decide) (ci := 5) rfl (by decide) rfl 26 (by decide) (hts (.fieldLink RX6 207 "LoafPartsModel" "setMany" "I") (by decide +kernel)) rfl (ty := .int) (by decide +kernel) rfl rfl (by decide) (by decide) eu_1 dX6_laySets_2 (fun H locs hP hS => ?_)
  refine lv_aload_n hx hb dX6_laySets_5 rfl (lv_at hl 0 rfl) ?_
  refine lv_bipush (v := (16 : Int32)) hx hb dX6_laySets_6 (by decide) ?_
  obtain ⟨u_2, eu_2, hf⟩ := lt_ex hf
  refine r_puti hx hb hts hown hC hP hS hinX6 tyX6 tyX6_ok nmX6 55 (by decide) (ci := 5) rfl (by decide) rfl 27 (by decide) (hts (.fieldLink RX6 210 "LoafPartsModel" "setFew" "I") (by decide +kernel)) rfl (ty := .int) (by decide +kernel) rfl rfl (by decide) (by decide) eu_2 dX6_laySets_8 (fun H locs hP hS => ?_)
  refine lv_aload_n hx hb dX6_laySets_11 rfl (lv_at hl 0 rfl) ?_
  refine lv_bipush (v := (-9 : Int32)) hx hb dX6_laySets_12 (by decide) ?_
  obtain ⟨u_3, eu_3, hf⟩ := lt_ex hf
  refine r_puti hx hb hts hown hC hP hS hinX6 tyX6 tyX6_ok nmX6 55 (by decide) (ci := 5) rfl (by decide) rfl 28 (by decide) (hts (.fieldLink RX6 213 "LoafPartsModel" "setBits" "I") (by decide +kernel)) rfl (ty := .int) (by decide +kernel) rfl rfl (by decide) (by decide) eu_3 dX6_laySets_14 (fun H locs hP hS => ?_)
  refine lv_aload_n hx hb dX6_laySets_17 rfl (lv_at hl 0 rfl) ?_
  refine lv_bipush (v := (-9 : Int32)) hx hb dX6_laySets_18 (by decide) ?_
  obtain ⟨u_4, eu_4, hf⟩ := lt_ex hf
  refine r_puti hx hb hts hown hC hP hS hinX6 tyX6 tyX6_ok nmX6 55 (by decide) (ci := 5) rfl (by decide) rfl 29 (by decide) (hts (.fieldLink RX6 216 "LoafPartsModel" "setGreat" "I") (by decide +kernel)) rfl (ty := .int) (by decide +kernel) rfl rfl (by decide) (by decide) eu_4 dX6_laySets_20 (fun H locs hP hS => ?_)
  refine lv_iconst (v := (0 : Int32)) hx hb dX6_laySets_23 (by decide) ?_
  refine lv_istore_n (lv' := [(3, .int (0 : Int32)), (0, .ref (aD g 55)), (1, .int x1), (2, .int x2)]) hx hb dX6_laySets_24 rfl hl (by decide) rfl (fun ls hl => ?_)
  exact w_25 fu x1 x2 (0 : Int32) u_4 _ _ _ hP hS (lv_sub hl [1, 2, 3, 0] rfl) hf
set_option maxHeartbeats 4000000 in
set_option maxRecDepth 100000 in
theorem c_X6_mayTake (l : Launch) (g : GG) (u : UU) (x1 : Int32) {r : Int32} (hf : f_X6_mayTake x1 u = some r) : Ci l g 55 20 yX6_mayTake wsX6_mayTake 2 44 [.ref (aD g 55), .int x1] u r u := by
  refine ct_i (cc := cX6_mayTake) (maxL := 2) (by decide) rfl (Nat.le_of_ble_eq_true rfl) ?_
  intro p e s m args below meth c R Q ls hx hb hml hown hts hC hP hl hRf hRl kret hS
  have hown : s.vm.findClass RX6 = some m.cls := hown
  have hl : lv_has ls 2 [(0, .ref (aD g 55)), (1, .int x1)] := hl
  have hinX6 : ∀ w ∈ u_ws RX6 TX6 34, w ∈ wsX6_mayTake := by decide +kernel
  unfold f_X6_mayTake at hf
  refine lv_aload_n hx hb dX6_mayTake_0 rfl (lv_at hl 0 rfl) ?_
  refine r_get hx hb hts hown hC hP hinX6 55 (by decide) (ci := 5) rfl (by decide) rfl 18 (by decide) (hts (.fieldLink RX6 42 "LoafPartsModel" "kind" "[I") (by decide +kernel)) (v := .ref (aD g 65)) rfl dX6_mayTake_1 ?_
  refine lv_iload_n hx hb dX6_mayTake_4 rfl (lv_at hl 1 rfl) ?_
  obtain ⟨hi_1, hf⟩ := ix_ex hf
  refine r_ald hx hb hC hP 65 (by decide) rfl hi_1 dX6_mayTake_5 ?_
  obtain ⟨q_2, hq_2, hf⟩ := bind_ex hf
  refine r_Si (As := [.int (ui u 65 (x1 : Int32).toNatClampNeg)]) (rest := []) ⟨hx, hb, hml, hown, hts⟩ hC hP hS (c_X6_allOf l g u (ui u 65 (x1 : Int32).toNatClampNeg) hq_2) (va_cwS 1 hts gX6_mayTake_X6_allOf rfl rfl rfl (by decide +kernel) ⟨(Nat.le_trans (Nat.le_of_ble_eq_true rfl) hRf), (Nat.le_trans (Nat.le_of_ble_eq_true rfl) hRl)⟩) rfl hl.1 rfl (Nat.le_of_ble_eq_true rfl) dX6_mayTake_6 (fun H locs hP hS => ?_)
  refine lv_aload_n hx hb dX6_mayTake_9 rfl (lv_at hl 0 rfl) ?_
  refine r_get hx hb hts hown hC hP hinX6 55 (by decide) (ci := 5) rfl (by decide) rfl 21 (by decide) (hts (.fieldLink RX6 51 "LoafPartsModel" "now" "[I") (by decide +kernel)) (v := .ref (aD g 68)) rfl dX6_mayTake_10 ?_
  refine lv_bipush (v := (18 : Int32)) hx hb dX6_mayTake_13 (by decide) ?_
  refine lv_iload_n hx hb dX6_mayTake_15 rfl (lv_at hl 1 rfl) ?_
  refine lv_iadd hx hb dX6_mayTake_16 ?_
  obtain ⟨hi_3, hf⟩ := ix_ex hf
  refine r_ald hx hb hC hP 68 (by decide) rfl hi_3 dX6_mayTake_17 ?_
  refine lv_iconst (v := (-1 : Int32)) hx hb dX6_mayTake_18 (by decide) ?_
  refine lv_ixor hx hb dX6_mayTake_19 ?_
  refine lv_iand hx hb dX6_mayTake_20 ?_
  obtain rfl := sp1 hf
  exact kret _ _ _ _ dX6_mayTake_21 hP hS trivial
set_option maxHeartbeats 4000000 in
set_option maxRecDepth 100000 in
theorem c_X6_ways (l : Launch) (g : GG) (u : UU) (x1 : Int32) {r : Int32} {u' : UU} (hf : f_X6_ways x1 u = some (r, u')) : Ci l g 55 20 yX6_ways wsX6_ways 3 67 [.ref (aD g 55), .int x1] u r u' := by
  refine ct_i (cc := cX6_ways) (maxL := 2) (by decide) rfl (Nat.le_of_ble_eq_true rfl) ?_
  intro p e s m args below meth c R Q ls hx hb hml hown hts hC hP hl hRf hRl kret hS
  have hown : s.vm.findClass RX6 = some m.cls := hown
  have hl : lv_has ls 2 [(0, .ref (aD g 55)), (1, .int x1)] := hl
  have hinX6 : ∀ w ∈ u_ws RX6 TX6 34, w ∈ wsX6_ways := by decide +kernel
  unfold f_X6_ways at hf
  refine lv_aload_n hx hb dX6_ways_0 rfl (lv_at hl 0 rfl) ?_
  refine lv_iload_n hx hb dX6_ways_1 rfl (lv_at hl 1 rfl) ?_
  obtain ⟨q_1, hq_1, hf⟩ := bind_ex hf
  refine r_Vi (As := [.int x1]) (rest := []) (k := 55) (ci := 5) ⟨hx, hb, hml, hown, hts⟩ hC hP hS (by decide) rfl (by decide) rfl (c_X6_isWorker l g u x1 hq_1) (cwV 1 hts gX6_ways_X6_isWorker rfl rfl rfl (by decide +kernel) ⟨(Nat.le_trans (Nat.le_of_ble_eq_true rfl) hRf), (Nat.le_trans (Nat.le_of_ble_eq_true rfl) hRl)⟩) rfl hl.1 rfl (Nat.le_of_ble_eq_true rfl) dX6_ways_2 (fun H locs hP hS => ?_)
  refine lv_if_ne (tgt := 10) hx hb dX6_ways_5 (by decide) (fun c_2 => ?_) (fun c_2 => ?_)
  · rw [if_neg c_2] at hf
    refine lv_aload_n hx hb dX6_ways_10 rfl (lv_at hl 0 rfl) ?_
    refine lv_aload_n hx hb dX6_ways_11 rfl (lv_at hl 0 rfl) ?_
    refine lv_iload_n hx hb dX6_ways_12 rfl (lv_at hl 1 rfl) ?_
    obtain ⟨q_3, hq_3, hf⟩ := bind_ex hf
    refine r_Vi (As := [.int x1]) (rest := [.ref (aD g 55)]) (k := 55) (ci := 5) ⟨hx, hb, hml, hown, hts⟩ hC hP hS (by decide) rfl (by decide) rfl (c_X6_mayTake l g u x1 hq_3) (cwV 1 hts gX6_ways_X6_mayTake rfl rfl rfl (by decide +kernel) ⟨(Nat.le_trans (Nat.le_of_ble_eq_true rfl) hRf), (Nat.le_trans (Nat.le_of_ble_eq_true rfl) hRl)⟩) rfl hl.1 rfl (Nat.le_of_ble_eq_true rfl) dX6_ways_13 (fun H locs hP hS => ?_)
    refine lv_aload_n hx hb dX6_ways_16 rfl (lv_at hl 0 rfl) ?_
    refine lv_iload_n hx hb dX6_ways_17 rfl (lv_at hl 1 rfl) ?_
    obtain ⟨q_4, hq_4, hf⟩ := bind_ex hf
    refine r_Vi (As := [.int x1]) (rest := [.int q_3, .ref (aD g 55)]) (k := 55) (ci := 5) ⟨hx, hb, hml, hown, hts⟩ hC hP hS (by decide) rfl (by decide) rfl (c_X6_lackOf l g u x1 hq_4) (cwV 1 hts gX6_ways_X6_lackOf rfl rfl rfl (by decide +kernel) ⟨(Nat.le_trans (Nat.le_of_ble_eq_true rfl) hRf), (Nat.le_trans (Nat.le_of_ble_eq_true rfl) hRl)⟩) rfl hl.1 rfl (Nat.le_of_ble_eq_true rfl) dX6_ways_18 (fun H locs hP hS => ?_)
    obtain ⟨q_5, hq_5, hf⟩ := bind_ex hf
    refine r_Vv (As := [.int q_3, .int q_4]) (rest := []) (k := 55) (ci := 5) ⟨hx, hb, hml, hown, hts⟩ hC hP hS (by decide) rfl (by decide) rfl (c_X6_laySets l g u q_3 q_4 hq_5) (cwV 2 hts gX6_ways_X6_laySets rfl rfl rfl (by decide +kernel) ⟨(Nat.le_trans (Nat.le_of_ble_eq_true rfl) hRf), (Nat.le_trans (Nat.le_of_ble_eq_true rfl) hRl)⟩) rfl hl.1 rfl (Nat.le_of_ble_eq_true rfl) dX6_ways_21 (fun H locs hP hS => ?_)
    refine lv_aload_n hx hb dX6_ways_24 rfl (lv_at hl 0 rfl) ?_
    refine r_get hx hb hts hown hC hP hinX6 55 (by decide) (ci := 5) rfl (by decide) rfl 26 (by decide) (hts (.fieldLink RX6 207 "LoafPartsModel" "setMany" "I") (by decide +kernel)) (v := .int (ui q_5 55 26)) rfl dX6_ways_25 ?_
    refine lv_if_ne (tgt := 36) hx hb dX6_ways_28 (by decide) (fun c_6 => ?_) (fun c_6 => ?_)
    · rw [if_neg c_6] at hf
      refine lv_aload_n hx hb dX6_ways_36 rfl (lv_at hl 0 rfl) ?_
      refine lv_aload_n hx hb dX6_ways_37 rfl (lv_at hl 0 rfl) ?_
      refine r_get hx hb hts hown hC hP hinX6 55 (by decide) (ci := 5) rfl (by decide) rfl 29 (by decide) (hts (.fieldLink RX6 216 "LoafPartsModel" "setGreat" "I") (by decide +kernel)) (v := .int (ui q_5 55 29)) rfl dX6_ways_38 ?_
      refine lv_aload_n hx hb dX6_ways_41 rfl (lv_at hl 0 rfl) ?_
      refine r_get hx hb hts hown hC hP hinX6 55 (by decide) (ci := 5) rfl (by decide) rfl 26 (by decide) (hts (.fieldLink RX6 207 "LoafPartsModel" "setMany" "I") (by decide +kernel)) (v := .int (ui q_5 55 26)) rfl dX6_ways_42 ?_
      obtain ⟨q_7, hq_7, hf⟩ := bind_ex hf
      refine r_Vi (r := q_7.1) (u' := q_7.2) (As := [.int (ui q_5 55 29), .int (ui q_5 55 26)]) (rest := []) (k := 55) (ci := 5) ⟨hx, hb, hml, hown, hts⟩ hC hP hS (by decide) rfl (by decide) rfl (c_X6_tells l g q_5 (ui q_5 55 29) (ui q_5 55 26) hq_7) (cwV 2 hts gX6_ways_X6_tells rfl rfl rfl (by decide +kernel) ⟨(Nat.le_trans (Nat.le_of_ble_eq_true rfl) hRf), (Nat.le_trans (Nat.le_of_ble_eq_true rfl) hRl)⟩) rfl hl.1 rfl (Nat.le_of_ble_eq_true rfl) dX6_ways_45 (fun H locs hP hS => ?_)
      obtain ⟨rfl, rfl⟩ := sp2 hf
      exact kret _ _ _ _ dX6_ways_48 hP hS trivial
    rw [if_pos c_6] at hf
    refine lv_bipush (v := (-9 : Int32)) hx hb dX6_ways_31 (by decide) ?_
    refine lv_goto (tgt := 48) hx hb dX6_ways_33 (by decide) ?_
    obtain ⟨rfl, rfl⟩ := sp2 hf
    exact kret _ _ _ _ dX6_ways_48 hP hS trivial
  rw [if_pos c_2] at hf
  refine lv_iconst (v := (-1 : Int32)) hx hb dX6_ways_8 (by decide) ?_
  obtain ⟨rfl, rfl⟩ := sp2 hf
  exact kret _ _ _ _ dX6_ways_9 hP hS trivial