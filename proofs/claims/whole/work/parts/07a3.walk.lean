set_option maxHeartbeats 4000000 in
set_option maxRecDepth 100000 in
theorem c_X4_fromHand (l : Launch) (g : GG) (u : UU) (x1 : Int32) (x2 : Int32) {u' : UU} (hf : f_X4_fromHand x1 x2 u = some u') : Cv l g 0 55 yX4_fromHand wsX4_fromHand 1 22 [.ref (aD g 11), .int x1, .int x2] u u' := by
  refine ct_v (cc := cX4_fromHand) (maxL := 3) (by decide) rfl (Nat.le_of_ble_eq_true rfl) ?_
  intro p e s m args below meth c R Q ls hx hb hml hown hts hC hP hl hRf hRl kret hS
  have hown : s.vm.findClass RX4 = some m.cls := hown
  have hl : lv_has ls 3 [(0, .ref (aD g 11)), (1, .int x1), (2, .int x2)] := hl
  have hinX4 : ∀ w ∈ u_ws RX4 TX4 13, w ∈ wsX4_fromHand := by decide +kernel
  unfold f_X4_fromHand at hf
  refine lv_aload_n hx hb dX4_fromHand_0 rfl (lv_at hl 0 rfl) ?_
  refine lv_iload_n hx hb dX4_fromHand_1 rfl (lv_at hl 2 rfl) ?_
  refine lv_iconst (v := (1 : Int32)) hx hb dX4_fromHand_2 (by decide) ?_
  obtain ⟨q_1, hq_1, hf⟩ := bind_ex hf
  refine r_Vv (As := [.int x2, .int (1 : Int32)]) (rest := []) (k := 11) (ci := 3) ⟨hx, hb, hml, hown, hts⟩ hC hP hS (by decide) rfl (by decide) rfl (c_X4_changeLying l g u x2 (1 : Int32) hq_1) (cwV 2 hts gX4_fromHand_X4_changeLying rfl rfl rfl (by decide +kernel) ⟨(Nat.le_trans (Nat.le_of_ble_eq_true rfl) hRf), (Nat.le_trans (Nat.le_of_ble_eq_true rfl) hRl)⟩) rfl hl.1 rfl (Nat.le_of_ble_eq_true rfl) dX4_fromHand_3 (fun H locs hP hS => ?_)
  refine lv_aload_n hx hb dX4_fromHand_6 rfl (lv_at hl 0 rfl) ?_
  refine r_get hx hb hts hown hC hP hinX4 11 (by decide) (ci := 3) rfl (by decide) rfl 8 (by decide) (hts (.fieldLink RX4 24 "LoafParts$Table" "has" "[I") (by decide +kernel)) (v := .ref (aD g 16)) rfl dX4_fromHand_7 ?_
  refine lv_iload_n hx hb dX4_fromHand_10 rfl (lv_at hl 1 rfl) ?_
  refine lv_dup2_11 hx hb dX4_fromHand_11 rfl rfl ?_
  obtain ⟨hi_2, hf⟩ := ix_ex hf
  refine r_ald hx hb hC hP 16 (by decide) rfl hi_2 dX4_fromHand_12 ?_
  refine lv_iconst (v := (1 : Int32)) hx hb dX4_fromHand_13 (by decide) ?_
  refine lv_iload_n hx hb dX4_fromHand_14 rfl (lv_at hl 2 rfl) ?_
  refine lv_ishl hx hb dX4_fromHand_15 ?_
  refine lv_iconst (v := (-1 : Int32)) hx hb dX4_fromHand_16 (by decide) ?_
  refine lv_ixor hx hb dX4_fromHand_17 ?_
  refine lv_iand hx hb dX4_fromHand_18 ?_
  obtain ⟨hi_3, hf⟩ := ix_ex hf
  obtain ⟨u_4, eu_4, hf⟩ := lt_ex hf
  refine r_ast hx hb hC hP hS 16 (by decide) rfl hi_3 eu_4 dX4_fromHand_19 (fun H locs hP hS => ?_)
  refine lv_aload_n hx hb dX4_fromHand_20 rfl (lv_at hl 0 rfl) ?_
  refine r_get hx hb hts hown hC hP hinX4 11 (by decide) (ci := 3) rfl (by decide) rfl 9 (by decide) (hts (.fieldLink RX4 27 "LoafParts$Table" "lack" "[I") (by decide +kernel)) (v := .ref (aD g 17)) rfl dX4_fromHand_21 ?_
  refine lv_iload_n hx hb dX4_fromHand_24 rfl (lv_at hl 1 rfl) ?_
  refine lv_dup2_11 hx hb dX4_fromHand_25 rfl rfl ?_
  obtain ⟨hi_5, hf⟩ := ix_ex hf
  refine r_ald hx hb hC hP 17 (by decide) rfl hi_5 dX4_fromHand_26 ?_
  refine lv_iload_n hx hb dX4_fromHand_27 rfl (lv_at hl 2 rfl) ?_
  refine r_SNi (As := [.int x2]) (rest := [.int (ui u_4 17 (x1 : Int32).toNatClampNeg), .int x1, .ref (aD g 17)]) ⟨hx, hb, hml, hown, hts⟩ hC hP hS (c_X5_partSize l g u_4 x2 rfl) ⟨va_cnB 1 hts gX4_fromHand_X5_partSize_n146 rfl rfl rfl (hC.2.2.1.2 _ (List.mem_of_getElem? (i := 4) rfl)) (hts (.initialized RX5) (by decide +kernel)) (by decide +kernel) ⟨(Nat.le_trans (Nat.le_of_ble_eq_true rfl) hRf), (Nat.le_trans (Nat.le_of_ble_eq_true rfl) hRl)⟩, hts (.static yX5_partSize) (by decide +kernel), trivial⟩ rfl hl.1 rfl (Nat.le_of_ble_eq_true rfl) dX4_fromHand_28 (fun H locs hP hS => ?_)
  refine lv_iadd hx hb dX4_fromHand_31 ?_
  obtain ⟨hi_6, hf⟩ := ix_ex hf
  obtain ⟨u_7, eu_7, hf⟩ := lt_ex hf
  refine r_ast hx hb hC hP hS 17 (by decide) rfl hi_6 eu_7 dX4_fromHand_32 (fun H locs hP hS => ?_)
  obtain rfl := sp1 hf
  exact kret _ _ _ _ dX4_fromHand_33 hP hS trivial
set_option maxHeartbeats 4000000 in
set_option maxRecDepth 100000 in
theorem c_X4_takeBack (l : Launch) (g : GG) (u : UU) (x1 : Int32) (x2 : Int32) {u' : UU} (hf : f_X4_takeBack x1 x2 u = some u') : Cv l g 0 55 yX4_takeBack wsX4_takeBack 2 44 [.ref (aD g 11), .int x1, .int x2] u u' := by
  refine ct_v (cc := cX4_takeBack) (maxL := 3) (by decide) rfl (Nat.le_of_ble_eq_true rfl) ?_
  intro p e s m args below meth c R Q ls hx hb hml hown hts hC hP hl hRf hRl kret hS
  have hown : s.vm.findClass RX4 = some m.cls := hown
  have hl : lv_has ls 3 [(0, .ref (aD g 11)), (1, .int x1), (2, .int x2)] := hl
  unfold f_X4_takeBack at hf
  refine lv_aload_n hx hb dX4_takeBack_0 rfl (lv_at hl 0 rfl) ?_
  refine lv_iload_n hx hb dX4_takeBack_1 rfl (lv_at hl 1 rfl) ?_
  refine lv_iload_n hx hb dX4_takeBack_2 rfl (lv_at hl 2 rfl) ?_
  obtain ⟨q_1, hq_1, hf⟩ := bind_ex hf
  refine r_Vv (As := [.int x1, .int x2]) (rest := []) (k := 11) (ci := 3) ⟨hx, hb, hml, hown, hts⟩ hC hP hS (by decide) rfl (by decide) rfl (c_X4_fromHand l g u x1 x2 hq_1) (cwV 2 hts gX4_takeBack_X4_fromHand rfl rfl rfl (by decide +kernel) ⟨(Nat.le_trans (Nat.le_of_ble_eq_true rfl) hRf), (Nat.le_trans (Nat.le_of_ble_eq_true rfl) hRl)⟩) rfl hl.1 rfl (Nat.le_of_ble_eq_true rfl) dX4_takeBack_3 (fun H locs hP hS => ?_)
  refine lv_aload_n hx hb dX4_takeBack_6 rfl (lv_at hl 0 rfl) ?_
  refine lv_iconst (v := (3 : Int32)) hx hb dX4_takeBack_7 (by decide) ?_
  refine lv_iload_n hx hb dX4_takeBack_8 rfl (lv_at hl 1 rfl) ?_
  refine lv_iload_n hx hb dX4_takeBack_9 rfl (lv_at hl 2 rfl) ?_
  obtain ⟨q_2, hq_2, hf⟩ := bind_ex hf
  refine r_Vv (As := [.int (3 : Int32), .int x1, .int x2]) (rest := []) (k := 11) (ci := 3) ⟨hx, hb, hml, hown, hts⟩ hC hP hS (by decide) rfl (by decide) rfl (c_X4_noteDeed l g q_1 (3 : Int32) x1 x2 hq_2) (cwV 3 hts gX4_takeBack_X4_noteDeed rfl rfl rfl (by decide +kernel) ⟨(Nat.le_trans (Nat.le_of_ble_eq_true rfl) hRf), (Nat.le_trans (Nat.le_of_ble_eq_true rfl) hRl)⟩) rfl hl.1 rfl (Nat.le_of_ble_eq_true rfl) dX4_takeBack_10 (fun H locs hP hS => ?_)
  obtain rfl := sp1 hf
  exact kret _ _ _ _ dX4_takeBack_13 hP hS trivial
set_option maxHeartbeats 4000000 in
set_option maxRecDepth 100000 in
theorem c_X5_back (l : Launch) (g : GG) (u : UU) (x1 : Int32) (x2 : Int32) {r : Int32} {u' : UU} (hf : f_X5_back x1 x2 u = some (r, u')) : Ci l g 0 55 yX5_back wsX5_back 3 66 [.ref (aD g 0), .int x1, .int x2] u r u' := by
  refine ct_i (cc := cX5_back) (maxL := 3) (by decide) rfl (Nat.le_of_ble_eq_true rfl) ?_
  intro p e s m args below meth c R Q ls hx hb hml hown hts hC hP hl hRf hRl kret hS
  have hown : s.vm.findClass RX5 = some m.cls := hown
  have hl : lv_has ls 3 [(0, .ref (aD g 0)), (1, .int x1), (2, .int x2)] := hl
  have hinX4 : ∀ w ∈ u_ws RX4 TX4 13, w ∈ wsX5_back := by decide +kernel
  have hinX5 : ∀ w ∈ u_ws RX5 TX5 12, w ∈ wsX5_back := by decide +kernel
  unfold f_X5_back at hf
  refine lv_aload_n hx hb dX5_back_0 rfl (lv_at hl 0 rfl) ?_
  refine r_get hx hb hts hown hC hP hinX5 0 (by decide) (ci := 4) rfl (by decide) rfl 3 (by decide) (hts (.fieldLink RX5 31 "LoafParts" "table" "LLoafParts$Table;") (by decide +kernel)) (v := .ref (aD g 11)) rfl dX5_back_1 ?_
  refine lv_iload_n hx hb dX5_back_4 rfl (lv_at hl 1 rfl) ?_
  obtain ⟨q_1, hq_1, hf⟩ := bind_ex hf
  refine r_Vi (As := [.int x1]) (rest := []) (k := 11) (ci := 3) ⟨hx, hb, hml, hown, hts⟩ hC hP hS (by decide) rfl (by decide) rfl (c_X4_isWorker l g u x1 hq_1) (cwV 1 hts gX5_back_X4_isWorker rfl rfl rfl (by decide +kernel) ⟨(Nat.le_trans (Nat.le_of_ble_eq_true rfl) hRf), (Nat.le_trans (Nat.le_of_ble_eq_true rfl) hRl)⟩) rfl hl.1 rfl (Nat.le_of_ble_eq_true rfl) dX5_back_5 (fun H locs hP hS => ?_)
  refine lv_if_eq (tgt := 18) hx hb dX5_back_8 (by decide) (fun c_2 => ?_) (fun c_2 => ?_)
  · rw [if_pos c_2] at hf
    refine lv_iconst (v := (-1 : Int32)) hx hb dX5_back_18 (by decide) ?_
    obtain ⟨rfl, rfl⟩ := sp2 hf
    exact kret _ _ _ _ dX5_back_19 hP hS trivial
  rw [if_neg c_2] at hf
  refine lv_iload_n hx hb dX5_back_11 rfl (lv_at hl 2 rfl) ?_
  refine r_Si (As := [.int x2]) (rest := []) ⟨hx, hb, hml, hown, hts⟩ hC hP hS (c_X5_isPart l g u x2 rfl) (va_cwS 1 hts gX5_back_X5_isPart rfl rfl rfl (by decide +kernel) ⟨(Nat.le_trans (Nat.le_of_ble_eq_true rfl) hRf), (Nat.le_trans (Nat.le_of_ble_eq_true rfl) hRl)⟩) rfl hl.1 rfl (Nat.le_of_ble_eq_true rfl) dX5_back_12 (fun H locs hP hS => ?_)
  refine lv_if_ne (tgt := 20) hx hb dX5_back_15 (by decide) (fun c_3 => ?_) (fun c_3 => ?_)
  · rw [if_neg c_3] at hf
    refine lv_aload_n hx hb dX5_back_20 rfl (lv_at hl 0 rfl) ?_
    refine r_get hx hb hts hown hC hP hinX5 0 (by decide) (ci := 4) rfl (by decide) rfl 3 (by decide) (hts (.fieldLink RX5 31 "LoafParts" "table" "LLoafParts$Table;") (by decide +kernel)) (v := .ref (aD g 11)) rfl dX5_back_21 ?_
    refine lv_iload_n hx hb dX5_back_24 rfl (lv_at hl 1 rfl) ?_
    refine lv_iload_n hx hb dX5_back_25 rfl (lv_at hl 2 rfl) ?_
    obtain ⟨q_4, hq_4, hf⟩ := bind_ex hf
    refine r_Vi (As := [.int x1, .int x2]) (rest := []) (k := 11) (ci := 3) ⟨hx, hb, hml, hown, hts⟩ hC hP hS (by decide) rfl (by decide) rfl (c_X4_canTakeBack l g u x1 x2 hq_4) (cwV 2 hts gX5_back_X4_canTakeBack rfl rfl rfl (by decide +kernel) ⟨(Nat.le_trans (Nat.le_of_ble_eq_true rfl) hRf), (Nat.le_trans (Nat.le_of_ble_eq_true rfl) hRl)⟩) rfl hl.1 rfl (Nat.le_of_ble_eq_true rfl) dX5_back_26 (fun H locs hP hS => ?_)
    refine lv_if_ne (tgt := 35) hx hb dX5_back_29 (by decide) (fun c_5 => ?_) (fun c_5 => ?_)
    · rw [if_neg c_5] at hf
      refine lv_aload_n hx hb dX5_back_35 rfl (lv_at hl 0 rfl) ?_
      refine r_get hx hb hts hown hC hP hinX5 0 (by decide) (ci := 4) rfl (by decide) rfl 3 (by decide) (hts (.fieldLink RX5 31 "LoafParts" "table" "LLoafParts$Table;") (by decide +kernel)) (v := .ref (aD g 11)) rfl dX5_back_36 ?_
      refine lv_iconst (v := (1 : Int32)) hx hb dX5_back_39 (by decide) ?_
      obtain ⟨q_6, hq_6, hf⟩ := bind_ex hf
      refine r_Vi (As := [.int (1 : Int32)]) (rest := []) (k := 11) (ci := 3) ⟨hx, hb, hml, hown, hts⟩ hC hP hS (by decide) rfl (by decide) rfl (c_X4_hasRoomFor l g u (1 : Int32) hq_6) (cwV 1 hts gX5_back_X4_hasRoomFor rfl rfl rfl (by decide +kernel) ⟨(Nat.le_trans (Nat.le_of_ble_eq_true rfl) hRf), (Nat.le_trans (Nat.le_of_ble_eq_true rfl) hRl)⟩) rfl hl.1 rfl (Nat.le_of_ble_eq_true rfl) dX5_back_40 (fun H locs hP hS => ?_)
      refine lv_if_ne (tgt := 49) hx hb dX5_back_43 (by decide) (fun c_7 => ?_) (fun c_7 => ?_)
      · rw [if_neg c_7] at hf
        refine lv_aload_n hx hb dX5_back_49 rfl (lv_at hl 0 rfl) ?_
        refine r_get hx hb hts hown hC hP hinX5 0 (by decide) (ci := 4) rfl (by decide) rfl 3 (by decide) (hts (.fieldLink RX5 31 "LoafParts" "table" "LLoafParts$Table;") (by decide +kernel)) (v := .ref (aD g 11)) rfl dX5_back_50 ?_
        refine lv_iload_n hx hb dX5_back_53 rfl (lv_at hl 1 rfl) ?_
        refine lv_iload_n hx hb dX5_back_54 rfl (lv_at hl 2 rfl) ?_
        obtain ⟨q_8, hq_8, hf⟩ := bind_ex hf
        refine r_Vv (As := [.int x1, .int x2]) (rest := []) (k := 11) (ci := 3) ⟨hx, hb, hml, hown, hts⟩ hC hP hS (by decide) rfl (by decide) rfl (c_X4_takeBack l g u x1 x2 hq_8) (cwV 2 hts gX5_back_X4_takeBack rfl rfl rfl (by decide +kernel) ⟨(Nat.le_trans (Nat.le_of_ble_eq_true rfl) hRf), (Nat.le_trans (Nat.le_of_ble_eq_true rfl) hRl)⟩) rfl hl.1 rfl (Nat.le_of_ble_eq_true rfl) dX5_back_55 (fun H locs hP hS => ?_)
        refine lv_aload_n hx hb dX5_back_58 rfl (lv_at hl 0 rfl) ?_
        refine r_get hx hb hts hown hC hP hinX5 0 (by decide) (ci := 4) rfl (by decide) rfl 3 (by decide) (hts (.fieldLink RX5 31 "LoafParts" "table" "LLoafParts$Table;") (by decide +kernel)) (v := .ref (aD g 11)) rfl dX5_back_59 ?_
        refine r_getN hx hb hts hown hC hP hinX4 11 (by decide) (ci := 3) rfl (by decide) rfl 8 (by decide) 4 rfl (v := .ref (aD g 16)) rfl dX5_back_62 ?_
        refine lv_iload_n hx hb dX5_back_65 rfl (lv_at hl 1 rfl) ?_
        obtain ⟨hi_9, hf⟩ := ix_ex hf
        refine r_ald hx hb hC hP 16 (by decide) rfl hi_9 dX5_back_66 ?_
        refine r_Si (As := [.int (ui q_8 16 (x1 : Int32).toNatClampNeg)]) (rest := []) ⟨hx, hb, hml, hown, hts⟩ hC hP hS (c_J6_bitCount_0f7a4 l g q_8 (ui q_8 16 (x1 : Int32).toNatClampNeg) rfl) (va_cwS 1 hts gX5_back_J6_bitCount_0f7a4 rfl rfl rfl (by decide +kernel) ⟨(Nat.le_trans (Nat.le_of_ble_eq_true rfl) hRf), (Nat.le_trans (Nat.le_of_ble_eq_true rfl) hRl)⟩) rfl hl.1 rfl (Nat.le_of_ble_eq_true rfl) dX5_back_67 (fun H locs hP hS => ?_)
        obtain ⟨rfl, rfl⟩ := sp2 hf
        exact kret _ _ _ _ dX5_back_70 hP hS trivial
      rw [if_pos c_7] at hf
      refine lv_bipush (v := (-2 : Int32)) hx hb dX5_back_46 (by decide) ?_
      obtain ⟨rfl, rfl⟩ := sp2 hf
      exact kret _ _ _ _ dX5_back_48 hP hS trivial
    rw [if_pos c_5] at hf
    refine lv_bipush (v := (-4 : Int32)) hx hb dX5_back_32 (by decide) ?_
    obtain ⟨rfl, rfl⟩ := sp2 hf
    exact kret _ _ _ _ dX5_back_34 hP hS trivial
  rw [if_pos c_3] at hf
  refine lv_iconst (v := (-1 : Int32)) hx hb dX5_back_18 (by decide) ?_
  obtain ⟨rfl, rfl⟩ := sp2 hf
  exact kret _ _ _ _ dX5_back_19 hP hS trivial
set_option maxHeartbeats 4000000 in
set_option maxRecDepth 100000 in
theorem c_X4_canBake (l : Launch) (g : GG) (u : UU) {r : Int32} (hf : f_X4_canBake u = some r) : Ci l g 0 55 yX4_canBake wsX4_canBake 0 0 [.ref (aD g 11)] u r u := by
  refine ct_z (cc := cX4_canBake) (maxL := 1) (by decide) rfl (Nat.le_of_ble_eq_true rfl) ?_
  intro p e s m args below meth c R Q ls hx hb hml hown hts hC hP hl hRf hRl kret hS
  have hown : s.vm.findClass RX4 = some m.cls := hown
  have hl : lv_has ls 1 [(0, .ref (aD g 11))] := hl
  have hinX4 : ∀ w ∈ u_ws RX4 TX4 13, w ∈ wsX4_canBake := by decide +kernel
  unfold f_X4_canBake at hf
  refine lv_aload_n hx hb dX4_canBake_0 rfl (lv_at hl 0 rfl) ?_
  refine r_get hx hb hts hown hC hP hinX4 11 (by decide) (ci := 3) rfl (by decide) rfl 0 (by decide) (hts (.fieldLink RX4 39 "LoafParts$Table" "workers" "I") (by decide +kernel)) (v := .int (ui u 11 0)) rfl dX4_canBake_1 ?_
  refine lv_if_le (tgt := 20) hx hb dX4_canBake_4 (by decide) (fun c_1 => ?_) (fun c_1 => ?_)
  · rw [if_pos c_1] at hf
    refine lv_iconst (v := (0 : Int32)) hx hb dX4_canBake_20 (by decide) ?_
    obtain rfl := sp1 hf
    exact kret _ _ _ _ dX4_canBake_21 hP hS rfl
  rw [if_neg c_1] at hf
  refine lv_aload_n hx hb dX4_canBake_7 rfl (lv_at hl 0 rfl) ?_
  refine r_get hx hb hts hown hC hP hinX4 11 (by decide) (ci := 3) rfl (by decide) rfl 1 (by decide) (hts (.fieldLink RX4 43 "LoafParts$Table" "loaves" "I") (by decide +kernel)) (v := .int (ui u 11 1)) rfl dX4_canBake_8 ?_
  refine lv_bipush (v := (99 : Int32)) hx hb dX4_canBake_11 (by decide) ?_
  refine lv_icmp_ge (tgt := 20) hx hb dX4_canBake_13 (by decide) (fun c_2 => ?_) (fun c_2 => ?_)
  · rw [if_pos c_2] at hf
    refine lv_iconst (v := (0 : Int32)) hx hb dX4_canBake_20 (by decide) ?_
    obtain rfl := sp1 hf
    exact kret _ _ _ _ dX4_canBake_21 hP hS rfl
  rw [if_neg c_2] at hf
  refine lv_iconst (v := (1 : Int32)) hx hb dX4_canBake_16 (by decide) ?_
  refine lv_goto (tgt := 21) hx hb dX4_canBake_17 (by decide) ?_
  obtain rfl := sp1 hf
  exact kret _ _ _ _ dX4_canBake_21 hP hS rfl
set_option maxHeartbeats 4000000 in
set_option maxRecDepth 100000 in
theorem c_X4_bakeLoaves (l : Launch) (g : GG) (u : UU) (x1 : Int32) {u' : UU} (hf : f_X4_bakeLoaves x1 u = some u') : Cv l g 0 55 yX4_bakeLoaves wsX4_bakeLoaves 1 23 [.ref (aD g 11), .int x1] u u' := by
  refine ct_v (cc := cX4_bakeLoaves) (maxL := 3) (by decide) rfl (Nat.le_of_ble_eq_true rfl) ?_
  intro p e s m args below meth c R Q ls hx hb hml hown hts hC hP hl hRf hRl kret hS
  have hown : s.vm.findClass RX4 = some m.cls := hown
  have hl : lv_has ls 3 [(0, .ref (aD g 11)), (1, .int x1)] := hl
  have hinX4 : ∀ w ∈ u_ws RX4 TX4 13, w ∈ wsX4_bakeLoaves := by decide +kernel
  unfold f_X4_bakeLoaves at hf
  refine lv_iload_n hx hb dX4_bakeLoaves_0 rfl (lv_at hl 1 rfl) ?_
  refine lv_bipush (v := (99 : Int32)) hx hb dX4_bakeLoaves_1 (by decide) ?_
  refine lv_aload_n hx hb dX4_bakeLoaves_3 rfl (lv_at hl 0 rfl) ?_
  refine r_get hx hb hts hown hC hP hinX4 11 (by decide) (ci := 3) rfl (by decide) rfl 1 (by decide) (hts (.fieldLink RX4 43 "LoafParts$Table" "loaves" "I") (by decide +kernel)) (v := .int (ui u 11 1)) rfl dX4_bakeLoaves_4 ?_
  refine lv_isub hx hb dX4_bakeLoaves_7 ?_
  refine va_mmin hx hb (hml.trans hl.1.symm) hown (hts (.methodLink RX4 120 Lib.Math.min.name) (by decide +kernel)) (hts (.static Lib.Math.min.name) (by decide +kernel)) (hts (.initialized "java/lang/Math") (by decide +kernel)) (hts (.code Lib.Math.min.name Lib.Math.min.code 2 (some .int)) (by decide +kernel)) (Nat.le_trans (Nat.le_of_ble_eq_true rfl) hRf) (Nat.le_trans (Nat.le_of_ble_eq_true rfl) hRl) (Nat.zero_le _) (Nat.zero_le _) dX4_bakeLoaves_8 ?_
  obtain ⟨x2_1, ex2_1, hf⟩ := lt_ex hf
  refine r_nm ex2_1 ?_
  refine lv_istore_n (lv' := [(2, .int x2_1), (0, .ref (aD g 11)), (1, .int x1)]) hx hb dX4_bakeLoaves_11 rfl hl (by decide) rfl (fun ls hl => ?_)
  refine lv_aload_n hx hb dX4_bakeLoaves_12 rfl (lv_at hl 1 rfl) ?_
  refine lv_dup hx hb dX4_bakeLoaves_13 rfl ?_
  refine r_get hx hb hts hown hC hP hinX4 11 (by decide) (ci := 3) rfl (by decide) rfl 1 (by decide) (hts (.fieldLink RX4 43 "LoafParts$Table" "loaves" "I") (by decide +kernel)) (v := .int (ui u 11 1)) rfl dX4_bakeLoaves_14 ?_
  refine lv_iload_n hx hb dX4_bakeLoaves_17 rfl (lv_at hl 0 rfl) ?_
  refine lv_iadd hx hb dX4_bakeLoaves_18 ?_
  obtain ⟨u_2, eu_2, hf⟩ := lt_ex hf
  refine r_puti hx hb hts hown hC hP hS hinX4 tyX4 tyX4_ok nmX4 11 (by decide) (ci := 3) rfl (by decide) rfl 1 (by decide) (hts (.fieldLink RX4 43 "LoafParts$Table" "loaves" "I") (by decide +kernel)) rfl (ty := .int) (by decide +kernel) rfl rfl (by decide) (by decide) eu_2 dX4_bakeLoaves_19 (fun H locs hP hS => ?_)
  refine lv_aload_n hx hb dX4_bakeLoaves_22 rfl (lv_at hl 1 rfl) ?_
  refine lv_iconst (v := (4 : Int32)) hx hb dX4_bakeLoaves_23 (by decide) ?_
  refine lv_iconst (v := (0 : Int32)) hx hb dX4_bakeLoaves_24 (by decide) ?_
  refine lv_iload_n hx hb dX4_bakeLoaves_25 rfl (lv_at hl 0 rfl) ?_
  obtain ⟨q_3, hq_3, hf⟩ := bind_ex hf
  refine r_Vv (As := [.int (4 : Int32), .int (0 : Int32), .int x2_1]) (rest := []) (k := 11) (ci := 3) ⟨hx, hb, hml, hown, hts⟩ hC hP hS (by decide) rfl (by decide) rfl (c_X4_noteDeed l g u_2 (4 : Int32) (0 : Int32) x2_1 hq_3) (cwV 3 hts gX4_bakeLoaves_X4_noteDeed rfl rfl rfl (by decide +kernel) ⟨(Nat.le_trans (Nat.le_of_ble_eq_true rfl) hRf), (Nat.le_trans (Nat.le_of_ble_eq_true rfl) hRl)⟩) rfl hl.1 rfl (Nat.le_of_ble_eq_true rfl) dX4_bakeLoaves_26 (fun H locs hP hS => ?_)
  obtain rfl := sp1 hf
  exact kret _ _ _ _ dX4_bakeLoaves_29 hP hS trivial
set_option maxHeartbeats 4000000 in
set_option maxRecDepth 100000 in
theorem c_X5_bake (l : Launch) (g : GG) (u : UU) (x1 : Int32) {r : Int32} {u' : UU} (hf : f_X5_bake x1 u = some (r, u')) : Ci l g 0 55 yX5_bake wsX5_bake 2 45 [.ref (aD g 0), .int x1] u r u' := by
  refine ct_i (cc := cX5_bake) (maxL := 2) (by decide) rfl (Nat.le_of_ble_eq_true rfl) ?_
  intro p e s m args below meth c R Q ls hx hb hml hown hts hC hP hl hRf hRl kret hS
  have hown : s.vm.findClass RX5 = some m.cls := hown
  have hl : lv_has ls 2 [(0, .ref (aD g 0)), (1, .int x1)] := hl
  have hinX4 : ∀ w ∈ u_ws RX4 TX4 13, w ∈ wsX5_bake := by decide +kernel
  have hinX5 : ∀ w ∈ u_ws RX5 TX5 12, w ∈ wsX5_bake := by decide +kernel
  unfold f_X5_bake at hf
  refine lv_iload_n hx hb dX5_bake_0 rfl (lv_at hl 1 rfl) ?_
  refine lv_iconst (v := (1 : Int32)) hx hb dX5_bake_1 (by decide) ?_
  refine lv_icmp_lt (tgt := 11) hx hb dX5_bake_2 (by decide) (fun c_1 => ?_) (fun c_1 => ?_)
  · rw [if_pos c_1] at hf
    refine lv_iconst (v := (-1 : Int32)) hx hb dX5_bake_11 (by decide) ?_
    obtain ⟨rfl, rfl⟩ := sp2 hf
    exact kret _ _ _ _ dX5_bake_12 hP hS trivial
  rw [if_neg c_1] at hf
  refine lv_iload_n hx hb dX5_bake_5 rfl (lv_at hl 1 rfl) ?_
  refine lv_bipush (v := (9 : Int32)) hx hb dX5_bake_6 (by decide) ?_
  refine lv_icmp_le (tgt := 13) hx hb dX5_bake_8 (by decide) (fun c_2 => ?_) (fun c_2 => ?_)
  · rw [if_pos c_2] at hf
    refine lv_aload_n hx hb dX5_bake_13 rfl (lv_at hl 0 rfl) ?_
    refine r_get hx hb hts hown hC hP hinX5 0 (by decide) (ci := 4) rfl (by decide) rfl 3 (by decide) (hts (.fieldLink RX5 31 "LoafParts" "table" "LLoafParts$Table;") (by decide +kernel)) (v := .ref (aD g 11)) rfl dX5_bake_14 ?_
    obtain ⟨q_3, hq_3, hf⟩ := bind_ex hf
    refine r_Vi (As := []) (rest := []) (k := 11) (ci := 3) ⟨hx, hb, hml, hown, hts⟩ hC hP hS (by decide) rfl (by decide) rfl (c_X4_canBake l g u hq_3) (cwV 0 hts gX5_bake_X4_canBake rfl rfl rfl (by decide +kernel) ⟨(Nat.le_trans (Nat.le_of_ble_eq_true rfl) hRf), (Nat.le_trans (Nat.le_of_ble_eq_true rfl) hRl)⟩) rfl hl.1 rfl (Nat.le_of_ble_eq_true rfl) dX5_bake_17 (fun H locs hP hS => ?_)
    refine lv_if_ne (tgt := 26) hx hb dX5_bake_20 (by decide) (fun c_4 => ?_) (fun c_4 => ?_)
    · rw [if_neg c_4] at hf
      refine lv_aload_n hx hb dX5_bake_26 rfl (lv_at hl 0 rfl) ?_
      refine r_get hx hb hts hown hC hP hinX5 0 (by decide) (ci := 4) rfl (by decide) rfl 3 (by decide) (hts (.fieldLink RX5 31 "LoafParts" "table" "LLoafParts$Table;") (by decide +kernel)) (v := .ref (aD g 11)) rfl dX5_bake_27 ?_
      refine lv_iconst (v := (1 : Int32)) hx hb dX5_bake_30 (by decide) ?_
      obtain ⟨q_5, hq_5, hf⟩ := bind_ex hf
      refine r_Vi (As := [.int (1 : Int32)]) (rest := []) (k := 11) (ci := 3) ⟨hx, hb, hml, hown, hts⟩ hC hP hS (by decide) rfl (by decide) rfl (c_X4_hasRoomFor l g u (1 : Int32) hq_5) (cwV 1 hts gX5_bake_X4_hasRoomFor rfl rfl rfl (by decide +kernel) ⟨(Nat.le_trans (Nat.le_of_ble_eq_true rfl) hRf), (Nat.le_trans (Nat.le_of_ble_eq_true rfl) hRl)⟩) rfl hl.1 rfl (Nat.le_of_ble_eq_true rfl) dX5_bake_31 (fun H locs hP hS => ?_)
      refine lv_if_ne (tgt := 40) hx hb dX5_bake_34 (by decide) (fun c_6 => ?_) (fun c_6 => ?_)
      · rw [if_neg c_6] at hf
        refine lv_aload_n hx hb dX5_bake_40 rfl (lv_at hl 0 rfl) ?_
        refine r_get hx hb hts hown hC hP hinX5 0 (by decide) (ci := 4) rfl (by decide) rfl 3 (by decide) (hts (.fieldLink RX5 31 "LoafParts" "table" "LLoafParts$Table;") (by decide +kernel)) (v := .ref (aD g 11)) rfl dX5_bake_41 ?_
        refine lv_iload_n hx hb dX5_bake_44 rfl (lv_at hl 1 rfl) ?_
        obtain ⟨q_7, hq_7, hf⟩ := bind_ex hf
        refine r_Vv (As := [.int x1]) (rest := []) (k := 11) (ci := 3) ⟨hx, hb, hml, hown, hts⟩ hC hP hS (by decide) rfl (by decide) rfl (c_X4_bakeLoaves l g u x1 hq_7) (cwV 1 hts gX5_bake_X4_bakeLoaves rfl rfl rfl (by decide +kernel) ⟨(Nat.le_trans (Nat.le_of_ble_eq_true rfl) hRf), (Nat.le_trans (Nat.le_of_ble_eq_true rfl) hRl)⟩) rfl hl.1 rfl (Nat.le_of_ble_eq_true rfl) dX5_bake_45 (fun H locs hP hS => ?_)
        refine lv_aload_n hx hb dX5_bake_48 rfl (lv_at hl 0 rfl) ?_
        refine r_get hx hb hts hown hC hP hinX5 0 (by decide) (ci := 4) rfl (by decide) rfl 3 (by decide) (hts (.fieldLink RX5 31 "LoafParts" "table" "LLoafParts$Table;") (by decide +kernel)) (v := .ref (aD g 11)) rfl dX5_bake_49 ?_
        refine r_getN hx hb hts hown hC hP hinX4 11 (by decide) (ci := 3) rfl (by decide) rfl 1 (by decide) 5 rfl (v := .int (ui q_7 11 1)) rfl dX5_bake_52 ?_
        obtain ⟨rfl, rfl⟩ := sp2 hf
        exact kret _ _ _ _ dX5_bake_55 hP hS trivial
      rw [if_pos c_6] at hf
      refine lv_bipush (v := (-2 : Int32)) hx hb dX5_bake_37 (by decide) ?_
      obtain ⟨rfl, rfl⟩ := sp2 hf
      exact kret _ _ _ _ dX5_bake_39 hP hS trivial
    rw [if_pos c_4] at hf
    refine lv_bipush (v := (-4 : Int32)) hx hb dX5_bake_23 (by decide) ?_
    obtain ⟨rfl, rfl⟩ := sp2 hf
    exact kret _ _ _ _ dX5_bake_25 hP hS trivial
  rw [if_neg c_2] at hf
  refine lv_iconst (v := (-1 : Int32)) hx hb dX5_bake_11 (by decide) ?_
  obtain ⟨rfl, rfl⟩ := sp2 hf
  exact kret _ _ _ _ dX5_bake_12 hP hS trivial
set_option maxHeartbeats 4000000 in
set_option maxRecDepth 100000 in
theorem c_X4_undoOne (l : Launch) (g : GG) (u : UU) (x1 : Int32) (x2 : Int32) (x3 : Int32) {u' : UU} (hf : f_X4_undoOne x1 x2 x3 u = some u') : Cv l g 0 55 yX4_undoOne wsX4_undoOne 2 44 [.ref (aD g 11), .int x1, .int x2, .int x3] u u' := by
  refine ct_v (cc := cX4_undoOne) (maxL := 4) (by decide) rfl (Nat.le_of_ble_eq_true rfl) ?_
  intro p e s m args below meth c R Q ls hx hb hml hown hts hC hP hl hRf hRl kret hS
  have hown : s.vm.findClass RX4 = some m.cls := hown
  have hl : lv_has ls 4 [(0, .ref (aD g 11)), (1, .int x1), (2, .int x2), (3, .int x3)] := hl
  have hinX4 : ∀ w ∈ u_ws RX4 TX4 13, w ∈ wsX4_undoOne := by decide +kernel
  unfold f_X4_undoOne at hf
  refine lv_iload_n hx hb dX4_undoOne_0 rfl (lv_at hl 1 rfl) ?_
  by_cases s_1 : x1 = (1 : Int32)
  · rw [if_pos s_1] at hf
    refine r_tin (tgt := 32) hx hb (1 : Int32) 31 s_1 dX4_undoOne_1 (by decide) ?_
    refine lv_aload_n hx hb dX4_undoOne_32 rfl (lv_at hl 0 rfl) ?_
    refine lv_dup hx hb dX4_undoOne_33 rfl ?_
    refine r_get hx hb hts hown hC hP hinX4 11 (by decide) (ci := 3) rfl (by decide) rfl 1 (by decide) (hts (.fieldLink RX4 43 "LoafParts$Table" "loaves" "I") (by decide +kernel)) (v := .int (ui u 11 1)) rfl dX4_undoOne_34 ?_
    refine lv_iconst (v := (1 : Int32)) hx hb dX4_undoOne_37 (by decide) ?_
    refine lv_iadd hx hb dX4_undoOne_38 ?_
    obtain ⟨u_2, eu_2, hf⟩ := lt_ex hf
    refine r_puti hx hb hts hown hC hP hS hinX4 tyX4 tyX4_ok nmX4 11 (by decide) (ci := 3) rfl (by decide) rfl 1 (by decide) (hts (.fieldLink RX4 43 "LoafParts$Table" "loaves" "I") (by decide +kernel)) rfl (ty := .int) (by decide +kernel) rfl rfl (by decide) (by decide) eu_2 dX4_undoOne_39 (fun H locs hP hS => ?_)
    refine lv_aload_n hx hb dX4_undoOne_42 rfl (lv_at hl 0 rfl) ?_
    refine lv_iload_n hx hb dX4_undoOne_43 rfl (lv_at hl 3 rfl) ?_
    refine lv_iload_n hx hb dX4_undoOne_44 rfl (lv_at hl 3 rfl) ?_
    refine lv_ineg hx hb dX4_undoOne_45 ?_
    obtain ⟨q_3, hq_3, hf⟩ := bind_ex hf
    refine r_Vv (As := [.int x3, .int (-x3)]) (rest := []) (k := 11) (ci := 3) ⟨hx, hb, hml, hown, hts⟩ hC hP hS (by decide) rfl (by decide) rfl (c_X4_changeLying l g u_2 x3 (-x3) hq_3) (cwV 2 hts gX4_undoOne_X4_changeLying rfl rfl rfl (by decide +kernel) ⟨(Nat.le_trans (Nat.le_of_ble_eq_true rfl) hRf), (Nat.le_trans (Nat.le_of_ble_eq_true rfl) hRl)⟩) rfl hl.1 rfl (Nat.le_of_ble_eq_true rfl) dX4_undoOne_46 (fun H locs hP hS => ?_)
    refine lv_goto (tgt := 83) hx hb dX4_undoOne_49 (by decide) ?_
    obtain rfl := sp1 hf
    exact kret _ _ _ _ dX4_undoOne_83 hP hS trivial
  rw [if_neg s_1] at hf
  by_cases s_4 : x1 = (2 : Int32)
  · rw [if_pos s_4] at hf
    refine r_tin (tgt := 52) hx hb (2 : Int32) 51 s_4 dX4_undoOne_1 (by decide) ?_
    refine lv_aload_n hx hb dX4_undoOne_52 rfl (lv_at hl 0 rfl) ?_
    refine lv_iload_n hx hb dX4_undoOne_53 rfl (lv_at hl 2 rfl) ?_
    refine lv_iload_n hx hb dX4_undoOne_54 rfl (lv_at hl 3 rfl) ?_
    obtain ⟨q_5, hq_5, hf⟩ := bind_ex hf
    refine r_Vv (As := [.int x2, .int x3]) (rest := []) (k := 11) (ci := 3) ⟨hx, hb, hml, hown, hts⟩ hC hP hS (by decide) rfl (by decide) rfl (c_X4_fromHand l g u x2 x3 hq_5) (cwV 2 hts gX4_undoOne_X4_fromHand rfl rfl rfl (by decide +kernel) ⟨(Nat.le_trans (Nat.le_of_ble_eq_true rfl) hRf), (Nat.le_trans (Nat.le_of_ble_eq_true rfl) hRl)⟩) rfl hl.1 rfl (Nat.le_of_ble_eq_true rfl) dX4_undoOne_55 (fun H locs hP hS => ?_)
    refine lv_goto (tgt := 83) hx hb dX4_undoOne_58 (by decide) ?_
    obtain rfl := sp1 hf
    exact kret _ _ _ _ dX4_undoOne_83 hP hS trivial
  rw [if_neg s_4] at hf
  by_cases s_6 : x1 = (3 : Int32)
  · rw [if_pos s_6] at hf
    refine r_tin (tgt := 61) hx hb (3 : Int32) 60 s_6 dX4_undoOne_1 (by decide) ?_
    refine lv_aload_n hx hb dX4_undoOne_61 rfl (lv_at hl 0 rfl) ?_
    refine lv_iload_n hx hb dX4_undoOne_62 rfl (lv_at hl 2 rfl) ?_
    refine lv_iload_n hx hb dX4_undoOne_63 rfl (lv_at hl 3 rfl) ?_
    obtain ⟨q_7, hq_7, hf⟩ := bind_ex hf
    refine r_Vv (As := [.int x2, .int x3]) (rest := []) (k := 11) (ci := 3) ⟨hx, hb, hml, hown, hts⟩ hC hP hS (by decide) rfl (by decide) rfl (c_X4_toHand l g u x2 x3 hq_7) (cwV 2 hts gX4_undoOne_X4_toHand rfl rfl rfl (by decide +kernel) ⟨(Nat.le_trans (Nat.le_of_ble_eq_true rfl) hRf), (Nat.le_trans (Nat.le_of_ble_eq_true rfl) hRl)⟩) rfl hl.1 rfl (Nat.le_of_ble_eq_true rfl) dX4_undoOne_64 (fun H locs hP hS => ?_)
    refine lv_goto (tgt := 83) hx hb dX4_undoOne_67 (by decide) ?_
    obtain rfl := sp1 hf
    exact kret _ _ _ _ dX4_undoOne_83 hP hS trivial
  rw [if_neg s_6] at hf
  by_cases s_8 : x1 = (4 : Int32)
  · rw [if_pos s_8] at hf
    refine r_tin (tgt := 70) hx hb (4 : Int32) 69 s_8 dX4_undoOne_1 (by decide) ?_
    refine lv_aload_n hx hb dX4_undoOne_70 rfl (lv_at hl 0 rfl) ?_
    refine lv_dup hx hb dX4_undoOne_71 rfl ?_
    refine r_get hx hb hts hown hC hP hinX4 11 (by decide) (ci := 3) rfl (by decide) rfl 1 (by decide) (hts (.fieldLink RX4 43 "LoafParts$Table" "loaves" "I") (by decide +kernel)) (v := .int (ui u 11 1)) rfl dX4_undoOne_72 ?_
    refine lv_iload_n hx hb dX4_undoOne_75 rfl (lv_at hl 3 rfl) ?_
    refine lv_isub hx hb dX4_undoOne_76 ?_
    obtain ⟨u_9, eu_9, hf⟩ := lt_ex hf
    refine r_puti hx hb hts hown hC hP hS hinX4 tyX4 tyX4_ok nmX4 11 (by decide) (ci := 3) rfl (by decide) rfl 1 (by decide) (hts (.fieldLink RX4 43 "LoafParts$Table" "loaves" "I") (by decide +kernel)) rfl (ty := .int) (by decide +kernel) rfl rfl (by decide) (by decide) eu_9 dX4_undoOne_77 (fun H locs hP hS => ?_)
    refine lv_goto (tgt := 83) hx hb dX4_undoOne_80 (by decide) ?_
    obtain rfl := sp1 hf
    exact kret _ _ _ _ dX4_undoOne_83 hP hS trivial
  rw [if_neg s_8] at hf
  refine lv_tableOut (tgt := 83) hx hb dX4_undoOne_1 (tsw_out 1 4 4 [(1 : Int32), (2 : Int32), (3 : Int32), (4 : Int32)] (by decide) (by decide) (by decide) (List.forall_mem_cons.mpr ⟨s_1, (List.forall_mem_cons.mpr ⟨s_4, (List.forall_mem_cons.mpr ⟨s_6, (List.forall_mem_cons.mpr ⟨s_8, (fun _ h => absurd h List.not_mem_nil)⟩)⟩)⟩)⟩)) (by decide) ?_
  obtain rfl := sp1 hf
  exact kret _ _ _ _ dX4_undoOne_83 hP hS trivial
set_option maxHeartbeats 4000000 in
set_option maxRecDepth 100000 in
theorem c_X4_undoFrom (l : Launch) (g : GG) (u : UU) (x1 : Int32) {u' : UU} (hf : f_X4_undoFrom x1 u = some u') : Cv l g 0 55 yX4_undoFrom wsX4_undoFrom 3 67 [.ref (aD g 11), .int x1] u u' := by
  refine ct_v (cc := cX4_undoFrom) (maxL := 2) (by decide) rfl (Nat.le_of_ble_eq_true rfl) ?_
  intro p e s m args below meth c R Q ls hx hb hml hown hts hC hP hl hRf hRl kret hS
  have hown : s.vm.findClass RX4 = some m.cls := hown
  have hl : lv_has ls 2 [(0, .ref (aD g 11)), (1, .int x1)] := hl
  have hinX4 : ∀ w ∈ u_ws RX4 TX4 13, w ∈ wsX4_undoFrom := by decide +kernel
  have w_0 : ∀ (n : Nat), ∀ (x1 : Int32) (u : UU) (H : Heap) (locs : List Loc) (ls : Array Slot), Ps g 0 55 u H → va_S (aA g) s.heap H locs → lv_has ls 2 [(0, .ref (aD g 11)), (1, .int x1)] → f_X4_undoFrom_0 n x1 u = some u' → W p l e R s m args below meth c H locs 0 0 Q (F0 m 0 ls []) := by
    intro n
    induction n with
    | zero =>
      intro x1 u H locs ls hP hS hl hf
      rw [f_X4_undoFrom_0] at hf
      cases hf
    | succ n ih =>
      intro x1 u H locs ls hP hS hl hf
      rw [f_X4_undoFrom_0] at hf
      refine lv_aload_n hx hb dX4_undoFrom_0 rfl (lv_at hl 0 rfl) ?_
      refine r_get hx hb hts hown hC hP hinX4 11 (by decide) (ci := 3) rfl (by decide) rfl 2 (by decide) (hts (.fieldLink RX4 46 "LoafParts$Table" "deeds" "I") (by decide +kernel)) (v := .int (ui u 11 2)) rfl dX4_undoFrom_1 ?_
      refine lv_iload_n hx hb dX4_undoFrom_4 rfl (lv_at hl 1 rfl) ?_
      refine lv_icmp_le (tgt := 59) hx hb dX4_undoFrom_5 (by decide) (fun c_8 => ?_) (fun c_8 => ?_)
      · rw [if_pos c_8] at hf
        obtain rfl := sp1 hf
        exact kret _ _ _ _ dX4_undoFrom_59 hP hS trivial
      rw [if_neg c_8] at hf
      refine lv_aload_n hx hb dX4_undoFrom_8 rfl (lv_at hl 0 rfl) ?_
      refine r_get hx hb hts hown hC hP hinX4 11 (by decide) (ci := 3) rfl (by decide) rfl 2 (by decide) (hts (.fieldLink RX4 46 "LoafParts$Table" "deeds" "I") (by decide +kernel)) (v := .int (ui u 11 2)) rfl dX4_undoFrom_9 ?_
      refine lv_if_le (tgt := 59) hx hb dX4_undoFrom_12 (by decide) (fun c_9 => ?_) (fun c_9 => ?_)
      · rw [if_pos c_9] at hf
        obtain rfl := sp1 hf
        exact kret _ _ _ _ dX4_undoFrom_59 hP hS trivial
      rw [if_neg c_9] at hf
      refine lv_aload_n hx hb dX4_undoFrom_15 rfl (lv_at hl 0 rfl) ?_
      refine lv_dup hx hb dX4_undoFrom_16 rfl ?_
      refine r_get hx hb hts hown hC hP hinX4 11 (by decide) (ci := 3) rfl (by decide) rfl 2 (by decide) (hts (.fieldLink RX4 46 "LoafParts$Table" "deeds" "I") (by decide +kernel)) (v := .int (ui u 11 2)) rfl dX4_undoFrom_17 ?_
      refine lv_iconst (v := (1 : Int32)) hx hb dX4_undoFrom_20 (by decide) ?_
      refine lv_isub hx hb dX4_undoFrom_21 ?_
      obtain ⟨u_10, eu_10, hf⟩ := lt_ex hf
      refine r_puti hx hb hts hown hC hP hS hinX4 tyX4 tyX4_ok nmX4 11 (by decide) (ci := 3) rfl (by decide) rfl 2 (by decide) (hts (.fieldLink RX4 46 "LoafParts$Table" "deeds" "I") (by decide +kernel)) rfl (ty := .int) (by decide +kernel) rfl rfl (by decide) (by decide) eu_10 dX4_undoFrom_22 (fun H locs hP hS => ?_)
      refine lv_aload_n hx hb dX4_undoFrom_25 rfl (lv_at hl 0 rfl) ?_
      refine lv_aload_n hx hb dX4_undoFrom_26 rfl (lv_at hl 0 rfl) ?_
      refine r_get hx hb hts hown hC hP hinX4 11 (by decide) (ci := 3) rfl (by decide) rfl 10 (by decide) (hts (.fieldLink RX4 30 "LoafParts$Table" "deedKind" "[I") (by decide +kernel)) (v := .ref (aD g 18)) rfl dX4_undoFrom_27 ?_
      refine lv_aload_n hx hb dX4_undoFrom_30 rfl (lv_at hl 0 rfl) ?_
      refine r_get hx hb hts hown hC hP hinX4 11 (by decide) (ci := 3) rfl (by decide) rfl 2 (by decide) (hts (.fieldLink RX4 46 "LoafParts$Table" "deeds" "I") (by decide +kernel)) (v := .int (ui u_10 11 2)) rfl dX4_undoFrom_31 ?_
      obtain ⟨hi_11, hf⟩ := ix_ex hf
      refine r_ald hx hb hC hP 18 (by decide) rfl hi_11 dX4_undoFrom_34 ?_
      refine lv_aload_n hx hb dX4_undoFrom_35 rfl (lv_at hl 0 rfl) ?_
      refine r_get hx hb hts hown hC hP hinX4 11 (by decide) (ci := 3) rfl (by decide) rfl 11 (by decide) (hts (.fieldLink RX4 33 "LoafParts$Table" "deedWho" "[I") (by decide +kernel)) (v := .ref (aD g 19)) rfl dX4_undoFrom_36 ?_
      refine lv_aload_n hx hb dX4_undoFrom_39 rfl (lv_at hl 0 rfl) ?_
      refine r_get hx hb hts hown hC hP hinX4 11 (by decide) (ci := 3) rfl (by decide) rfl 2 (by decide) (hts (.fieldLink RX4 46 "LoafParts$Table" "deeds" "I") (by decide +kernel)) (v := .int (ui u_10 11 2)) rfl dX4_undoFrom_40 ?_
      obtain ⟨hi_12, hf⟩ := ix_ex hf
      refine r_ald hx hb hC hP 19 (by decide) rfl hi_12 dX4_undoFrom_43 ?_
      refine lv_aload_n hx hb dX4_undoFrom_44 rfl (lv_at hl 0 rfl) ?_
      refine r_get hx hb hts hown hC hP hinX4 11 (by decide) (ci := 3) rfl (by decide) rfl 12 (by decide) (hts (.fieldLink RX4 36 "LoafParts$Table" "deedSize" "[I") (by decide +kernel)) (v := .ref (aD g 20)) rfl dX4_undoFrom_45 ?_
      refine lv_aload_n hx hb dX4_undoFrom_48 rfl (lv_at hl 0 rfl) ?_
      refine r_get hx hb hts hown hC hP hinX4 11 (by decide) (ci := 3) rfl (by decide) rfl 2 (by decide) (hts (.fieldLink RX4 46 "LoafParts$Table" "deeds" "I") (by decide +kernel)) (v := .int (ui u_10 11 2)) rfl dX4_undoFrom_49 ?_
      obtain ⟨hi_13, hf⟩ := ix_ex hf
      refine r_ald hx hb hC hP 20 (by decide) rfl hi_13 dX4_undoFrom_52 ?_
      obtain ⟨q_14, hq_14, hf⟩ := bind_ex hf
      refine r_Vv (As := [.int (ui u_10 18 ((ui u_10 11 2) : Int32).toNatClampNeg), .int (ui u_10 19 ((ui u_10 11 2) : Int32).toNatClampNeg), .int (ui u_10 20 ((ui u_10 11 2) : Int32).toNatClampNeg)]) (rest := []) (k := 11) (ci := 3) ⟨hx, hb, hml, hown, hts⟩ hC hP hS (by decide) rfl (by decide) rfl (c_X4_undoOne l g u_10 (ui u_10 18 ((ui u_10 11 2) : Int32).toNatClampNeg) (ui u_10 19 ((ui u_10 11 2) : Int32).toNatClampNeg) (ui u_10 20 ((ui u_10 11 2) : Int32).toNatClampNeg) hq_14) (cwV 3 hts gX4_undoFrom_X4_undoOne rfl rfl rfl (by decide +kernel) ⟨(Nat.le_trans (Nat.le_of_ble_eq_true rfl) hRf), (Nat.le_trans (Nat.le_of_ble_eq_true rfl) hRl)⟩) rfl hl.1 rfl (Nat.le_of_ble_eq_true rfl) dX4_undoFrom_53 (fun H locs hP hS => ?_)
      refine lv_goto (tgt := 0) hx hb dX4_undoFrom_56 (by decide) ?_
      exact ih x1 q_14 _ _ _ hP hS (lv_sub hl [0, 1] rfl) hf
  unfold f_X4_undoFrom at hf
  refine lv_aload_n hx hb dX4_undoFrom_0 rfl (lv_at hl 0 rfl) ?_
  refine r_get hx hb hts hown hC hP hinX4 11 (by decide) (ci := 3) rfl (by decide) rfl 2 (by decide) (hts (.fieldLink RX4 46 "LoafParts$Table" "deeds" "I") (by decide +kernel)) (v := .int (ui u 11 2)) rfl dX4_undoFrom_1 ?_
  refine lv_iload_n hx hb dX4_undoFrom_4 rfl (lv_at hl 1 rfl) ?_
  refine lv_icmp_le (tgt := 59) hx hb dX4_undoFrom_5 (by decide) (fun c_1 => ?_) (fun c_1 => ?_)
  · rw [if_pos c_1] at hf
    obtain rfl := sp1 hf
    exact kret _ _ _ _ dX4_undoFrom_59 hP hS trivial
  rw [if_neg c_1] at hf
  refine lv_aload_n hx hb dX4_undoFrom_8 rfl (lv_at hl 0 rfl) ?_
  refine r_get hx hb hts hown hC hP hinX4 11 (by decide) (ci := 3) rfl (by decide) rfl 2 (by decide) (hts (.fieldLink RX4 46 "LoafParts$Table" "deeds" "I") (by decide +kernel)) (v := .int (ui u 11 2)) rfl dX4_undoFrom_9 ?_
  refine lv_if_le (tgt := 59) hx hb dX4_undoFrom_12 (by decide) (fun c_2 => ?_) (fun c_2 => ?_)
  · rw [if_pos c_2] at hf
    obtain rfl := sp1 hf
    exact kret _ _ _ _ dX4_undoFrom_59 hP hS trivial
  rw [if_neg c_2] at hf
  refine lv_aload_n hx hb dX4_undoFrom_15 rfl (lv_at hl 0 rfl) ?_
  refine lv_dup hx hb dX4_undoFrom_16 rfl ?_
  refine r_get hx hb hts hown hC hP hinX4 11 (by decide) (ci := 3) rfl (by decide) rfl 2 (by decide) (hts (.fieldLink RX4 46 "LoafParts$Table" "deeds" "I") (by decide +kernel)) (v := .int (ui u 11 2)) rfl dX4_undoFrom_17 ?_
  refine lv_iconst (v := (1 : Int32)) hx hb dX4_undoFrom_20 (by decide) ?_
  refine lv_isub hx hb dX4_undoFrom_21 ?_
  obtain ⟨u_3, eu_3, hf⟩ := lt_ex hf
  refine r_puti hx hb hts hown hC hP hS hinX4 tyX4 tyX4_ok nmX4 11 (by decide) (ci := 3) rfl (by decide) rfl 2 (by decide) (hts (.fieldLink RX4 46 "LoafParts$Table" "deeds" "I") (by decide +kernel)) rfl (ty := .int) (by decide +kernel) rfl rfl (by decide) (by decide) eu_3 dX4_undoFrom_22 (fun H locs hP hS => ?_)
  refine lv_aload_n hx hb dX4_undoFrom_25 rfl (lv_at hl 0 rfl) ?_
  refine lv_aload_n hx hb dX4_undoFrom_26 rfl (lv_at hl 0 rfl) ?_
  refine r_get hx hb hts hown hC hP hinX4 11 (by decide) (ci := 3) rfl (by decide) rfl 10 (by decide) (hts (.fieldLink RX4 30 "LoafParts$Table" "deedKind" "[I") (by decide +kernel)) (v := .ref (aD g 18)) rfl dX4_undoFrom_27 ?_
  refine lv_aload_n hx hb dX4_undoFrom_30 rfl (lv_at hl 0 rfl) ?_
  refine r_get hx hb hts hown hC hP hinX4 11 (by decide) (ci := 3) rfl (by decide) rfl 2 (by decide) (hts (.fieldLink RX4 46 "LoafParts$Table" "deeds" "I") (by decide +kernel)) (v := .int (ui u_3 11 2)) rfl dX4_undoFrom_31 ?_
  obtain ⟨hi_4, hf⟩ := ix_ex hf
  refine r_ald hx hb hC hP 18 (by decide) rfl hi_4 dX4_undoFrom_34 ?_
  refine lv_aload_n hx hb dX4_undoFrom_35 rfl (lv_at hl 0 rfl) ?_
  refine r_get hx hb hts hown hC hP hinX4 11 (by decide) (ci := 3) rfl (by decide) rfl 11 (by decide) (hts (.fieldLink RX4 33 "LoafParts$Table" "deedWho" "[I") (by decide +kernel)) (v := .ref (aD g 19)) rfl dX4_undoFrom_36 ?_
  refine lv_aload_n hx hb dX4_undoFrom_39 rfl (lv_at hl 0 rfl) ?_
  refine r_get hx hb hts hown hC hP hinX4 11 (by decide) (ci := 3) rfl (by decide) rfl 2 (by decide) (hts (.fieldLink RX4 46 "LoafParts$Table" "deeds" "I") (by decide +kernel)) (v := .int (ui u_3 11 2)) rfl dX4_undoFrom_40 ?_
  obtain ⟨hi_5, hf⟩ := ix_ex hf
  refine r_ald hx hb hC hP 19 (by decide) rfl hi_5 dX4_undoFrom_43 ?_
  refine lv_aload_n hx hb dX4_undoFrom_44 rfl (lv_at hl 0 rfl) ?_
  refine r_get hx hb hts hown hC hP hinX4 11 (by decide) (ci := 3) rfl (by decide) rfl 12 (by decide) (hts (.fieldLink RX4 36 "LoafParts$Table" "deedSize" "[I") (by decide +kernel)) (v := .ref (aD g 20)) rfl dX4_undoFrom_45 ?_
  refine lv_aload_n hx hb dX4_undoFrom_48 rfl (lv_at hl 0 rfl) ?_
  refine r_get hx hb hts hown hC hP hinX4 11 (by decide) (ci := 3) rfl (by decide) rfl 2 (by decide) (hts (.fieldLink RX4 46 "LoafParts$Table" "deeds" "I") (by decide +kernel)) (v := .int (ui u_3 11 2)) rfl dX4_undoFrom_49 ?_
  obtain ⟨hi_6, hf⟩ := ix_ex hf
  refine r_ald hx hb hC hP 20 (by decide) rfl hi_6 dX4_undoFrom_52 ?_
  obtain ⟨q_7, hq_7, hf⟩ := bind_ex hf
  refine r_Vv (As := [.int (ui u_3 18 ((ui u_3 11 2) : Int32).toNatClampNeg), .int (ui u_3 19 ((ui u_3 11 2) : Int32).toNatClampNeg), .int (ui u_3 20 ((ui u_3 11 2) : Int32).toNatClampNeg)]) (rest := []) (k := 11) (ci := 3) ⟨hx, hb, hml, hown, hts⟩ hC hP hS (by decide) rfl (by decide) rfl (c_X4_undoOne l g u_3 (ui u_3 18 ((ui u_3 11 2) : Int32).toNatClampNeg) (ui u_3 19 ((ui u_3 11 2) : Int32).toNatClampNeg) (ui u_3 20 ((ui u_3 11 2) : Int32).toNatClampNeg) hq_7) (cwV 3 hts gX4_undoFrom_X4_undoOne rfl rfl rfl (by decide +kernel) ⟨(Nat.le_trans (Nat.le_of_ble_eq_true rfl) hRf), (Nat.le_trans (Nat.le_of_ble_eq_true rfl) hRl)⟩) rfl hl.1 rfl (Nat.le_of_ble_eq_true rfl) dX4_undoFrom_53 (fun H locs hP hS => ?_)
  refine lv_goto (tgt := 0) hx hb dX4_undoFrom_56 (by decide) ?_
  exact w_0 fu x1 q_7 _ _ _ hP hS (lv_sub hl [0, 1] rfl) hf
set_option maxHeartbeats 4000000 in
set_option maxRecDepth 100000 in
theorem c_X5_undo (l : Launch) (g : GG) (u : UU) (x1 : Int32) {r : Int32} {u' : UU} (hf : f_X5_undo x1 u = some (r, u')) : Ci l g 0 55 yX5_undo wsX5_undo 4 88 [.ref (aD g 0), .int x1] u r u' := by
  refine ct_i (cc := cX5_undo) (maxL := 3) (by decide) rfl (Nat.le_of_ble_eq_true rfl) ?_
  intro p e s m args below meth c R Q ls hx hb hml hown hts hC hP hl hRf hRl kret hS
  have hown : s.vm.findClass RX5 = some m.cls := hown
  have hl : lv_has ls 3 [(0, .ref (aD g 0)), (1, .int x1)] := hl
  have hinX4 : ∀ w ∈ u_ws RX4 TX4 13, w ∈ wsX5_undo := by decide +kernel
  have hinX5 : ∀ w ∈ u_ws RX5 TX5 12, w ∈ wsX5_undo := by decide +kernel
  unfold f_X5_undo at hf
  refine lv_iload_n hx hb dX5_undo_0 rfl (lv_at hl 1 rfl) ?_
  refine lv_if_lt (tgt := 15) hx hb dX5_undo_1 (by decide) (fun c_1 => ?_) (fun c_1 => ?_)
  · rw [if_pos c_1] at hf
    refine lv_iconst (v := (-1 : Int32)) hx hb dX5_undo_15 (by decide) ?_
    obtain ⟨rfl, rfl⟩ := sp2 hf
    exact kret _ _ _ _ dX5_undo_16 hP hS trivial
  rw [if_neg c_1] at hf
  refine lv_iload_n hx hb dX5_undo_4 rfl (lv_at hl 1 rfl) ?_
  refine lv_aload_n hx hb dX5_undo_5 rfl (lv_at hl 0 rfl) ?_
  refine r_get hx hb hts hown hC hP hinX5 0 (by decide) (ci := 4) rfl (by decide) rfl 3 (by decide) (hts (.fieldLink RX5 31 "LoafParts" "table" "LLoafParts$Table;") (by decide +kernel)) (v := .ref (aD g 11)) rfl dX5_undo_6 ?_
  refine r_getN hx hb hts hown hC hP hinX4 11 (by decide) (ci := 3) rfl (by decide) rfl 2 (by decide) 6 rfl (v := .int (ui u 11 2)) rfl dX5_undo_9 ?_
  refine lv_icmp_le (tgt := 17) hx hb dX5_undo_12 (by decide) (fun c_2 => ?_) (fun c_2 => ?_)
  · rw [if_pos c_2] at hf
    refine lv_aload_n hx hb dX5_undo_17 rfl (lv_at hl 0 rfl) ?_
    refine r_get hx hb hts hown hC hP hinX5 0 (by decide) (ci := 4) rfl (by decide) rfl 3 (by decide) (hts (.fieldLink RX5 31 "LoafParts" "table" "LLoafParts$Table;") (by decide +kernel)) (v := .ref (aD g 11)) rfl dX5_undo_18 ?_
    refine r_getN hx hb hts hown hC hP hinX4 11 (by decide) (ci := 3) rfl (by decide) rfl 2 (by decide) 6 rfl (v := .int (ui u 11 2)) rfl dX5_undo_21 ?_
    refine lv_iload_n hx hb dX5_undo_24 rfl (lv_at hl 1 rfl) ?_
    refine lv_isub hx hb dX5_undo_25 ?_
    obtain ⟨x2_3, ex2_3, hf⟩ := lt_ex hf
    refine r_nm ex2_3 ?_
    refine lv_istore_n (lv' := [(2, .int x2_3), (0, .ref (aD g 0)), (1, .int x1)]) hx hb dX5_undo_26 rfl hl (by decide) rfl (fun ls hl => ?_)
    refine lv_aload_n hx hb dX5_undo_27 rfl (lv_at hl 1 rfl) ?_
    refine r_get hx hb hts hown hC hP hinX5 0 (by decide) (ci := 4) rfl (by decide) rfl 3 (by decide) (hts (.fieldLink RX5 31 "LoafParts" "table" "LLoafParts$Table;") (by decide +kernel)) (v := .ref (aD g 11)) rfl dX5_undo_28 ?_
    refine lv_iload_n hx hb dX5_undo_31 rfl (lv_at hl 2 rfl) ?_
    obtain ⟨q_4, hq_4, hf⟩ := bind_ex hf
    refine r_Vv (As := [.int x1]) (rest := []) (k := 11) (ci := 3) ⟨hx, hb, hml, hown, hts⟩ hC hP hS (by decide) rfl (by decide) rfl (c_X4_undoFrom l g u x1 hq_4) (cwV 1 hts gX5_undo_X4_undoFrom rfl rfl rfl (by decide +kernel) ⟨(Nat.le_trans (Nat.le_of_ble_eq_true rfl) hRf), (Nat.le_trans (Nat.le_of_ble_eq_true rfl) hRl)⟩) rfl hl.1 rfl (Nat.le_of_ble_eq_true rfl) dX5_undo_32 (fun H locs hP hS => ?_)
    refine lv_iload_n hx hb dX5_undo_35 rfl (lv_at hl 0 rfl) ?_
    obtain ⟨rfl, rfl⟩ := sp2 hf
    exact kret _ _ _ _ dX5_undo_36 hP hS trivial
  rw [if_neg c_2] at hf
  refine lv_iconst (v := (-1 : Int32)) hx hb dX5_undo_15 (by decide) ?_
  obtain ⟨rfl, rfl⟩ := sp2 hf
  exact kret _ _ _ _ dX5_undo_16 hP hS trivial
set_option maxHeartbeats 4000000 in
set_option maxRecDepth 100000 in
theorem c_X4_becomeLike (l : Launch) (g : GG) (b : Nat) (htb : tab b) (b2 : Nat) (htb2 : tab b2) (u : UU) {u' : UU} (hf : f_X4_becomeLike b b2 u = some u') : Cv l g 0 55 yX4_becomeLike wsX4_becomeLike 1 60 [.ref (aD g b), .ref (aD g b2)] u u' := by
  refine ct_v (cc := cX4_becomeLike) (maxL := 2) (by decide) rfl (Nat.le_of_ble_eq_true rfl) ?_
  intro p e s m args below meth c R Q ls hx hb hml hown hts hC hP hl hRf hRl kret hS
  have hown : s.vm.findClass RX4 = some m.cls := hown
  have hl : lv_has ls 2 [(0, .ref (aD g b)), (1, .ref (aD g b2))] := hl
  have hinX4 : ∀ w ∈ u_ws RX4 TX4 13, w ∈ wsX4_becomeLike := by decide +kernel
  unfold f_X4_becomeLike at hf
  refine lv_aload_n hx hb dX4_becomeLike_0 rfl (lv_at hl 0 rfl) ?_
  refine lv_aload_n hx hb dX4_becomeLike_1 rfl (lv_at hl 1 rfl) ?_
  refine r_get hx hb hts hown hC hP hinX4 b2 (tab_k0 htb2) (ci := 3) (tab_0 htb2) (by decide) rfl 0 (by decide) (hts (.fieldLink RX4 39 "LoafParts$Table" "workers" "I") (by decide +kernel)) (v := .int (ui u b2 0)) rfl dX4_becomeLike_2 ?_
  obtain ⟨u_1, eu_1, hf⟩ := lt_ex hf
  refine r_puti hx hb hts hown hC hP hS hinX4 tyX4 tyX4_ok nmX4 b (tab_k0 htb) (ci := 3) (tab_0 htb) (by decide) rfl 0 (by decide) (hts (.fieldLink RX4 39 "LoafParts$Table" "workers" "I") (by decide +kernel)) rfl (ty := .int) (by decide +kernel) rfl rfl (by decide) (by decide) eu_1 dX4_becomeLike_5 (fun H locs hP hS => ?_)
  refine lv_aload_n hx hb dX4_becomeLike_8 rfl (lv_at hl 0 rfl) ?_
  refine lv_aload_n hx hb dX4_becomeLike_9 rfl (lv_at hl 1 rfl) ?_
  refine r_get hx hb hts hown hC hP hinX4 b2 (tab_k0 htb2) (ci := 3) (tab_0 htb2) (by decide) rfl 1 (by decide) (hts (.fieldLink RX4 43 "LoafParts$Table" "loaves" "I") (by decide +kernel)) (v := .int (ui u_1 b2 1)) rfl dX4_becomeLike_10 ?_
  obtain ⟨u_2, eu_2, hf⟩ := lt_ex hf
  refine r_puti hx hb hts hown hC hP hS hinX4 tyX4 tyX4_ok nmX4 b (tab_k0 htb) (ci := 3) (tab_0 htb) (by decide) rfl 1 (by decide) (hts (.fieldLink RX4 43 "LoafParts$Table" "loaves" "I") (by decide +kernel)) rfl (ty := .int) (by decide +kernel) rfl rfl (by decide) (by decide) eu_2 dX4_becomeLike_13 (fun H locs hP hS => ?_)
  refine lv_aload_n hx hb dX4_becomeLike_16 rfl (lv_at hl 0 rfl) ?_
  refine lv_aload_n hx hb dX4_becomeLike_17 rfl (lv_at hl 1 rfl) ?_
  refine r_get hx hb hts hown hC hP hinX4 b2 (tab_k0 htb2) (ci := 3) (tab_0 htb2) (by decide) rfl 2 (by decide) (hts (.fieldLink RX4 46 "LoafParts$Table" "deeds" "I") (by decide +kernel)) (v := .int (ui u_2 b2 2)) rfl dX4_becomeLike_18 ?_
  obtain ⟨u_3, eu_3, hf⟩ := lt_ex hf
  refine r_puti hx hb hts hown hC hP hS hinX4 tyX4 tyX4_ok nmX4 b (tab_k0 htb) (ci := 3) (tab_0 htb) (by decide) rfl 2 (by decide) (hts (.fieldLink RX4 46 "LoafParts$Table" "deeds" "I") (by decide +kernel)) rfl (ty := .int) (by decide +kernel) rfl rfl (by decide) (by decide) eu_3 dX4_becomeLike_21 (fun H locs hP hS => ?_)
  refine lv_aload_n hx hb dX4_becomeLike_24 rfl (lv_at hl 0 rfl) ?_
  refine lv_aload_n hx hb dX4_becomeLike_25 rfl (lv_at hl 1 rfl) ?_
  refine r_get hx hb hts hown hC hP hinX4 b2 (tab_k0 htb2) (ci := 3) (tab_0 htb2) (by decide) rfl 4 (by decide) (hts (.fieldLink RX4 49 "LoafParts$Table" "lyingSet" "I") (by decide +kernel)) (v := .int (ui u_3 b2 4)) rfl dX4_becomeLike_26 ?_
  obtain ⟨u_4, eu_4, hf⟩ := lt_ex hf
  refine r_puti hx hb hts hown hC hP hS hinX4 tyX4 tyX4_ok nmX4 b (tab_k0 htb) (ci := 3) (tab_0 htb) (by decide) rfl 4 (by decide) (hts (.fieldLink RX4 49 "LoafParts$Table" "lyingSet" "I") (by decide +kernel)) rfl (ty := .int) (by decide +kernel) rfl rfl (by decide) (by decide) eu_4 dX4_becomeLike_29 (fun H locs hP hS => ?_)
  refine lv_aload_n hx hb dX4_becomeLike_32 rfl (lv_at hl 1 rfl) ?_
  refine r_get hx hb hts hown hC hP hinX4 b2 (tab_k0 htb2) (ci := 3) (tab_0 htb2) (by decide) rfl 3 (by decide) (hts (.fieldLink RX4 9 "LoafParts$Table" "lying" "[I") (by decide +kernel)) (v := .ref (aD g (b2 + 1))) rfl dX4_becomeLike_33 ?_
  refine lv_iconst (v := (0 : Int32)) hx hb dX4_becomeLike_36 (by decide) ?_
  refine lv_aload_n hx hb dX4_becomeLike_37 rfl (lv_at hl 0 rfl) ?_
  refine r_get hx hb hts hown hC hP hinX4 b (tab_k0 htb) (ci := 3) (tab_0 htb) (by decide) rfl 3 (by decide) (hts (.fieldLink RX4 9 "LoafParts$Table" "lying" "[I") (by decide +kernel)) (v := .ref (aD g (b + 1))) rfl dX4_becomeLike_38 ?_
  refine lv_iconst (v := (0 : Int32)) hx hb dX4_becomeLike_41 (by decide) ?_
  refine lv_bipush (v := (17 : Int32)) hx hb dX4_becomeLike_42 (by decide) ?_
  obtain ⟨hk_5, hf⟩ := cpk_ex hf
  obtain ⟨u_6, eu_6, hf⟩ := lt_ex hf
  refine r_copy hx hb (hml.trans hl.1.symm) hown (hts (.methodLink RX4 66 arraycopyName) (by decide +kernel)) (hts (.native arraycopyName) (by decide +kernel)) (hts (.static arraycopyName) (by decide +kernel)) (hts (.initialized "java/lang/System") (by decide +kernel)) hC hP hS (b2 + 1) (tab_k1 htb2) (tab_1 htb2) (b + 1) (tab_k1 htb) (tab_1 htb) hk_5 eu_6 (Nat.le_trans (Nat.le_of_ble_eq_true rfl) hRf) (Nat.le_trans (Nat.le_of_ble_eq_true rfl) hRl) dX4_becomeLike_44 (fun H locs hP hS => ?_)
  refine lv_aload_n hx hb dX4_becomeLike_47 rfl (lv_at hl 1 rfl) ?_
  refine r_get hx hb hts hown hC hP hinX4 b2 (tab_k0 htb2) (ci := 3) (tab_0 htb2) (by decide) rfl 5 (by decide) (hts (.fieldLink RX4 15 "LoafParts$Table" "kind" "[I") (by decide +kernel)) (v := .ref (aD g (b2 + 2))) rfl dX4_becomeLike_48 ?_
  refine lv_iconst (v := (0 : Int32)) hx hb dX4_becomeLike_51 (by decide) ?_
  refine lv_aload_n hx hb dX4_becomeLike_52 rfl (lv_at hl 0 rfl) ?_
  refine r_get hx hb hts hown hC hP hinX4 b (tab_k0 htb) (ci := 3) (tab_0 htb) (by decide) rfl 5 (by decide) (hts (.fieldLink RX4 15 "LoafParts$Table" "kind" "[I") (by decide +kernel)) (v := .ref (aD g (b + 2))) rfl dX4_becomeLike_53 ?_
  refine lv_iconst (v := (0 : Int32)) hx hb dX4_becomeLike_56 (by decide) ?_
  refine lv_bipush (v := (7 : Int32)) hx hb dX4_becomeLike_57 (by decide) ?_
  obtain ⟨hk_7, hf⟩ := cpk_ex hf
  obtain ⟨u_8, eu_8, hf⟩ := lt_ex hf
  refine r_copy hx hb (hml.trans hl.1.symm) hown (hts (.methodLink RX4 66 arraycopyName) (by decide +kernel)) (hts (.native arraycopyName) (by decide +kernel)) (hts (.static arraycopyName) (by decide +kernel)) (hts (.initialized "java/lang/System") (by decide +kernel)) hC hP hS (b2 + 2) (tab_k2 htb2) (tab_2 htb2) (b + 2) (tab_k2 htb) (tab_2 htb) hk_7 eu_8 (Nat.le_trans (Nat.le_of_ble_eq_true rfl) hRf) (Nat.le_trans (Nat.le_of_ble_eq_true rfl) hRl) dX4_becomeLike_59 (fun H locs hP hS => ?_)
  refine lv_aload_n hx hb dX4_becomeLike_62 rfl (lv_at hl 1 rfl) ?_
  refine r_get hx hb hts hown hC hP hinX4 b2 (tab_k0 htb2) (ci := 3) (tab_0 htb2) (by decide) rfl 6 (by decide) (hts (.fieldLink RX4 18 "LoafParts$Table" "over" "[I") (by decide +kernel)) (v := .ref (aD g (b2 + 3))) rfl dX4_becomeLike_63 ?_
  refine lv_iconst (v := (0 : Int32)) hx hb dX4_becomeLike_66 (by decide) ?_
  refine lv_aload_n hx hb dX4_becomeLike_67 rfl (lv_at hl 0 rfl) ?_
  refine r_get hx hb hts hown hC hP hinX4 b (tab_k0 htb) (ci := 3) (tab_0 htb) (by decide) rfl 6 (by decide) (hts (.fieldLink RX4 18 "LoafParts$Table" "over" "[I") (by decide +kernel)) (v := .ref (aD g (b + 3))) rfl dX4_becomeLike_68 ?_
  refine lv_iconst (v := (0 : Int32)) hx hb dX4_becomeLike_71 (by decide) ?_
  refine lv_bipush (v := (7 : Int32)) hx hb dX4_becomeLike_72 (by decide) ?_
  obtain ⟨hk_9, hf⟩ := cpk_ex hf
  obtain ⟨u_10, eu_10, hf⟩ := lt_ex hf
  refine r_copy hx hb (hml.trans hl.1.symm) hown (hts (.methodLink RX4 66 arraycopyName) (by decide +kernel)) (hts (.native arraycopyName) (by decide +kernel)) (hts (.static arraycopyName) (by decide +kernel)) (hts (.initialized "java/lang/System") (by decide +kernel)) hC hP hS (b2 + 3) (tab_k3 htb2) (tab_3 htb2) (b + 3) (tab_k3 htb) (tab_3 htb) hk_9 eu_10 (Nat.le_trans (Nat.le_of_ble_eq_true rfl) hRf) (Nat.le_trans (Nat.le_of_ble_eq_true rfl) hRl) dX4_becomeLike_74 (fun H locs hP hS => ?_)
  refine lv_aload_n hx hb dX4_becomeLike_77 rfl (lv_at hl 1 rfl) ?_
  refine r_get hx hb hts hown hC hP hinX4 b2 (tab_k0 htb2) (ci := 3) (tab_0 htb2) (by decide) rfl 7 (by decide) (hts (.fieldLink RX4 21 "LoafParts$Table" "under" "[I") (by decide +kernel)) (v := .ref (aD g (b2 + 4))) rfl dX4_becomeLike_78 ?_
  refine lv_iconst (v := (0 : Int32)) hx hb dX4_becomeLike_81 (by decide) ?_
  refine lv_aload_n hx hb dX4_becomeLike_82 rfl (lv_at hl 0 rfl) ?_
  refine r_get hx hb hts hown hC hP hinX4 b (tab_k0 htb) (ci := 3) (tab_0 htb) (by decide) rfl 7 (by decide) (hts (.fieldLink RX4 21 "LoafParts$Table" "under" "[I") (by decide +kernel)) (v := .ref (aD g (b + 4))) rfl dX4_becomeLike_83 ?_
  refine lv_iconst (v := (0 : Int32)) hx hb dX4_becomeLike_86 (by decide) ?_
  refine lv_bipush (v := (7 : Int32)) hx hb dX4_becomeLike_87 (by decide) ?_
  obtain ⟨hk_11, hf⟩ := cpk_ex hf
  obtain ⟨u_12, eu_12, hf⟩ := lt_ex hf
  refine r_copy hx hb (hml.trans hl.1.symm) hown (hts (.methodLink RX4 66 arraycopyName) (by decide +kernel)) (hts (.native arraycopyName) (by decide +kernel)) (hts (.static arraycopyName) (by decide +kernel)) (hts (.initialized "java/lang/System") (by decide +kernel)) hC hP hS (b2 + 4) (tab_k4 htb2) (tab_4 htb2) (b + 4) (tab_k4 htb) (tab_4 htb) hk_11 eu_12 (Nat.le_trans (Nat.le_of_ble_eq_true rfl) hRf) (Nat.le_trans (Nat.le_of_ble_eq_true rfl) hRl) dX4_becomeLike_89 (fun H locs hP hS => ?_)
  refine lv_aload_n hx hb dX4_becomeLike_92 rfl (lv_at hl 1 rfl) ?_
  refine r_get hx hb hts hown hC hP hinX4 b2 (tab_k0 htb2) (ci := 3) (tab_0 htb2) (by decide) rfl 8 (by decide) (hts (.fieldLink RX4 24 "LoafParts$Table" "has" "[I") (by decide +kernel)) (v := .ref (aD g (b2 + 5))) rfl dX4_becomeLike_93 ?_
  refine lv_iconst (v := (0 : Int32)) hx hb dX4_becomeLike_96 (by decide) ?_
  refine lv_aload_n hx hb dX4_becomeLike_97 rfl (lv_at hl 0 rfl) ?_
  refine r_get hx hb hts hown hC hP hinX4 b (tab_k0 htb) (ci := 3) (tab_0 htb) (by decide) rfl 8 (by decide) (hts (.fieldLink RX4 24 "LoafParts$Table" "has" "[I") (by decide +kernel)) (v := .ref (aD g (b + 5))) rfl dX4_becomeLike_98 ?_
  refine lv_iconst (v := (0 : Int32)) hx hb dX4_becomeLike_101 (by decide) ?_
  refine lv_bipush (v := (7 : Int32)) hx hb dX4_becomeLike_102 (by decide) ?_
  obtain ⟨hk_13, hf⟩ := cpk_ex hf
  obtain ⟨u_14, eu_14, hf⟩ := lt_ex hf
  refine r_copy hx hb (hml.trans hl.1.symm) hown (hts (.methodLink RX4 66 arraycopyName) (by decide +kernel)) (hts (.native arraycopyName) (by decide +kernel)) (hts (.static arraycopyName) (by decide +kernel)) (hts (.initialized "java/lang/System") (by decide +kernel)) hC hP hS (b2 + 5) (tab_k5 htb2) (tab_5 htb2) (b + 5) (tab_k5 htb) (tab_5 htb) hk_13 eu_14 (Nat.le_trans (Nat.le_of_ble_eq_true rfl) hRf) (Nat.le_trans (Nat.le_of_ble_eq_true rfl) hRl) dX4_becomeLike_104 (fun H locs hP hS => ?_)
  refine lv_aload_n hx hb dX4_becomeLike_107 rfl (lv_at hl 1 rfl) ?_
  refine r_get hx hb hts hown hC hP hinX4 b2 (tab_k0 htb2) (ci := 3) (tab_0 htb2) (by decide) rfl 9 (by decide) (hts (.fieldLink RX4 27 "LoafParts$Table" "lack" "[I") (by decide +kernel)) (v := .ref (aD g (b2 + 6))) rfl dX4_becomeLike_108 ?_
  refine lv_iconst (v := (0 : Int32)) hx hb dX4_becomeLike_111 (by decide) ?_
  refine lv_aload_n hx hb dX4_becomeLike_112 rfl (lv_at hl 0 rfl) ?_
  refine r_get hx hb hts hown hC hP hinX4 b (tab_k0 htb) (ci := 3) (tab_0 htb) (by decide) rfl 9 (by decide) (hts (.fieldLink RX4 27 "LoafParts$Table" "lack" "[I") (by decide +kernel)) (v := .ref (aD g (b + 6))) rfl dX4_becomeLike_113 ?_
  refine lv_iconst (v := (0 : Int32)) hx hb dX4_becomeLike_116 (by decide) ?_
  refine lv_bipush (v := (7 : Int32)) hx hb dX4_becomeLike_117 (by decide) ?_
  obtain ⟨hk_15, hf⟩ := cpk_ex hf
  obtain ⟨u_16, eu_16, hf⟩ := lt_ex hf
  refine r_copy hx hb (hml.trans hl.1.symm) hown (hts (.methodLink RX4 66 arraycopyName) (by decide +kernel)) (hts (.native arraycopyName) (by decide +kernel)) (hts (.static arraycopyName) (by decide +kernel)) (hts (.initialized "java/lang/System") (by decide +kernel)) hC hP hS (b2 + 6) (tab_k6 htb2) (tab_6 htb2) (b + 6) (tab_k6 htb) (tab_6 htb) hk_15 eu_16 (Nat.le_trans (Nat.le_of_ble_eq_true rfl) hRf) (Nat.le_trans (Nat.le_of_ble_eq_true rfl) hRl) dX4_becomeLike_119 (fun H locs hP hS => ?_)
  refine lv_aload_n hx hb dX4_becomeLike_122 rfl (lv_at hl 1 rfl) ?_
  refine r_get hx hb hts hown hC hP hinX4 b2 (tab_k0 htb2) (ci := 3) (tab_0 htb2) (by decide) rfl 10 (by decide) (hts (.fieldLink RX4 30 "LoafParts$Table" "deedKind" "[I") (by decide +kernel)) (v := .ref (aD g (b2 + 7))) rfl dX4_becomeLike_123 ?_
  refine lv_iconst (v := (0 : Int32)) hx hb dX4_becomeLike_126 (by decide) ?_
  refine lv_aload_n hx hb dX4_becomeLike_127 rfl (lv_at hl 0 rfl) ?_
  refine r_get hx hb hts hown hC hP hinX4 b (tab_k0 htb) (ci := 3) (tab_0 htb) (by decide) rfl 10 (by decide) (hts (.fieldLink RX4 30 "LoafParts$Table" "deedKind" "[I") (by decide +kernel)) (v := .ref (aD g (b + 7))) rfl dX4_becomeLike_128 ?_
  refine lv_iconst (v := (0 : Int32)) hx hb dX4_becomeLike_131 (by decide) ?_
  refine lv_bipush (v := (40 : Int32)) hx hb dX4_becomeLike_132 (by decide) ?_
  obtain ⟨hk_17, hf⟩ := cpk_ex hf
  obtain ⟨u_18, eu_18, hf⟩ := lt_ex hf
  refine r_copy hx hb (hml.trans hl.1.symm) hown (hts (.methodLink RX4 66 arraycopyName) (by decide +kernel)) (hts (.native arraycopyName) (by decide +kernel)) (hts (.static arraycopyName) (by decide +kernel)) (hts (.initialized "java/lang/System") (by decide +kernel)) hC hP hS (b2 + 7) (tab_k7 htb2) (tab_7 htb2) (b + 7) (tab_k7 htb) (tab_7 htb) hk_17 eu_18 (Nat.le_trans (Nat.le_of_ble_eq_true rfl) hRf) (Nat.le_trans (Nat.le_of_ble_eq_true rfl) hRl) dX4_becomeLike_134 (fun H locs hP hS => ?_)
  refine lv_aload_n hx hb dX4_becomeLike_137 rfl (lv_at hl 1 rfl) ?_
  refine r_get hx hb hts hown hC hP hinX4 b2 (tab_k0 htb2) (ci := 3) (tab_0 htb2) (by decide) rfl 11 (by decide) (hts (.fieldLink RX4 33 "LoafParts$Table" "deedWho" "[I") (by decide +kernel)) (v := .ref (aD g (b2 + 8))) rfl dX4_becomeLike_138 ?_
  refine lv_iconst (v := (0 : Int32)) hx hb dX4_becomeLike_141 (by decide) ?_
  refine lv_aload_n hx hb dX4_becomeLike_142 rfl (lv_at hl 0 rfl) ?_
  refine r_get hx hb hts hown hC hP hinX4 b (tab_k0 htb) (ci := 3) (tab_0 htb) (by decide) rfl 11 (by decide) (hts (.fieldLink RX4 33 "LoafParts$Table" "deedWho" "[I") (by decide +kernel)) (v := .ref (aD g (b + 8))) rfl dX4_becomeLike_143 ?_
  refine lv_iconst (v := (0 : Int32)) hx hb dX4_becomeLike_146 (by decide) ?_
  refine lv_bipush (v := (40 : Int32)) hx hb dX4_becomeLike_147 (by decide) ?_
  obtain ⟨hk_19, hf⟩ := cpk_ex hf
  obtain ⟨u_20, eu_20, hf⟩ := lt_ex hf
  refine r_copy hx hb (hml.trans hl.1.symm) hown (hts (.methodLink RX4 66 arraycopyName) (by decide +kernel)) (hts (.native arraycopyName) (by decide +kernel)) (hts (.static arraycopyName) (by decide +kernel)) (hts (.initialized "java/lang/System") (by decide +kernel)) hC hP hS (b2 + 8) (tab_k8 htb2) (tab_8 htb2) (b + 8) (tab_k8 htb) (tab_8 htb) hk_19 eu_20 (Nat.le_trans (Nat.le_of_ble_eq_true rfl) hRf) (Nat.le_trans (Nat.le_of_ble_eq_true rfl) hRl) dX4_becomeLike_149 (fun H locs hP hS => ?_)
  refine lv_aload_n hx hb dX4_becomeLike_152 rfl (lv_at hl 1 rfl) ?_
  refine r_get hx hb hts hown hC hP hinX4 b2 (tab_k0 htb2) (ci := 3) (tab_0 htb2) (by decide) rfl 12 (by decide) (hts (.fieldLink RX4 36 "LoafParts$Table" "deedSize" "[I") (by decide +kernel)) (v := .ref (aD g (b2 + 9))) rfl dX4_becomeLike_153 ?_
  refine lv_iconst (v := (0 : Int32)) hx hb dX4_becomeLike_156 (by decide) ?_
  refine lv_aload_n hx hb dX4_becomeLike_157 rfl (lv_at hl 0 rfl) ?_
  refine r_get hx hb hts hown hC hP hinX4 b (tab_k0 htb) (ci := 3) (tab_0 htb) (by decide) rfl 12 (by decide) (hts (.fieldLink RX4 36 "LoafParts$Table" "deedSize" "[I") (by decide +kernel)) (v := .ref (aD g (b + 9))) rfl dX4_becomeLike_158 ?_
  refine lv_iconst (v := (0 : Int32)) hx hb dX4_becomeLike_161 (by decide) ?_
  refine lv_bipush (v := (40 : Int32)) hx hb dX4_becomeLike_162 (by decide) ?_
  obtain ⟨hk_21, hf⟩ := cpk_ex hf
  obtain ⟨u_22, eu_22, hf⟩ := lt_ex hf
  refine r_copy hx hb (hml.trans hl.1.symm) hown (hts (.methodLink RX4 66 arraycopyName) (by decide +kernel)) (hts (.native arraycopyName) (by decide +kernel)) (hts (.static arraycopyName) (by decide +kernel)) (hts (.initialized "java/lang/System") (by decide +kernel)) hC hP hS (b2 + 9) (tab_k9 htb2) (tab_9 htb2) (b + 9) (tab_k9 htb) (tab_9 htb) hk_21 eu_22 (Nat.le_trans (Nat.le_of_ble_eq_true rfl) hRf) (Nat.le_trans (Nat.le_of_ble_eq_true rfl) hRl) dX4_becomeLike_164 (fun H locs hP hS => ?_)
  obtain rfl := sp1 hf
  exact kret _ _ _ _ dX4_becomeLike_167 hP hS trivial
set_option maxHeartbeats 4000000 in
set_option maxRecDepth 100000 in
theorem c_X5_keep (l : Launch) (g : GG) (u : UU) (x1 : Int32) {r : Int32} {u' : UU} (hf : f_X5_keep x1 u = some (r, u')) : Ci l g 0 55 yX5_keep wsX5_keep 2 81 [.ref (aD g 0), .int x1] u r u' := by
  refine ct_i (cc := cX5_keep) (maxL := 2) (by decide) rfl (Nat.le_of_ble_eq_true rfl) ?_
  intro p e s m args below meth c R Q ls hx hb hml hown hts hC hP hl hRf hRl kret hS
  have hown : s.vm.findClass RX5 = some m.cls := hown
  have hl : lv_has ls 2 [(0, .ref (aD g 0)), (1, .int x1)] := hl
  have hinX4 : ∀ w ∈ u_ws RX4 TX4 13, w ∈ wsX5_keep := by decide +kernel
  have hinX5 : ∀ w ∈ u_ws RX5 TX5 12, w ∈ wsX5_keep := by decide +kernel
  unfold f_X5_keep at hf
  refine lv_iload_n hx hb dX5_keep_0 rfl (lv_at hl 1 rfl) ?_
  refine lv_if_lt (tgt := 9) hx hb dX5_keep_1 (by decide) (fun c_1 => ?_) (fun c_1 => ?_)
  · rw [if_pos c_1] at hf
    refine lv_iconst (v := (-1 : Int32)) hx hb dX5_keep_9 (by decide) ?_
    obtain ⟨rfl, rfl⟩ := sp2 hf
    exact kret _ _ _ _ dX5_keep_10 hP hS trivial
  rw [if_neg c_1] at hf
  refine lv_iload_n hx hb dX5_keep_4 rfl (lv_at hl 1 rfl) ?_
  refine lv_iconst (v := (3 : Int32)) hx hb dX5_keep_5 (by decide) ?_
  refine lv_icmp_lt (tgt := 11) hx hb dX5_keep_6 (by decide) (fun c_2 => ?_) (fun c_2 => ?_)
  · rw [if_pos c_2] at hf
    refine lv_aload_n hx hb dX5_keep_11 rfl (lv_at hl 0 rfl) ?_
    refine r_get hx hb hts hown hC hP hinX5 0 (by decide) (ci := 4) rfl (by decide) rfl 3 (by decide) (hts (.fieldLink RX5 31 "LoafParts" "table" "LLoafParts$Table;") (by decide +kernel)) (v := .ref (aD g 11)) rfl dX5_keep_12 ?_
    refine r_getN hx hb hts hown hC hP hinX4 11 (by decide) (ci := 3) rfl (by decide) rfl 0 (by decide) 0 rfl (v := .int (ui u 11 0)) rfl dX5_keep_15 ?_
    refine lv_if_ne (tgt := 24) hx hb dX5_keep_18 (by decide) (fun c_3 => ?_) (fun c_3 => ?_)
    · rw [if_neg c_3] at hf
      refine lv_aload_n hx hb dX5_keep_24 rfl (lv_at hl 0 rfl) ?_
      refine r_get hx hb hts hown hC hP hinX5 0 (by decide) (ci := 4) rfl (by decide) rfl 4 (by decide) (hts (.fieldLink RX5 35 "LoafParts" "kept" "[LLoafParts$Table;") (by decide +kernel)) (v := .ref (aD g 21)) rfl dX5_keep_25 ?_
      refine lv_iload_n hx hb dX5_keep_28 rfl (lv_at hl 1 rfl) ?_
      obtain ⟨hi_4, hf⟩ := ix_ex hf
      refine r_aldq hx hb hC hP 21 (by decide) rfl hi_4 dX5_keep_29 ?_
      refine lv_aload_n hx hb dX5_keep_30 rfl (lv_at hl 0 rfl) ?_
      refine r_get hx hb hts hown hC hP hinX5 0 (by decide) (ci := 4) rfl (by decide) rfl 3 (by decide) (hts (.fieldLink RX5 31 "LoafParts" "table" "LLoafParts$Table;") (by decide +kernel)) (v := .ref (aD g 11)) rfl dX5_keep_31 ?_
      obtain ⟨q_5, hq_5, hf⟩ := bind_ex hf
      refine r_Vv (As := [.ref (aD g 11)]) (rest := []) (k := (22 + 10 * (x1 : Int32).toNatClampNeg)) (ci := 3) ⟨hx, hb, hml, hown, hts⟩ hC hP hS (tab_k0 (tab_kept hi_4)) (tab_0 (tab_kept hi_4)) (by decide) rfl (c_X4_becomeLike l g (22 + 10 * (x1 : Int32).toNatClampNeg) (tab_kept hi_4) 11 tab_11 u hq_5) (cwV 1 hts gX5_keep_X4_becomeLike rfl rfl rfl (by decide +kernel) ⟨(Nat.le_trans (Nat.le_of_ble_eq_true rfl) hRf), (Nat.le_trans (Nat.le_of_ble_eq_true rfl) hRl)⟩) rfl hl.1 rfl (Nat.le_of_ble_eq_true rfl) dX5_keep_34 (fun H locs hP hS => ?_)
      refine lv_aload_n hx hb dX5_keep_37 rfl (lv_at hl 0 rfl) ?_
      refine r_get hx hb hts hown hC hP hinX5 0 (by decide) (ci := 4) rfl (by decide) rfl 3 (by decide) (hts (.fieldLink RX5 31 "LoafParts" "table" "LLoafParts$Table;") (by decide +kernel)) (v := .ref (aD g 11)) rfl dX5_keep_38 ?_
      refine r_getN hx hb hts hown hC hP hinX4 11 (by decide) (ci := 3) rfl (by decide) rfl 2 (by decide) 6 rfl (v := .int (ui q_5 11 2)) rfl dX5_keep_41 ?_
      obtain ⟨rfl, rfl⟩ := sp2 hf
      exact kret _ _ _ _ dX5_keep_44 hP hS trivial
    rw [if_pos c_3] at hf
    refine lv_bipush (v := (-4 : Int32)) hx hb dX5_keep_21 (by decide) ?_
    obtain ⟨rfl, rfl⟩ := sp2 hf
    exact kret _ _ _ _ dX5_keep_23 hP hS trivial
  rw [if_neg c_2] at hf
  refine lv_iconst (v := (-1 : Int32)) hx hb dX5_keep_9 (by decide) ?_
  obtain ⟨rfl, rfl⟩ := sp2 hf
  exact kret _ _ _ _ dX5_keep_10 hP hS trivial
set_option maxHeartbeats 4000000 in
set_option maxRecDepth 100000 in
theorem c_X5_on (l : Launch) (g : GG) (u : UU) (x1 : Int32) {r : Int32} {u' : UU} (hf : f_X5_on x1 u = some (r, u')) : Ci l g 0 55 yX5_on wsX5_on 2 81 [.ref (aD g 0), .int x1] u r u' := by
  refine ct_i (cc := cX5_on) (maxL := 2) (by decide) rfl (Nat.le_of_ble_eq_true rfl) ?_
  intro p e s m args below meth c R Q ls hx hb hml hown hts hC hP hl hRf hRl kret hS
  have hown : s.vm.findClass RX5 = some m.cls := hown
  have hl : lv_has ls 2 [(0, .ref (aD g 0)), (1, .int x1)] := hl
  have hinX4 : ∀ w ∈ u_ws RX4 TX4 13, w ∈ wsX5_on := by decide +kernel
  have hinX5 : ∀ w ∈ u_ws RX5 TX5 12, w ∈ wsX5_on := by decide +kernel
  unfold f_X5_on at hf
  refine lv_iload_n hx hb dX5_on_0 rfl (lv_at hl 1 rfl) ?_
  refine lv_if_lt (tgt := 9) hx hb dX5_on_1 (by decide) (fun c_1 => ?_) (fun c_1 => ?_)
  · rw [if_pos c_1] at hf
    refine lv_iconst (v := (-1 : Int32)) hx hb dX5_on_9 (by decide) ?_
    obtain ⟨rfl, rfl⟩ := sp2 hf
    exact kret _ _ _ _ dX5_on_10 hP hS trivial
  rw [if_neg c_1] at hf
  refine lv_iload_n hx hb dX5_on_4 rfl (lv_at hl 1 rfl) ?_
  refine lv_iconst (v := (3 : Int32)) hx hb dX5_on_5 (by decide) ?_
  refine lv_icmp_lt (tgt := 11) hx hb dX5_on_6 (by decide) (fun c_2 => ?_) (fun c_2 => ?_)
  · rw [if_pos c_2] at hf
    refine lv_aload_n hx hb dX5_on_11 rfl (lv_at hl 0 rfl) ?_
    refine r_get hx hb hts hown hC hP hinX5 0 (by decide) (ci := 4) rfl (by decide) rfl 4 (by decide) (hts (.fieldLink RX5 35 "LoafParts" "kept" "[LLoafParts$Table;") (by decide +kernel)) (v := .ref (aD g 21)) rfl dX5_on_12 ?_
    refine lv_iload_n hx hb dX5_on_15 rfl (lv_at hl 1 rfl) ?_
    obtain ⟨hi_3, hf⟩ := ix_ex hf
    refine r_aldq hx hb hC hP 21 (by decide) rfl hi_3 dX5_on_16 ?_
    refine r_getN hx hb hts hown hC hP hinX4 (22 + 10 * (x1 : Int32).toNatClampNeg) (tab_k0 (tab_kept hi_3)) (ci := 3) (tab_0 (tab_kept hi_3)) (by decide) rfl 0 (by decide) 0 rfl (v := .int (ui u (22 + 10 * (x1 : Int32).toNatClampNeg) 0)) rfl dX5_on_17 ?_
    refine lv_if_ne (tgt := 29) hx hb dX5_on_20 (by decide) (fun c_4 => ?_) (fun c_4 => ?_)
    · rw [if_neg c_4] at hf
      refine lv_aload_n hx hb dX5_on_29 rfl (lv_at hl 0 rfl) ?_
      refine r_get hx hb hts hown hC hP hinX5 0 (by decide) (ci := 4) rfl (by decide) rfl 3 (by decide) (hts (.fieldLink RX5 31 "LoafParts" "table" "LLoafParts$Table;") (by decide +kernel)) (v := .ref (aD g 11)) rfl dX5_on_30 ?_
      refine lv_aload_n hx hb dX5_on_33 rfl (lv_at hl 0 rfl) ?_
      refine r_get hx hb hts hown hC hP hinX5 0 (by decide) (ci := 4) rfl (by decide) rfl 4 (by decide) (hts (.fieldLink RX5 35 "LoafParts" "kept" "[LLoafParts$Table;") (by decide +kernel)) (v := .ref (aD g 21)) rfl dX5_on_34 ?_
      refine lv_iload_n hx hb dX5_on_37 rfl (lv_at hl 1 rfl) ?_
      obtain ⟨hi_5, hf⟩ := ix_ex hf
      refine r_aldq hx hb hC hP 21 (by decide) rfl hi_5 dX5_on_38 ?_
      obtain ⟨q_6, hq_6, hf⟩ := bind_ex hf
      refine r_Vv (As := [.ref (aD g (22 + 10 * (x1 : Int32).toNatClampNeg))]) (rest := []) (k := 11) (ci := 3) ⟨hx, hb, hml, hown, hts⟩ hC hP hS (by decide) rfl (by decide) rfl (c_X4_becomeLike l g 11 tab_11 (22 + 10 * (x1 : Int32).toNatClampNeg) (tab_kept hi_5) u hq_6) (cwV 1 hts gX5_on_X4_becomeLike rfl rfl rfl (by decide +kernel) ⟨(Nat.le_trans (Nat.le_of_ble_eq_true rfl) hRf), (Nat.le_trans (Nat.le_of_ble_eq_true rfl) hRl)⟩) rfl hl.1 rfl (Nat.le_of_ble_eq_true rfl) dX5_on_39 (fun H locs hP hS => ?_)
      refine lv_aload_n hx hb dX5_on_42 rfl (lv_at hl 0 rfl) ?_
      refine r_get hx hb hts hown hC hP hinX5 0 (by decide) (ci := 4) rfl (by decide) rfl 3 (by decide) (hts (.fieldLink RX5 31 "LoafParts" "table" "LLoafParts$Table;") (by decide +kernel)) (v := .ref (aD g 11)) rfl dX5_on_43 ?_
      refine r_getN hx hb hts hown hC hP hinX4 11 (by decide) (ci := 3) rfl (by decide) rfl 2 (by decide) 6 rfl (v := .int (ui q_6 11 2)) rfl dX5_on_46 ?_
      obtain ⟨rfl, rfl⟩ := sp2 hf
      exact kret _ _ _ _ dX5_on_49 hP hS trivial
    rw [if_pos c_4] at hf
    refine lv_aload_n hx hb dX5_on_23 rfl (lv_at hl 0 rfl) ?_
    refine lv_iconst (v := (1 : Int32)) hx hb dX5_on_24 (by decide) ?_
    obtain ⟨q_7, hq_7, hf⟩ := bind_ex hf
    refine r_Vi (r := q_7.1) (u' := q_7.2) (As := [.int (1 : Int32)]) (rest := []) (k := 0) (ci := 4) ⟨hx, hb, hml, hown, hts⟩ hC hP hS (by decide) rfl (by decide) rfl (c_X5_found l g u (1 : Int32) hq_7) (cwV 1 hts gX5_on_X5_found rfl rfl rfl (by decide +kernel) ⟨(Nat.le_trans (Nat.le_of_ble_eq_true rfl) hRf), (Nat.le_trans (Nat.le_of_ble_eq_true rfl) hRl)⟩) rfl hl.1 rfl (Nat.le_of_ble_eq_true rfl) dX5_on_25 (fun H locs hP hS => ?_)
    obtain ⟨rfl, rfl⟩ := sp2 hf
    exact kret _ _ _ _ dX5_on_28 hP hS trivial
  rw [if_neg c_2] at hf
  refine lv_iconst (v := (-1 : Int32)) hx hb dX5_on_9 (by decide) ?_
  obtain ⟨rfl, rfl⟩ := sp2 hf
  exact kret _ _ _ _ dX5_on_10 hP hS trivial
set_option maxHeartbeats 4000000 in
set_option maxRecDepth 100000 in
theorem c_X5_greatestDivisor (l : Launch) (g : GG) (u : UU) (x0 : Int64) (x2 : Int64) {r : Int64} (hf : f_X5_greatestDivisor x0 x2 u = some r) : Cl l g 0 55 yX5_greatestDivisor wsX5_greatestDivisor 0 0 [.long x0, .long x2] u r u := by
  refine ct_l (cc := cX5_greatestDivisor) (maxL := 11) (by decide) rfl (Nat.le_of_ble_eq_true rfl) ?_
  intro p e s m args below meth c R Q ls hx hb hml hown hts hC hP hl hRf hRl kret hS
  have hown : s.vm.findClass RX5 = some m.cls := hown
  have hl : lv_has ls 11 [(0, .long x0), (2, .long x2)] := hl
  have w_9 : ∀ (n : Nat), ∀ (x4 : Int64) (x6 : Int64) (x8 : Int32) (H : Heap) (locs : List Loc) (ls : Array Slot), Ps g 0 55 u H → va_S (aA g) s.heap H locs → lv_has ls 11 [(4, .long x4), (6, .long x6), (8, .int x8)] → f_X5_greatestDivisor_9 n x4 x6 x8 u = some r → W p l e R s m args below meth c H locs 0 0 Q (F0 m 9 ls []) := by
    intro n
    induction n with
    | zero =>
      intro x4 x6 x8 H locs ls hP hS hl hf
      rw [f_X5_greatestDivisor_9] at hf
      cases hf
    | succ n ih =>
      intro x4 x6 x8 H locs ls hP hS hl hf
      rw [f_X5_greatestDivisor_9] at hf
      refine lv_iload hx hb dX5_greatestDivisor_9 (lv_at hl 2 rfl) ?_
      refine lv_sipush (v := (200 : Int32)) hx hb dX5_greatestDivisor_11 (by decide) ?_
      refine lv_icmp_ge (tgt := 45) hx hb dX5_greatestDivisor_14 (by decide) (fun c_1 => ?_) (fun c_1 => ?_)
      · rw [if_pos c_1] at hf
        refine lv_lload hx hb dX5_greatestDivisor_45 (lv_at hl 0 rfl) ?_
        obtain rfl := sp1 hf
        exact kret _ _ _ _ dX5_greatestDivisor_47 hP hS trivial
      rw [if_neg c_1] at hf
      refine lv_lload hx hb dX5_greatestDivisor_17 (lv_at hl 1 rfl) ?_
      refine lv_lconst (v := (0 : Int64)) hx hb dX5_greatestDivisor_19 (by decide) ?_
      refine W.lcmp hx hb dX5_greatestDivisor_20 ?_
      refine lv_if_eq (tgt := 45) hx hb dX5_greatestDivisor_21 (by decide) (fun c_2 => ?_) (fun c_2 => ?_)
      · rw [if_pos c_2] at hf
        refine lv_lload hx hb dX5_greatestDivisor_45 (lv_at hl 0 rfl) ?_
        obtain rfl := sp1 hf
        exact kret _ _ _ _ dX5_greatestDivisor_47 hP hS trivial
      rw [if_neg c_2] at hf
      refine lv_lload hx hb dX5_greatestDivisor_24 (lv_at hl 0 rfl) ?_
      refine lv_lload hx hb dX5_greatestDivisor_26 (lv_at hl 1 rfl) ?_
      obtain ⟨hz_3, hf⟩ := nzl_ex hf
      refine lv_lrem hx hb dX5_greatestDivisor_28 hz_3 ?_
      obtain ⟨x9_4, ex9_4, hf⟩ := lt_ex hf
      refine r_nml ex9_4 ?_
      refine lv_lstore (lv' := [(9, .long x9_4), (4, .long x4), (6, .long x6), (8, .int x8)]) hx hb dX5_greatestDivisor_29 hl (by decide) rfl (fun ls hl => ?_)
      refine lv_lload hx hb dX5_greatestDivisor_31 (lv_at hl 2 rfl) ?_
      refine lv_lstore (lv' := [(4, .long x6), (9, .long x9_4), (6, .long x6), (8, .int x8)]) hx hb dX5_greatestDivisor_33 hl (by decide) rfl (fun ls hl => ?_)
      refine lv_lload hx hb dX5_greatestDivisor_35 (lv_at hl 1 rfl) ?_
      refine lv_lstore (lv' := [(6, .long x9_4), (4, .long x6), (9, .long x9_4), (8, .int x8)]) hx hb dX5_greatestDivisor_37 hl (by decide) rfl (fun ls hl => ?_)
      obtain ⟨x8_5, ex8_5, hf⟩ := lt_ex hf
      refine lv_iinc (v := x8_5) (lv' := [(8, .int x8_5), (6, .long x9_4), (4, .long x6), (9, .long x9_4)]) hx hb dX5_greatestDivisor_39 hl (k := 3) rfl (by rw [ex8_5]; rfl) (by decide) rfl (fun ls hl => ?_)
      refine lv_goto (tgt := 9) hx hb dX5_greatestDivisor_42 (by decide) ?_
      exact ih x6 x9_4 x8_5 _ _ _ hP hS (lv_sub hl [2, 1, 0] rfl) hf
  unfold f_X5_greatestDivisor at hf
  refine lv_lload_n hx hb dX5_greatestDivisor_0 rfl (lv_at hl 0 rfl) ?_
  refine lv_lstore (lv' := [(4, .long x0), (0, .long x0), (2, .long x2)]) hx hb dX5_greatestDivisor_1 hl (by decide) rfl (fun ls hl => ?_)
  refine lv_lload_n hx hb dX5_greatestDivisor_3 rfl (lv_at hl 2 rfl) ?_
  refine lv_lstore (lv' := [(6, .long x2), (4, .long x0), (0, .long x0), (2, .long x2)]) hx hb dX5_greatestDivisor_4 hl (by decide) rfl (fun ls hl => ?_)
  refine lv_iconst (v := (0 : Int32)) hx hb dX5_greatestDivisor_6 (by decide) ?_
  refine lv_istore (lv' := [(8, .int (0 : Int32)), (6, .long x2), (4, .long x0), (0, .long x0), (2, .long x2)]) hx hb dX5_greatestDivisor_7 hl (by decide) rfl (fun ls hl => ?_)
  exact w_9 fu x0 x2 (0 : Int32) _ _ _ hP hS (lv_sub hl [2, 1, 0] rfl) hf
set_option maxHeartbeats 4000000 in
set_option maxRecDepth 100000 in
theorem c_X5_tellFraction (l : Launch) (g : GG) (u : UU) (x1 : Int64) (x3 : Int64) {u' : UU} (hf : f_X5_tellFraction x1 x3 u = some u') : Cv l g 0 55 yX5_tellFraction wsX5_tellFraction 1 30 [.ref (aD g 0), .long x1, .long x3] u u' := by
  refine ct_v (cc := cX5_tellFraction) (maxL := 7) (by decide) rfl (Nat.le_of_ble_eq_true rfl) ?_
  intro p e s m args below meth c R Q ls hx hb hml hown hts hC hP hl hRf hRl kret hS
  have hown : s.vm.findClass RX5 = some m.cls := hown
  have hl : lv_has ls 7 [(0, .ref (aD g 0)), (1, .long x1), (3, .long x3)] := hl
  have hinX5 : ∀ w ∈ u_ws RX5 TX5 12, w ∈ wsX5_tellFraction := by decide +kernel
  unfold f_X5_tellFraction at hf
  refine lv_lload_n hx hb dX5_tellFraction_0 rfl (lv_at hl 1 rfl) ?_
  refine lv_lload_n hx hb dX5_tellFraction_1 rfl (lv_at hl 2 rfl) ?_
  obtain ⟨q_1, hq_1, hf⟩ := bind_ex hf
  refine r_Sl (As := [.long x1, .long x3]) (rest := []) ⟨hx, hb, hml, hown, hts⟩ hC hP hS (c_X5_greatestDivisor l g u x1 x3 hq_1) (va_cwS 2 hts gX5_tellFraction_X5_greatestDivisor rfl rfl rfl (by decide +kernel) ⟨(Nat.le_trans (Nat.le_of_ble_eq_true rfl) hRf), (Nat.le_trans (Nat.le_of_ble_eq_true rfl) hRl)⟩) rfl hl.1 rfl (Nat.le_of_ble_eq_true rfl) dX5_tellFraction_2 (fun H locs hP hS => ?_)
  refine lv_lstore (lv' := [(5, .long q_1), (0, .ref (aD g 0)), (1, .long x1), (3, .long x3)]) hx hb dX5_tellFraction_5 hl (by decide) rfl (fun ls hl => ?_)
  refine lv_lload hx hb dX5_tellFraction_7 (lv_at hl 0 rfl) ?_
  refine lv_lconst (v := (0 : Int64)) hx hb dX5_tellFraction_9 (by decide) ?_
  refine W.lcmp hx hb dX5_tellFraction_10 ?_
  refine lv_if_le (tgt := 30) hx hb dX5_tellFraction_11 (by decide) (fun c_2 => ?_) (fun c_2 => ?_)
  · rw [if_pos c_2] at hf
    obtain rfl := sp1 hf
    exact kret _ _ _ _ dX5_tellFraction_30 hP hS trivial
  rw [if_neg c_2] at hf
  refine lv_aload_n hx hb dX5_tellFraction_14 rfl (lv_at hl 1 rfl) ?_
  refine lv_lload_n hx hb dX5_tellFraction_15 rfl (lv_at hl 2 rfl) ?_
  refine lv_lload hx hb dX5_tellFraction_16 (lv_at hl 0 rfl) ?_
  obtain ⟨hz_3, hf⟩ := nzl_ex hf
  refine lv_ldiv hx hb dX5_tellFraction_18 hz_3 ?_
  obtain ⟨u_4, eu_4, hf⟩ := lt_ex hf
  refine r_putl hx hb hts hown hC hP hS hinX5 tyX5 tyX5_ok nmX5 0 (by decide) (ci := 4) rfl (by decide) rfl 10 (by decide) (hts (.fieldLink RX5 290 "LoafParts" "toldUpper" "J") (by decide +kernel)) rfl (by decide +kernel) (by decide) (by decide) eu_4 dX5_tellFraction_19 (fun H locs hP hS => ?_)
  refine lv_aload_n hx hb dX5_tellFraction_22 rfl (lv_at hl 1 rfl) ?_
  refine lv_lload_n hx hb dX5_tellFraction_23 rfl (lv_at hl 3 rfl) ?_
  refine lv_lload hx hb dX5_tellFraction_24 (lv_at hl 0 rfl) ?_
  obtain ⟨hz_5, hf⟩ := nzl_ex hf
  refine lv_ldiv hx hb dX5_tellFraction_26 hz_5 ?_
  obtain ⟨u_6, eu_6, hf⟩ := lt_ex hf
  refine r_putl hx hb hts hown hC hP hS hinX5 tyX5 tyX5_ok nmX5 0 (by decide) (ci := 4) rfl (by decide) rfl 11 (by decide) (hts (.fieldLink RX5 53 "LoafParts" "toldLower" "J") (by decide +kernel)) rfl (by decide +kernel) (by decide) (by decide) eu_6 dX5_tellFraction_27 (fun H locs hP hS => ?_)
  obtain rfl := sp1 hf
  exact kret _ _ _ _ dX5_tellFraction_30 hP hS trivial
set_option maxHeartbeats 4000000 in
set_option maxRecDepth 100000 in
theorem c_X5_lacks (l : Launch) (g : GG) (u : UU) (x1 : Int32) {r : Int32} {u' : UU} (hf : f_X5_lacks x1 u = some (r, u')) : Ci l g 0 55 yX5_lacks wsX5_lacks 2 56 [.ref (aD g 0), .int x1] u r u' := by
  refine ct_i (cc := cX5_lacks) (maxL := 2) (by decide) rfl (Nat.le_of_ble_eq_true rfl) ?_
  intro p e s m args below meth c R Q ls hx hb hml hown hts hC hP hl hRf hRl kret hS
  have hown : s.vm.findClass RX5 = some m.cls := hown
  have hl : lv_has ls 2 [(0, .ref (aD g 0)), (1, .int x1)] := hl
  have hinX4 : ∀ w ∈ u_ws RX4 TX4 13, w ∈ wsX5_lacks := by decide +kernel
  have hinX5 : ∀ w ∈ u_ws RX5 TX5 12, w ∈ wsX5_lacks := by decide +kernel
  unfold f_X5_lacks at hf
  refine lv_aload_n hx hb dX5_lacks_0 rfl (lv_at hl 0 rfl) ?_
  refine r_get hx hb hts hown hC hP hinX5 0 (by decide) (ci := 4) rfl (by decide) rfl 3 (by decide) (hts (.fieldLink RX5 31 "LoafParts" "table" "LLoafParts$Table;") (by decide +kernel)) (v := .ref (aD g 11)) rfl dX5_lacks_1 ?_
  refine lv_iload_n hx hb dX5_lacks_4 rfl (lv_at hl 1 rfl) ?_
  obtain ⟨q_1, hq_1, hf⟩ := bind_ex hf
  refine r_Vi (As := [.int x1]) (rest := []) (k := 11) (ci := 3) ⟨hx, hb, hml, hown, hts⟩ hC hP hS (by decide) rfl (by decide) rfl (c_X4_isWorker l g u x1 hq_1) (cwV 1 hts gX5_lacks_X4_isWorker rfl rfl rfl (by decide +kernel) ⟨(Nat.le_trans (Nat.le_of_ble_eq_true rfl) hRf), (Nat.le_trans (Nat.le_of_ble_eq_true rfl) hRl)⟩) rfl hl.1 rfl (Nat.le_of_ble_eq_true rfl) dX5_lacks_5 (fun H locs hP hS => ?_)
  refine lv_if_ne (tgt := 13) hx hb dX5_lacks_8 (by decide) (fun c_2 => ?_) (fun c_2 => ?_)
  · rw [if_neg c_2] at hf
    refine lv_aload_n hx hb dX5_lacks_13 rfl (lv_at hl 0 rfl) ?_
    refine lv_aload_n hx hb dX5_lacks_14 rfl (lv_at hl 0 rfl) ?_
    refine r_get hx hb hts hown hC hP hinX5 0 (by decide) (ci := 4) rfl (by decide) rfl 3 (by decide) (hts (.fieldLink RX5 31 "LoafParts" "table" "LLoafParts$Table;") (by decide +kernel)) (v := .ref (aD g 11)) rfl dX5_lacks_15 ?_
    refine r_getN hx hb hts hown hC hP hinX4 11 (by decide) (ci := 3) rfl (by decide) rfl 9 (by decide) 7 rfl (v := .ref (aD g 17)) rfl dX5_lacks_18 ?_
    refine lv_iload_n hx hb dX5_lacks_21 rfl (lv_at hl 1 rfl) ?_
    obtain ⟨hi_3, hf⟩ := ix_ex hf
    refine r_ald hx hb hC hP 17 (by decide) rfl hi_3 dX5_lacks_22 ?_
    refine lv_i2l hx hb dX5_lacks_23 rfl ?_
    refine lv_ldc2 (v := (720720 : Int64)) hx hb hown (hts (.constantLong RX5 203 (720720)) (by decide +kernel)) dX5_lacks_24 ?_
    obtain ⟨q_4, hq_4, hf⟩ := bind_ex hf
    refine r_Vv (As := [.long (((ui u 17 (x1 : Int32).toNatClampNeg) : Int32).toInt64), .long (720720 : Int64)]) (rest := []) (k := 0) (ci := 4) ⟨hx, hb, hml, hown, hts⟩ hC hP hS (by decide) rfl (by decide) rfl (c_X5_tellFraction l g u (((ui u 17 (x1 : Int32).toNatClampNeg) : Int32).toInt64) (720720 : Int64) hq_4) (cwV 2 hts gX5_lacks_X5_tellFraction rfl rfl rfl (by decide +kernel) ⟨(Nat.le_trans (Nat.le_of_ble_eq_true rfl) hRf), (Nat.le_trans (Nat.le_of_ble_eq_true rfl) hRl)⟩) rfl hl.1 rfl (Nat.le_of_ble_eq_true rfl) dX5_lacks_27 (fun H locs hP hS => ?_)
    refine lv_iconst (v := (1 : Int32)) hx hb dX5_lacks_30 (by decide) ?_
    obtain ⟨rfl, rfl⟩ := sp2 hf
    exact kret _ _ _ _ dX5_lacks_31 hP hS trivial
  rw [if_pos c_2] at hf
  refine lv_iconst (v := (-1 : Int32)) hx hb dX5_lacks_11 (by decide) ?_
  obtain ⟨rfl, rfl⟩ := sp2 hf
  exact kret _ _ _ _ dX5_lacks_12 hP hS trivial
set_option maxHeartbeats 4000000 in
set_option maxRecDepth 100000 in
theorem c_X1_note (l : Launch) (g : GG) (u : UU) (x1 : Int32) {u' : UU} (hf : f_X1_note x1 u = some u') : Cv l g 0 55 yX1_note wsX1_note 1 21 [.ref (aD g 52), .int x1] u u' := by
  refine ct_v (cc := cX1_note) (maxL := 3) (by decide) rfl (Nat.le_of_ble_eq_true rfl) ?_
  intro p e s m args below meth c R Q ls hx hb hml hown hts hC hP hl hRf hRl kret hS
  have hown : s.vm.findClass RX1 = some m.cls := hown
  have hl : lv_has ls 3 [(0, .ref (aD g 52)), (1, .int x1)] := hl
  have hinX1 : ∀ w ∈ u_ws RX1 TX1 5, w ∈ wsX1_note := by decide +kernel
  have w_46 : ∀ (x2 : Int32) (u : UU) (H : Heap) (locs : List Loc) (ls : Array Slot), Ps g 0 55 u H → va_S (aA g) s.heap H locs → lv_has ls 3 [(0, .ref (aD g 52)), (2, .int x2)] → f_X1_note_46 x2 u = some u' → W p l e R s m args below meth c H locs 0 0 Q (F0 m 46 ls []) := by
    intro x2 u H locs ls hP hS hl hf
    unfold f_X1_note_46 at hf
    refine lv_aload_n hx hb dX1_note_46 rfl (lv_at hl 0 rfl) ?_
    refine lv_aload_n hx hb dX1_note_47 rfl (lv_at hl 0 rfl) ?_
    refine r_get hx hb hts hown hC hP hinX1 52 (by decide) (ci := 0) rfl (by decide) rfl 2 (by decide) (hts (.fieldLink RX1 16 "LoafParts$Makeup" "most" "I") (by decide +kernel)) (v := .int (ui u 52 2)) rfl dX1_note_48 ?_
    refine lv_iload_n hx hb dX1_note_51 rfl (lv_at hl 1 rfl) ?_
    refine va_mmax hx hb (hml.trans hl.1.symm) hown (hts (.methodLink RX1 55 Lib.Math.max.name) (by decide +kernel)) (hts (.static Lib.Math.max.name) (by decide +kernel)) (hts (.initialized "java/lang/Math") (by decide +kernel)) (hts (.code Lib.Math.max.name Lib.Math.max.code 2 (some .int)) (by decide +kernel)) (Nat.le_trans (Nat.le_of_ble_eq_true rfl) hRf) (Nat.le_trans (Nat.le_of_ble_eq_true rfl) hRl) (Nat.zero_le _) (Nat.zero_le _) dX1_note_52 ?_
    obtain ⟨u_5, eu_5, hf⟩ := lt_ex hf
    refine r_puti hx hb hts hown hC hP hS hinX1 tyX1 tyX1_ok nmX1 52 (by decide) (ci := 0) rfl (by decide) rfl 2 (by decide) (hts (.fieldLink RX1 16 "LoafParts$Makeup" "most" "I") (by decide +kernel)) rfl (ty := .int) (by decide +kernel) rfl rfl (by decide) (by decide) eu_5 dX1_note_55 (fun H locs hP hS => ?_)
    refine lv_aload_n hx hb dX1_note_58 rfl (lv_at hl 0 rfl) ?_
    refine lv_dup hx hb dX1_note_59 rfl ?_
    refine r_get hx hb hts hown hC hP hinX1 52 (by decide) (ci := 0) rfl (by decide) rfl 1 (by decide) (hts (.fieldLink RX1 13 "LoafParts$Makeup" "sets" "I") (by decide +kernel)) (v := .int (ui u_5 52 1)) rfl dX1_note_60 ?_
    refine lv_iconst (v := (1 : Int32)) hx hb dX1_note_63 (by decide) ?_
    refine lv_iadd hx hb dX1_note_64 ?_
    obtain ⟨u_6, eu_6, hf⟩ := lt_ex hf
    refine r_puti hx hb hts hown hC hP hS hinX1 tyX1 tyX1_ok nmX1 52 (by decide) (ci := 0) rfl (by decide) rfl 1 (by decide) (hts (.fieldLink RX1 13 "LoafParts$Makeup" "sets" "I") (by decide +kernel)) rfl (ty := .int) (by decide +kernel) rfl rfl (by decide) (by decide) eu_6 dX1_note_65 (fun H locs hP hS => ?_)
    obtain rfl := sp1 hf
    exact kret _ _ _ _ dX1_note_68 hP hS trivial
  have w_36 : ∀ (x1 : Int32) (x2 : Int32) (u : UU) (H : Heap) (locs : List Loc) (ls : Array Slot), Ps g 0 55 u H → va_S (aA g) s.heap H locs → lv_has ls 3 [(0, .ref (aD g 52)), (1, .int x1), (2, .int x2)] → f_X1_note_36 x1 x2 u = some u' → W p l e R s m args below meth c H locs 0 0 Q (F0 m 36 ls []) := by
    intro x1 x2 u H locs ls hP hS hl hf
    unfold f_X1_note_36 at hf
    refine lv_aload_n hx hb dX1_note_36 rfl (lv_at hl 0 rfl) ?_
    refine lv_iload_n hx hb dX1_note_37 rfl (lv_at hl 2 rfl) ?_
    obtain ⟨u_3, eu_3, hf⟩ := lt_ex hf
    refine r_puti hx hb hts hown hC hP hS hinX1 tyX1 tyX1_ok nmX1 52 (by decide) (ci := 0) rfl (by decide) rfl 3 (by decide) (hts (.fieldLink RX1 19 "LoafParts$Makeup" "fewest" "I") (by decide +kernel)) rfl (ty := .int) (by decide +kernel) rfl rfl (by decide) (by decide) eu_3 dX1_note_38 (fun H locs hP hS => ?_)
    refine lv_aload_n hx hb dX1_note_41 rfl (lv_at hl 0 rfl) ?_
    refine lv_iload_n hx hb dX1_note_42 rfl (lv_at hl 1 rfl) ?_
    obtain ⟨u_4, eu_4, hf⟩ := lt_ex hf
    refine r_puti hx hb hts hown hC hP hS hinX1 tyX1 tyX1_ok nmX1 52 (by decide) (ci := 0) rfl (by decide) rfl 4 (by decide) (hts (.fieldLink RX1 22 "LoafParts$Makeup" "fewestSet" "I") (by decide +kernel)) rfl (ty := .int) (by decide +kernel) rfl rfl (by decide) (by decide) eu_4 dX1_note_43 (fun H locs hP hS => ?_)
    exact w_46 x2 u_4 _ _ _ hP hS (lv_sub hl [0, 2] rfl) hf
  unfold f_X1_note at hf
  refine lv_iload_n hx hb dX1_note_0 rfl (lv_at hl 1 rfl) ?_
  refine r_Si (As := [.int x1]) (rest := []) ⟨hx, hb, hml, hown, hts⟩ hC hP hS (c_J6_bitCount_0f7a4 l g u x1 rfl) (va_cwS 1 hts gX1_note_J6_bitCount_0f7a4 rfl rfl rfl (by decide +kernel) ⟨(Nat.le_trans (Nat.le_of_ble_eq_true rfl) hRf), (Nat.le_trans (Nat.le_of_ble_eq_true rfl) hRl)⟩) rfl hl.1 rfl (Nat.le_of_ble_eq_true rfl) dX1_note_1 (fun H locs hP hS => ?_)
  obtain ⟨x2_1, ex2_1, hf⟩ := lt_ex hf
  refine r_nm ex2_1 ?_
  refine lv_istore_n (lv' := [(2, .int x2_1), (0, .ref (aD g 52)), (1, .int x1)]) hx hb dX1_note_4 rfl hl (by decide) rfl (fun ls hl => ?_)
  refine lv_aload_n hx hb dX1_note_5 rfl (lv_at hl 1 rfl) ?_
  refine r_get hx hb hts hown hC hP hinX1 52 (by decide) (ci := 0) rfl (by decide) rfl 1 (by decide) (hts (.fieldLink RX1 13 "LoafParts$Makeup" "sets" "I") (by decide +kernel)) (v := .int (ui u 52 1)) rfl dX1_note_6 ?_
  refine lv_if_eq (tgt := 36) hx hb dX1_note_9 (by decide) (fun c_2 => ?_) (fun c_2 => ?_)
  · rw [if_pos c_2] at hf
    exact w_36 x1 x2_1 u _ _ _ hP hS (lv_sub hl [1, 2, 0] rfl) hf
  rw [if_neg c_2] at hf
  refine lv_iload_n hx hb dX1_note_12 rfl (lv_at hl 0 rfl) ?_
  refine lv_aload_n hx hb dX1_note_13 rfl (lv_at hl 1 rfl) ?_
  refine r_get hx hb hts hown hC hP hinX1 52 (by decide) (ci := 0) rfl (by decide) rfl 3 (by decide) (hts (.fieldLink RX1 19 "LoafParts$Makeup" "fewest" "I") (by decide +kernel)) (v := .int (ui u 52 3)) rfl dX1_note_14 ?_
  refine lv_icmp_lt (tgt := 36) hx hb dX1_note_17 (by decide) (fun c_7 => ?_) (fun c_7 => ?_)
  · rw [if_pos c_7] at hf
    exact w_36 x1 x2_1 u _ _ _ hP hS (lv_sub hl [1, 2, 0] rfl) hf
  rw [if_neg c_7] at hf
  refine lv_iload_n hx hb dX1_note_20 rfl (lv_at hl 0 rfl) ?_
  refine lv_aload_n hx hb dX1_note_21 rfl (lv_at hl 1 rfl) ?_
  refine r_get hx hb hts hown hC hP hinX1 52 (by decide) (ci := 0) rfl (by decide) rfl 3 (by decide) (hts (.fieldLink RX1 19 "LoafParts$Makeup" "fewest" "I") (by decide +kernel)) (v := .int (ui u 52 3)) rfl dX1_note_22 ?_
  refine lv_icmp_ne (tgt := 46) hx hb dX1_note_25 (by decide) (fun c_8 => ?_) (fun c_8 => ?_)
  · rw [if_neg c_8] at hf
    exact w_46 x2_1 u _ _ _ hP hS (lv_sub hl [1, 0] rfl) hf
  rw [if_pos c_8] at hf
  refine lv_iload_n hx hb dX1_note_28 rfl (lv_at hl 2 rfl) ?_
  refine lv_aload_n hx hb dX1_note_29 rfl (lv_at hl 1 rfl) ?_
  refine r_get hx hb hts hown hC hP hinX1 52 (by decide) (ci := 0) rfl (by decide) rfl 4 (by decide) (hts (.fieldLink RX1 22 "LoafParts$Makeup" "fewestSet" "I") (by decide +kernel)) (v := .int (ui u 52 4)) rfl dX1_note_30 ?_
  refine lv_icmp_ge (tgt := 46) hx hb dX1_note_33 (by decide) (fun c_9 => ?_) (fun c_9 => ?_)
  · rw [if_pos c_9] at hf
    exact w_46 x2_1 u _ _ _ hP hS (lv_sub hl [1, 0] rfl) hf
  rw [if_neg c_9] at hf
  exact w_36 x1 x2_1 u _ _ _ hP hS (lv_sub hl [1, 2, 0] rfl) hf