set_option maxHeartbeats 4000000 in
set_option maxRecDepth 100000 in
theorem c_X4_fitFor (l : Launch) (g : GG) (u : UU) (x1 : Int32) {r : Int32} (hf : f_X4_fitFor x1 u = some r) : Ci l g 0 55 yX4_fitFor wsX4_fitFor 2 42 [.ref (aD g 11), .int x1] u r u := by
  refine ct_i (cc := cX4_fitFor) (maxL := 2) (by decide) rfl (Nat.le_of_ble_eq_true rfl) ?_
  intro p e s m args below meth c R Q ls hx hb hml hown hts hC hP hl hRf hRl kret hS
  have hown : s.vm.findClass RX4 = some m.cls := hown
  have hl : lv_has ls 2 [(0, .ref (aD g 11)), (1, .int x1)] := hl
  have hinX4 : ∀ w ∈ u_ws RX4 TX4 13, w ∈ wsX4_fitFor := by decide +kernel
  unfold f_X4_fitFor at hf
  refine lv_aload_n hx hb dX4_fitFor_0 rfl (lv_at hl 0 rfl) ?_
  refine lv_iload_n hx hb dX4_fitFor_1 rfl (lv_at hl 1 rfl) ?_
  obtain ⟨q_1, hq_1, hf⟩ := bind_ex hf
  refine r_Vi (As := [.int x1]) (rest := []) (k := 11) (ci := 3) ⟨hx, hb, hml, hown, hts⟩ hC hP hS (by decide) rfl (by decide) rfl (c_X4_openTo l g u x1 hq_1) (cwV 1 hts gX4_fitFor_X4_openTo rfl rfl rfl (by decide +kernel) ⟨(Nat.le_trans (Nat.le_of_ble_eq_true rfl) hRf), (Nat.le_trans (Nat.le_of_ble_eq_true rfl) hRl)⟩) rfl hl.1 rfl (Nat.le_of_ble_eq_true rfl) dX4_fitFor_2 (fun H locs hP hS => ?_)
  refine lv_aload_n hx hb dX4_fitFor_5 rfl (lv_at hl 0 rfl) ?_
  refine r_get hx hb hts hown hC hP hinX4 11 (by decide) (ci := 3) rfl (by decide) rfl 4 (by decide) (hts (.fieldLink RX4 49 "LoafParts$Table" "lyingSet" "I") (by decide +kernel)) (v := .int (ui u 11 4)) rfl dX4_fitFor_6 ?_
  refine lv_iand hx hb dX4_fitFor_9 ?_
  refine lv_aload_n hx hb dX4_fitFor_10 rfl (lv_at hl 0 rfl) ?_
  refine r_get hx hb hts hown hC hP hinX4 11 (by decide) (ci := 3) rfl (by decide) rfl 9 (by decide) (hts (.fieldLink RX4 27 "LoafParts$Table" "lack" "[I") (by decide +kernel)) (v := .ref (aD g 17)) rfl dX4_fitFor_11 ?_
  refine lv_iload_n hx hb dX4_fitFor_14 rfl (lv_at hl 1 rfl) ?_
  obtain ⟨hi_2, hf⟩ := ix_ex hf
  refine r_ald hx hb hC hP 17 (by decide) rfl hi_2 dX4_fitFor_15 ?_
  refine r_Si (As := [.int (ui u 17 (x1 : Int32).toNatClampNeg)]) (rest := [.int (q_1 &&& (ui u 11 4))]) ⟨hx, hb, hml, hown, hts⟩ hC hP hS (c_X4_noGreaterThan l g u (ui u 17 (x1 : Int32).toNatClampNeg) rfl) (va_cwS 1 hts gX4_fitFor_X4_noGreaterThan rfl rfl rfl (by decide +kernel) ⟨(Nat.le_trans (Nat.le_of_ble_eq_true rfl) hRf), (Nat.le_trans (Nat.le_of_ble_eq_true rfl) hRl)⟩) rfl hl.1 rfl (Nat.le_of_ble_eq_true rfl) dX4_fitFor_16 (fun H locs hP hS => ?_)
  refine lv_iand hx hb dX4_fitFor_19 ?_
  obtain rfl := sp1 hf
  exact kret _ _ _ _ dX4_fitFor_20 hP hS trivial
set_option maxHeartbeats 4000000 in
set_option maxRecDepth 100000 in
theorem c_X4_factOf (l : Launch) (g : GG) (u : UU) (x1 : Int32) (x2 : Int32) {r : Int32} (hf : f_X4_factOf x1 x2 u = some r) : Ci l g 0 55 yX4_factOf wsX4_factOf 3 63 [.ref (aD g 11), .int x1, .int x2] u r u := by
  refine ct_i (cc := cX4_factOf) (maxL := 3) (by decide) rfl (Nat.le_of_ble_eq_true rfl) ?_
  intro p e s m args below meth c R Q ls hx hb hml hown hts hC hP hl hRf hRl kret hS
  have hown : s.vm.findClass RX4 = some m.cls := hown
  have hl : lv_has ls 3 [(0, .ref (aD g 11)), (1, .int x1), (2, .int x2)] := hl
  have hinX4 : ∀ w ∈ u_ws RX4 TX4 13, w ∈ wsX4_factOf := by decide +kernel
  unfold f_X4_factOf at hf
  refine lv_iload_n hx hb dX4_factOf_0 rfl (lv_at hl 2 rfl) ?_
  by_cases s_1 : x2 = (0 : Int32)
  · rw [if_pos s_1] at hf
    refine r_tin (tgt := 36) hx hb (0 : Int32) 35 s_1 dX4_factOf_1 (by decide) ?_
    refine lv_aload_n hx hb dX4_factOf_36 rfl (lv_at hl 0 rfl) ?_
    refine r_get hx hb hts hown hC hP hinX4 11 (by decide) (ci := 3) rfl (by decide) rfl 5 (by decide) (hts (.fieldLink RX4 15 "LoafParts$Table" "kind" "[I") (by decide +kernel)) (v := .ref (aD g 13)) rfl dX4_factOf_37 ?_
    refine lv_iload_n hx hb dX4_factOf_40 rfl (lv_at hl 1 rfl) ?_
    obtain ⟨hi_2, hf⟩ := ix_ex hf
    refine r_ald hx hb hC hP 13 (by decide) rfl hi_2 dX4_factOf_41 ?_
    obtain rfl := sp1 hf
    exact kret _ _ _ _ dX4_factOf_42 hP hS trivial
  rw [if_neg s_1] at hf
  by_cases s_3 : x2 = (1 : Int32)
  · rw [if_pos s_3] at hf
    refine r_tin (tgt := 43) hx hb (1 : Int32) 42 s_3 dX4_factOf_1 (by decide) ?_
    refine lv_aload_n hx hb dX4_factOf_43 rfl (lv_at hl 0 rfl) ?_
    refine r_get hx hb hts hown hC hP hinX4 11 (by decide) (ci := 3) rfl (by decide) rfl 6 (by decide) (hts (.fieldLink RX4 18 "LoafParts$Table" "over" "[I") (by decide +kernel)) (v := .ref (aD g 14)) rfl dX4_factOf_44 ?_
    refine lv_iload_n hx hb dX4_factOf_47 rfl (lv_at hl 1 rfl) ?_
    obtain ⟨hi_4, hf⟩ := ix_ex hf
    refine r_ald hx hb hC hP 14 (by decide) rfl hi_4 dX4_factOf_48 ?_
    obtain rfl := sp1 hf
    exact kret _ _ _ _ dX4_factOf_49 hP hS trivial
  rw [if_neg s_3] at hf
  by_cases s_5 : x2 = (2 : Int32)
  · rw [if_pos s_5] at hf
    refine r_tin (tgt := 50) hx hb (2 : Int32) 49 s_5 dX4_factOf_1 (by decide) ?_
    refine lv_aload_n hx hb dX4_factOf_50 rfl (lv_at hl 0 rfl) ?_
    refine r_get hx hb hts hown hC hP hinX4 11 (by decide) (ci := 3) rfl (by decide) rfl 7 (by decide) (hts (.fieldLink RX4 21 "LoafParts$Table" "under" "[I") (by decide +kernel)) (v := .ref (aD g 15)) rfl dX4_factOf_51 ?_
    refine lv_iload_n hx hb dX4_factOf_54 rfl (lv_at hl 1 rfl) ?_
    obtain ⟨hi_6, hf⟩ := ix_ex hf
    refine r_ald hx hb hC hP 15 (by decide) rfl hi_6 dX4_factOf_55 ?_
    obtain rfl := sp1 hf
    exact kret _ _ _ _ dX4_factOf_56 hP hS trivial
  rw [if_neg s_5] at hf
  by_cases s_7 : x2 = (3 : Int32)
  · rw [if_pos s_7] at hf
    refine r_tin (tgt := 57) hx hb (3 : Int32) 56 s_7 dX4_factOf_1 (by decide) ?_
    refine lv_aload_n hx hb dX4_factOf_57 rfl (lv_at hl 0 rfl) ?_
    refine r_get hx hb hts hown hC hP hinX4 11 (by decide) (ci := 3) rfl (by decide) rfl 8 (by decide) (hts (.fieldLink RX4 24 "LoafParts$Table" "has" "[I") (by decide +kernel)) (v := .ref (aD g 16)) rfl dX4_factOf_58 ?_
    refine lv_iload_n hx hb dX4_factOf_61 rfl (lv_at hl 1 rfl) ?_
    obtain ⟨hi_8, hf⟩ := ix_ex hf
    refine r_ald hx hb hC hP 16 (by decide) rfl hi_8 dX4_factOf_62 ?_
    obtain rfl := sp1 hf
    exact kret _ _ _ _ dX4_factOf_63 hP hS trivial
  rw [if_neg s_7] at hf
  by_cases s_9 : x2 = (4 : Int32)
  · rw [if_pos s_9] at hf
    refine r_tin (tgt := 64) hx hb (4 : Int32) 63 s_9 dX4_factOf_1 (by decide) ?_
    refine lv_aload_n hx hb dX4_factOf_64 rfl (lv_at hl 0 rfl) ?_
    refine lv_iload_n hx hb dX4_factOf_65 rfl (lv_at hl 1 rfl) ?_
    obtain ⟨q_10, hq_10, hf⟩ := bind_ex hf
    refine r_Vi (As := [.int x1]) (rest := []) (k := 11) (ci := 3) ⟨hx, hb, hml, hown, hts⟩ hC hP hS (by decide) rfl (by decide) rfl (c_X4_fitFor l g u x1 hq_10) (cwV 1 hts gX4_factOf_X4_fitFor rfl rfl rfl (by decide +kernel) ⟨(Nat.le_trans (Nat.le_of_ble_eq_true rfl) hRf), (Nat.le_trans (Nat.le_of_ble_eq_true rfl) hRl)⟩) rfl hl.1 rfl (Nat.le_of_ble_eq_true rfl) dX4_factOf_66 (fun H locs hP hS => ?_)
    obtain rfl := sp1 hf
    exact kret _ _ _ _ dX4_factOf_69 hP hS trivial
  rw [if_neg s_9] at hf
  refine lv_tableOut (tgt := 70) hx hb dX4_factOf_1 (tsw_out 0 4 5 [(0 : Int32), (1 : Int32), (2 : Int32), (3 : Int32), (4 : Int32)] (by decide) (by decide) (by decide) (List.forall_mem_cons.mpr ⟨s_1, (List.forall_mem_cons.mpr ⟨s_3, (List.forall_mem_cons.mpr ⟨s_5, (List.forall_mem_cons.mpr ⟨s_7, (List.forall_mem_cons.mpr ⟨s_9, (fun _ h => absurd h List.not_mem_nil)⟩)⟩)⟩)⟩)⟩)) (by decide) ?_
  refine lv_aload_n hx hb dX4_factOf_70 rfl (lv_at hl 0 rfl) ?_
  refine r_get hx hb hts hown hC hP hinX4 11 (by decide) (ci := 3) rfl (by decide) rfl 9 (by decide) (hts (.fieldLink RX4 27 "LoafParts$Table" "lack" "[I") (by decide +kernel)) (v := .ref (aD g 17)) rfl dX4_factOf_71 ?_
  refine lv_iload_n hx hb dX4_factOf_74 rfl (lv_at hl 1 rfl) ?_
  obtain ⟨hi_11, hf⟩ := ix_ex hf
  refine r_ald hx hb hC hP 17 (by decide) rfl hi_11 dX4_factOf_75 ?_
  refine lv_if_ne (tgt := 83) hx hb dX4_factOf_76 (by decide) (fun c_12 => ?_) (fun c_12 => ?_)
  · rw [if_neg c_12] at hf
    refine lv_iconst (v := (0 : Int32)) hx hb dX4_factOf_83 (by decide) ?_
    obtain rfl := sp1 hf
    exact kret _ _ _ _ dX4_factOf_84 hP hS trivial
  rw [if_pos c_12] at hf
  refine lv_iconst (v := (1 : Int32)) hx hb dX4_factOf_79 (by decide) ?_
  refine lv_goto (tgt := 84) hx hb dX4_factOf_80 (by decide) ?_
  obtain rfl := sp1 hf
  exact kret _ _ _ _ dX4_factOf_84 hP hS trivial
set_option maxHeartbeats 4000000 in
set_option maxRecDepth 100000 in
theorem c_X5_worker (l : Launch) (g : GG) (u : UU) (x1 : Int32) (x2 : Int32) {r : Int32} {u' : UU} (hf : f_X5_worker x1 x2 u = some (r, u')) : Ci l g 0 55 yX5_worker wsX5_worker 4 85 [.ref (aD g 0), .int x1, .int x2] u r u' := by
  refine ct_i (cc := cX5_worker) (maxL := 3) (by decide) rfl (Nat.le_of_ble_eq_true rfl) ?_
  intro p e s m args below meth c R Q ls hx hb hml hown hts hC hP hl hRf hRl kret hS
  have hown : s.vm.findClass RX5 = some m.cls := hown
  have hl : lv_has ls 3 [(0, .ref (aD g 0)), (1, .int x1), (2, .int x2)] := hl
  have hinX5 : ∀ w ∈ u_ws RX5 TX5 12, w ∈ wsX5_worker := by decide +kernel
  unfold f_X5_worker at hf
  refine lv_aload_n hx hb dX5_worker_0 rfl (lv_at hl 0 rfl) ?_
  refine r_get hx hb hts hown hC hP hinX5 0 (by decide) (ci := 4) rfl (by decide) rfl 3 (by decide) (hts (.fieldLink RX5 31 "LoafParts" "table" "LLoafParts$Table;") (by decide +kernel)) (v := .ref (aD g 11)) rfl dX5_worker_1 ?_
  refine lv_iload_n hx hb dX5_worker_4 rfl (lv_at hl 1 rfl) ?_
  obtain ⟨q_1, hq_1, hf⟩ := bind_ex hf
  refine r_Vi (As := [.int x1]) (rest := []) (k := 11) (ci := 3) ⟨hx, hb, hml, hown, hts⟩ hC hP hS (by decide) rfl (by decide) rfl (c_X4_isWorker l g u x1 hq_1) (cwV 1 hts gX5_worker_X4_isWorker rfl rfl rfl (by decide +kernel) ⟨(Nat.le_trans (Nat.le_of_ble_eq_true rfl) hRf), (Nat.le_trans (Nat.le_of_ble_eq_true rfl) hRl)⟩) rfl hl.1 rfl (Nat.le_of_ble_eq_true rfl) dX5_worker_5 (fun H locs hP hS => ?_)
  refine lv_if_eq (tgt := 21) hx hb dX5_worker_8 (by decide) (fun c_2 => ?_) (fun c_2 => ?_)
  · rw [if_pos c_2] at hf
    refine lv_iconst (v := (-1 : Int32)) hx hb dX5_worker_21 (by decide) ?_
    obtain ⟨rfl, rfl⟩ := sp2 hf
    exact kret _ _ _ _ dX5_worker_22 hP hS trivial
  rw [if_neg c_2] at hf
  refine lv_iload_n hx hb dX5_worker_11 rfl (lv_at hl 2 rfl) ?_
  refine lv_if_lt (tgt := 21) hx hb dX5_worker_12 (by decide) (fun c_3 => ?_) (fun c_3 => ?_)
  · rw [if_pos c_3] at hf
    refine lv_iconst (v := (-1 : Int32)) hx hb dX5_worker_21 (by decide) ?_
    obtain ⟨rfl, rfl⟩ := sp2 hf
    exact kret _ _ _ _ dX5_worker_22 hP hS trivial
  rw [if_neg c_3] at hf
  refine lv_iload_n hx hb dX5_worker_15 rfl (lv_at hl 2 rfl) ?_
  refine lv_bipush (v := (6 : Int32)) hx hb dX5_worker_16 (by decide) ?_
  refine lv_icmp_lt (tgt := 23) hx hb dX5_worker_18 (by decide) (fun c_4 => ?_) (fun c_4 => ?_)
  · rw [if_pos c_4] at hf
    refine lv_aload_n hx hb dX5_worker_23 rfl (lv_at hl 0 rfl) ?_
    refine lv_aload_n hx hb dX5_worker_24 rfl (lv_at hl 0 rfl) ?_
    refine r_get hx hb hts hown hC hP hinX5 0 (by decide) (ci := 4) rfl (by decide) rfl 3 (by decide) (hts (.fieldLink RX5 31 "LoafParts" "table" "LLoafParts$Table;") (by decide +kernel)) (v := .ref (aD g 11)) rfl dX5_worker_25 ?_
    refine lv_iload_n hx hb dX5_worker_28 rfl (lv_at hl 1 rfl) ?_
    refine lv_iload_n hx hb dX5_worker_29 rfl (lv_at hl 2 rfl) ?_
    obtain ⟨q_5, hq_5, hf⟩ := bind_ex hf
    refine r_Vi (As := [.int x1, .int x2]) (rest := [.ref (aD g 0)]) (k := 11) (ci := 3) ⟨hx, hb, hml, hown, hts⟩ hC hP hS (by decide) rfl (by decide) rfl (c_X4_factOf l g u x1 x2 hq_5) (cwV 2 hts gX5_worker_X4_factOf rfl rfl rfl (by decide +kernel) ⟨(Nat.le_trans (Nat.le_of_ble_eq_true rfl) hRf), (Nat.le_trans (Nat.le_of_ble_eq_true rfl) hRl)⟩) rfl hl.1 rfl (Nat.le_of_ble_eq_true rfl) dX5_worker_30 (fun H locs hP hS => ?_)
    obtain ⟨u_6, eu_6, hf⟩ := lt_ex hf
    refine r_puti hx hb hts hown hC hP hS hinX5 tyX5 tyX5_ok nmX5 0 (by decide) (ci := 4) rfl (by decide) rfl 9 (by decide) (hts (.fieldLink RX5 77 "LoafParts" "told" "I") (by decide +kernel)) rfl (ty := .int) (by decide +kernel) rfl rfl (by decide) (by decide) eu_6 dX5_worker_33 (fun H locs hP hS => ?_)
    refine lv_iconst (v := (1 : Int32)) hx hb dX5_worker_36 (by decide) ?_
    obtain ⟨rfl, rfl⟩ := sp2 hf
    exact kret _ _ _ _ dX5_worker_37 hP hS trivial
  rw [if_neg c_4] at hf
  refine lv_iconst (v := (-1 : Int32)) hx hb dX5_worker_21 (by decide) ?_
  obtain ⟨rfl, rfl⟩ := sp2 hf
  exact kret _ _ _ _ dX5_worker_22 hP hS trivial
set_option maxHeartbeats 4000000 in
set_option maxRecDepth 100000 in
theorem c_X0_isOf (l : Launch) (g : GG) (u : UU) (x0 : Int32) (x1 : Int32) {r : Int32} (hf : f_X0_isOf x0 x1 = r) : Ci l g 0 55 yX0_isOf wsX0_isOf 0 0 [.int x0, .int x1] u r u := by
  refine ct_z (cc := cX0_isOf) (maxL := 2) (by decide) rfl (Nat.le_of_ble_eq_true rfl) ?_
  intro p e s m args below meth c R Q ls hx hb hml hown hts hC hP hl hRf hRl kret hS
  have hown : s.vm.findClass RX0 = some m.cls := hown
  have hl : lv_has ls 2 [(0, .int x0), (1, .int x1)] := hl
  have w_29 : ∀ (H : Heap) (locs : List Loc) (ls : Array Slot), Ps g 0 55 u H → va_S (aA g) s.heap H locs → lv_has ls 2 [] → f_X0_isOf_29 = r → W p l e R s m args below meth c H locs 0 0 Q (F0 m 29 ls []) := by
    intro H locs ls hP hS hl hf
    unfold f_X0_isOf_29 at hf
    refine lv_iconst (v := (1 : Int32)) hx hb dX0_isOf_29 (by decide) ?_
    refine lv_goto (tgt := 34) hx hb dX0_isOf_30 (by decide) ?_
    obtain rfl := hf
    exact kret _ _ _ _ dX0_isOf_34 hP hS rfl
  have w_19 : ∀ (x0 : Int32) (x1 : Int32) (H : Heap) (locs : List Loc) (ls : Array Slot), Ps g 0 55 u H → va_S (aA g) s.heap H locs → lv_has ls 2 [(0, .int x0), (1, .int x1)] → f_X0_isOf_19 x0 x1 = r → W p l e R s m args below meth c H locs 0 0 Q (F0 m 19 ls []) := by
    intro x0 x1 H locs ls hP hS hl hf
    unfold f_X0_isOf_19 at hf
    refine lv_iload_n hx hb dX0_isOf_19 rfl (lv_at hl 0 rfl) ?_
    refine lv_iconst (v := (5 : Int32)) hx hb dX0_isOf_20 (by decide) ?_
    refine lv_icmp_ne (tgt := 33) hx hb dX0_isOf_21 (by decide) (fun c_4 => ?_) (fun c_4 => ?_)
    · rw [if_neg c_4] at hf
      refine lv_iconst (v := (0 : Int32)) hx hb dX0_isOf_33 (by decide) ?_
      obtain rfl := hf
      exact kret _ _ _ _ dX0_isOf_34 hP hS rfl
    rw [if_pos c_4] at hf
    refine lv_iload_n hx hb dX0_isOf_24 rfl (lv_at hl 1 rfl) ?_
    refine lv_iconst (v := (3 : Int32)) hx hb dX0_isOf_25 (by decide) ?_
    refine lv_icmp_ne (tgt := 33) hx hb dX0_isOf_26 (by decide) (fun c_5 => ?_) (fun c_5 => ?_)
    · rw [if_neg c_5] at hf
      refine lv_iconst (v := (0 : Int32)) hx hb dX0_isOf_33 (by decide) ?_
      obtain rfl := hf
      exact kret _ _ _ _ dX0_isOf_34 hP hS rfl
    rw [if_pos c_5] at hf
    exact w_29 _ _ _ hP hS (lv_sub hl [] rfl) hf
  unfold f_X0_isOf at hf
  refine lv_iload_n hx hb dX0_isOf_0 rfl (lv_at hl 0 rfl) ?_
  refine lv_iload_n hx hb dX0_isOf_1 rfl (lv_at hl 1 rfl) ?_
  refine lv_icmp_eq (tgt := 29) hx hb dX0_isOf_2 (by decide) (fun c_1 => ?_) (fun c_1 => ?_)
  · rw [if_pos c_1] at hf
    exact w_29 _ _ _ hP hS (lv_sub hl [] rfl) hf
  rw [if_neg c_1] at hf
  refine lv_iload_n hx hb dX0_isOf_5 rfl (lv_at hl 1 rfl) ?_
  refine lv_if_eq (tgt := 29) hx hb dX0_isOf_6 (by decide) (fun c_2 => ?_) (fun c_2 => ?_)
  · rw [if_pos c_2] at hf
    exact w_29 _ _ _ hP hS (lv_sub hl [] rfl) hf
  rw [if_neg c_2] at hf
  refine lv_iload_n hx hb dX0_isOf_9 rfl (lv_at hl 0 rfl) ?_
  refine lv_iconst (v := (4 : Int32)) hx hb dX0_isOf_10 (by decide) ?_
  refine lv_icmp_ne (tgt := 19) hx hb dX0_isOf_11 (by decide) (fun c_3 => ?_) (fun c_3 => ?_)
  · rw [if_neg c_3] at hf
    exact w_19 x0 x1 _ _ _ hP hS (lv_sub hl [0, 1] rfl) hf
  rw [if_pos c_3] at hf
  refine lv_iload_n hx hb dX0_isOf_14 rfl (lv_at hl 1 rfl) ?_
  refine lv_iconst (v := (1 : Int32)) hx hb dX0_isOf_15 (by decide) ?_
  refine lv_icmp_eq (tgt := 29) hx hb dX0_isOf_16 (by decide) (fun c_6 => ?_) (fun c_6 => ?_)
  · rw [if_pos c_6] at hf
    exact w_29 _ _ _ hP hS (lv_sub hl [] rfl) hf
  rw [if_neg c_6] at hf
  exact w_19 x0 x1 _ _ _ hP hS (lv_sub hl [0, 1] rfl) hf
set_option maxHeartbeats 4000000 in
set_option maxRecDepth 100000 in
theorem c_J6_bitCount_0f7a4 (l : Launch) (g : GG) (u : UU) (x0 : Int32) {r : Int32} (hf : f_J6_bitCount_0f7a4 x0 = r) : Ci l g 0 55 yJ6_bitCount_0f7a4 wsJ6_bitCount_0f7a4 0 0 [.int x0] u r u := by
  refine ct_i (cc := cJ6_bitCount_0f7a4) (maxL := 1) (by decide) rfl (Nat.le_of_ble_eq_true rfl) ?_
  intro p e s m args below meth c R Q ls hx hb hml hown hts hC hP hl hRf hRl kret hS
  have hown : s.vm.findClass RJ6 = some m.cls := hown
  have hl : lv_has ls 1 [(0, .int x0)] := hl
  unfold f_J6_bitCount_0f7a4 at hf
  refine lv_iload_n hx hb dJ6_bitCount_0f7a4_0 rfl (lv_at hl 0 rfl) ?_
  refine lv_iload_n hx hb dJ6_bitCount_0f7a4_1 rfl (lv_at hl 0 rfl) ?_
  refine lv_iconst (v := (1 : Int32)) hx hb dJ6_bitCount_0f7a4_2 (by decide) ?_
  refine lv_iushr hx hb dJ6_bitCount_0f7a4_3 rfl ?_
  refine lv_ldcw (v := (1431655765 : Int32)) hx hb hown (hts (.constant RJ6 265 (1431655765)) (by decide +kernel)) dJ6_bitCount_0f7a4_4 ?_
  refine lv_iand hx hb dJ6_bitCount_0f7a4_7 ?_
  refine lv_isub hx hb dJ6_bitCount_0f7a4_8 ?_
  obtain ⟨x0_1, ex0_1, hf⟩ := lt_ex hf
  refine r_nm ex0_1 ?_
  refine lv_istore_n (lv' := [(0, .int x0_1)]) hx hb dJ6_bitCount_0f7a4_9 rfl hl (by decide) rfl (fun ls hl => ?_)
  refine lv_iload_n hx hb dJ6_bitCount_0f7a4_10 rfl (lv_at hl 0 rfl) ?_
  refine lv_ldcw (v := (858993459 : Int32)) hx hb hown (hts (.constant RJ6 266 (858993459)) (by decide +kernel)) dJ6_bitCount_0f7a4_11 ?_
  refine lv_iand hx hb dJ6_bitCount_0f7a4_14 ?_
  refine lv_iload_n hx hb dJ6_bitCount_0f7a4_15 rfl (lv_at hl 0 rfl) ?_
  refine lv_iconst (v := (2 : Int32)) hx hb dJ6_bitCount_0f7a4_16 (by decide) ?_
  refine lv_iushr hx hb dJ6_bitCount_0f7a4_17 rfl ?_
  refine lv_ldcw (v := (858993459 : Int32)) hx hb hown (hts (.constant RJ6 266 (858993459)) (by decide +kernel)) dJ6_bitCount_0f7a4_18 ?_
  refine lv_iand hx hb dJ6_bitCount_0f7a4_21 ?_
  refine lv_iadd hx hb dJ6_bitCount_0f7a4_22 ?_
  obtain ⟨x0_2, ex0_2, hf⟩ := lt_ex hf
  refine r_nm ex0_2 ?_
  refine lv_istore_n (lv' := [(0, .int x0_2)]) hx hb dJ6_bitCount_0f7a4_23 rfl hl (by decide) rfl (fun ls hl => ?_)
  refine lv_iload_n hx hb dJ6_bitCount_0f7a4_24 rfl (lv_at hl 0 rfl) ?_
  refine lv_iload_n hx hb dJ6_bitCount_0f7a4_25 rfl (lv_at hl 0 rfl) ?_
  refine lv_iconst (v := (4 : Int32)) hx hb dJ6_bitCount_0f7a4_26 (by decide) ?_
  refine lv_iushr hx hb dJ6_bitCount_0f7a4_27 rfl ?_
  refine lv_iadd hx hb dJ6_bitCount_0f7a4_28 ?_
  refine lv_ldcw (v := (252645135 : Int32)) hx hb hown (hts (.constant RJ6 267 (252645135)) (by decide +kernel)) dJ6_bitCount_0f7a4_29 ?_
  refine lv_iand hx hb dJ6_bitCount_0f7a4_32 ?_
  obtain ⟨x0_3, ex0_3, hf⟩ := lt_ex hf
  refine r_nm ex0_3 ?_
  refine lv_istore_n (lv' := [(0, .int x0_3)]) hx hb dJ6_bitCount_0f7a4_33 rfl hl (by decide) rfl (fun ls hl => ?_)
  refine lv_iload_n hx hb dJ6_bitCount_0f7a4_34 rfl (lv_at hl 0 rfl) ?_
  refine lv_iload_n hx hb dJ6_bitCount_0f7a4_35 rfl (lv_at hl 0 rfl) ?_
  refine lv_bipush (v := (8 : Int32)) hx hb dJ6_bitCount_0f7a4_36 (by decide) ?_
  refine lv_iushr hx hb dJ6_bitCount_0f7a4_38 rfl ?_
  refine lv_iadd hx hb dJ6_bitCount_0f7a4_39 ?_
  obtain ⟨x0_4, ex0_4, hf⟩ := lt_ex hf
  refine r_nm ex0_4 ?_
  refine lv_istore_n (lv' := [(0, .int x0_4)]) hx hb dJ6_bitCount_0f7a4_40 rfl hl (by decide) rfl (fun ls hl => ?_)
  refine lv_iload_n hx hb dJ6_bitCount_0f7a4_41 rfl (lv_at hl 0 rfl) ?_
  refine lv_iload_n hx hb dJ6_bitCount_0f7a4_42 rfl (lv_at hl 0 rfl) ?_
  refine lv_bipush (v := (16 : Int32)) hx hb dJ6_bitCount_0f7a4_43 (by decide) ?_
  refine lv_iushr hx hb dJ6_bitCount_0f7a4_45 rfl ?_
  refine lv_iadd hx hb dJ6_bitCount_0f7a4_46 ?_
  obtain ⟨x0_5, ex0_5, hf⟩ := lt_ex hf
  refine r_nm ex0_5 ?_
  refine lv_istore_n (lv' := [(0, .int x0_5)]) hx hb dJ6_bitCount_0f7a4_47 rfl hl (by decide) rfl (fun ls hl => ?_)
  refine lv_iload_n hx hb dJ6_bitCount_0f7a4_48 rfl (lv_at hl 0 rfl) ?_
  refine lv_bipush (v := (63 : Int32)) hx hb dJ6_bitCount_0f7a4_49 (by decide) ?_
  refine lv_iand hx hb dJ6_bitCount_0f7a4_51 ?_
  obtain rfl := hf
  exact kret _ _ _ _ dJ6_bitCount_0f7a4_52 hP hS trivial
set_option maxHeartbeats 4000000 in
set_option maxRecDepth 100000 in
theorem c_X5_mark (l : Launch) (g : GG) (u : UU) (x1 : Int32) (x2 : Int32) {r : Int32} {u' : UU} (hf : f_X5_mark x1 x2 u = some (r, u')) : Ci l g 0 55 yX5_mark wsX5_mark 1 21 [.ref (aD g 0), .int x1, .int x2] u r u' := by
  refine ct_i (cc := cX5_mark) (maxL := 5) (by decide) rfl (Nat.le_of_ble_eq_true rfl) ?_
  intro p e s m args below meth c R Q ls hx hb hml hown hts hC hP hl hRf hRl kret hS
  have hown : s.vm.findClass RX5 = some m.cls := hown
  have hl : lv_has ls 5 [(0, .ref (aD g 0)), (1, .int x1), (2, .int x2)] := hl
  have hinX4 : ∀ w ∈ u_ws RX4 TX4 13, w ∈ wsX5_mark := by decide +kernel
  have hinX5 : ∀ w ∈ u_ws RX5 TX5 12, w ∈ wsX5_mark := by decide +kernel
  unfold f_X5_mark at hf
  refine lv_aload_n hx hb dX5_mark_0 rfl (lv_at hl 0 rfl) ?_
  refine r_get hx hb hts hown hC hP hinX5 0 (by decide) (ci := 4) rfl (by decide) rfl 3 (by decide) (hts (.fieldLink RX5 31 "LoafParts" "table" "LLoafParts$Table;") (by decide +kernel)) (v := .ref (aD g 11)) rfl dX5_mark_1 ?_
  refine lv_iload_n hx hb dX5_mark_4 rfl (lv_at hl 1 rfl) ?_
  obtain ⟨q_1, hq_1, hf⟩ := bind_ex hf
  refine r_Vi (As := [.int x1]) (rest := []) (k := 11) (ci := 3) ⟨hx, hb, hml, hown, hts⟩ hC hP hS (by decide) rfl (by decide) rfl (c_X4_isWorker l g u x1 hq_1) (cwV 1 hts gX5_mark_X4_isWorker rfl rfl rfl (by decide +kernel) ⟨(Nat.le_trans (Nat.le_of_ble_eq_true rfl) hRf), (Nat.le_trans (Nat.le_of_ble_eq_true rfl) hRl)⟩) rfl hl.1 rfl (Nat.le_of_ble_eq_true rfl) dX5_mark_5 (fun H locs hP hS => ?_)
  refine lv_if_eq (tgt := 21) hx hb dX5_mark_8 (by decide) (fun c_2 => ?_) (fun c_2 => ?_)
  · rw [if_pos c_2] at hf
    refine lv_iconst (v := (-1 : Int32)) hx hb dX5_mark_21 (by decide) ?_
    obtain ⟨rfl, rfl⟩ := sp2 hf
    exact kret _ _ _ _ dX5_mark_22 hP hS trivial
  rw [if_neg c_2] at hf
  refine lv_iload_n hx hb dX5_mark_11 rfl (lv_at hl 2 rfl) ?_
  refine lv_if_le (tgt := 21) hx hb dX5_mark_12 (by decide) (fun c_3 => ?_) (fun c_3 => ?_)
  · rw [if_pos c_3] at hf
    refine lv_iconst (v := (-1 : Int32)) hx hb dX5_mark_21 (by decide) ?_
    obtain ⟨rfl, rfl⟩ := sp2 hf
    exact kret _ _ _ _ dX5_mark_22 hP hS trivial
  rw [if_neg c_3] at hf
  refine lv_iload_n hx hb dX5_mark_15 rfl (lv_at hl 2 rfl) ?_
  refine lv_bipush (v := (6 : Int32)) hx hb dX5_mark_16 (by decide) ?_
  refine lv_icmp_lt (tgt := 23) hx hb dX5_mark_18 (by decide) (fun c_4 => ?_) (fun c_4 => ?_)
  · rw [if_pos c_4] at hf
    refine lv_aload_n hx hb dX5_mark_23 rfl (lv_at hl 0 rfl) ?_
    refine r_get hx hb hts hown hC hP hinX5 0 (by decide) (ci := 4) rfl (by decide) rfl 3 (by decide) (hts (.fieldLink RX5 31 "LoafParts" "table" "LLoafParts$Table;") (by decide +kernel)) (v := .ref (aD g 11)) rfl dX5_mark_24 ?_
    refine r_getN hx hb hts hown hC hP hinX4 11 (by decide) (ci := 3) rfl (by decide) rfl 5 (by decide) 1 rfl (v := .ref (aD g 13)) rfl dX5_mark_27 ?_
    refine lv_iload_n hx hb dX5_mark_30 rfl (lv_at hl 1 rfl) ?_
    obtain ⟨hi_5, hf⟩ := ix_ex hf
    refine r_ald hx hb hC hP 13 (by decide) rfl hi_5 dX5_mark_31 ?_
    obtain ⟨x3_6, ex3_6, hf⟩ := lt_ex hf
    refine r_nm ex3_6 ?_
    refine lv_istore_n (lv' := [(3, .int x3_6), (0, .ref (aD g 0)), (1, .int x1), (2, .int x2)]) hx hb dX5_mark_32 rfl hl (by decide) rfl (fun ls hl => ?_)
    refine lv_iload_n hx hb dX5_mark_33 rfl (lv_at hl 0 rfl) ?_
    refine lv_iload_n hx hb dX5_mark_34 rfl (lv_at hl 3 rfl) ?_
    refine r_Si (As := [.int x3_6, .int x2]) (rest := []) ⟨hx, hb, hml, hown, hts⟩ hC hP hS (c_X0_isOf l g u x3_6 x2 rfl) (va_cwS 2 hts gX5_mark_X0_isOf rfl rfl rfl (by decide +kernel) ⟨(Nat.le_trans (Nat.le_of_ble_eq_true rfl) hRf), (Nat.le_trans (Nat.le_of_ble_eq_true rfl) hRl)⟩) rfl hl.1 rfl (Nat.le_of_ble_eq_true rfl) dX5_mark_35 (fun H locs hP hS => ?_)
    refine lv_if_ne (tgt := 47) hx hb dX5_mark_38 (by decide) (fun c_7 => ?_) (fun c_7 => ?_)
    · rw [if_neg c_7] at hf
      refine lv_iload_n hx hb dX5_mark_47 rfl (lv_at hl 0 rfl) ?_
      refine r_Si (As := [.int x3_6]) (rest := []) ⟨hx, hb, hml, hown, hts⟩ hC hP hS (c_X0_partsOf l g u x3_6 rfl) (va_cwS 1 hts gX5_mark_X0_partsOf rfl rfl rfl (by decide +kernel) ⟨(Nat.le_trans (Nat.le_of_ble_eq_true rfl) hRf), (Nat.le_trans (Nat.le_of_ble_eq_true rfl) hRl)⟩) rfl hl.1 rfl (Nat.le_of_ble_eq_true rfl) dX5_mark_48 (fun H locs hP hS => ?_)
      obtain ⟨x4_8, ex4_8, hf⟩ := lt_ex hf
      refine r_nm ex4_8 ?_
      refine lv_istore (lv' := [(4, .int x4_8), (3, .int x3_6), (0, .ref (aD g 0)), (1, .int x1), (2, .int x2)]) hx hb dX5_mark_51 hl (by decide) rfl (fun ls hl => ?_)
      refine lv_iload_n hx hb dX5_mark_53 rfl (lv_at hl 4 rfl) ?_
      by_cases s_9 : x2 = (1 : Int32)
      · rw [if_pos s_9] at hf
        refine r_tin (tgt := 84) hx hb (1 : Int32) 30 s_9 dX5_mark_54 (by decide) ?_
        refine lv_iload hx hb dX5_mark_84 (lv_at hl 0 rfl) ?_
        refine r_Si (As := [.int x4_8]) (rest := []) ⟨hx, hb, hml, hown, hts⟩ hC hP hS (c_J6_bitCount_0f7a4 l g u x4_8 rfl) (va_cwS 1 hts gX5_mark_J6_bitCount_0f7a4 rfl rfl rfl (by decide +kernel) ⟨(Nat.le_trans (Nat.le_of_ble_eq_true rfl) hRf), (Nat.le_trans (Nat.le_of_ble_eq_true rfl) hRl)⟩) rfl hl.1 rfl (Nat.le_of_ble_eq_true rfl) dX5_mark_86 (fun H locs hP hS => ?_)
        obtain ⟨rfl, rfl⟩ := sp2 hf
        exact kret _ _ _ _ dX5_mark_89 hP hS trivial
      rw [if_neg s_9] at hf
      by_cases s_10 : x2 = (2 : Int32)
      · rw [if_pos s_10] at hf
        refine r_tin (tgt := 90) hx hb (2 : Int32) 36 s_10 dX5_mark_54 (by decide) ?_
        refine lv_aload_n hx hb dX5_mark_90 rfl (lv_at hl 2 rfl) ?_
        refine r_get hx hb hts hown hC hP hinX5 0 (by decide) (ci := 4) rfl (by decide) rfl 3 (by decide) (hts (.fieldLink RX5 31 "LoafParts" "table" "LLoafParts$Table;") (by decide +kernel)) (v := .ref (aD g 11)) rfl dX5_mark_91 ?_
        refine r_getN hx hb hts hown hC hP hinX4 11 (by decide) (ci := 3) rfl (by decide) rfl 4 (by decide) 2 rfl (v := .int (ui u 11 4)) rfl dX5_mark_94 ?_
        refine lv_iload hx hb dX5_mark_97 (lv_at hl 0 rfl) ?_
        refine lv_iand hx hb dX5_mark_99 ?_
        refine r_Si (As := [.int ((ui u 11 4) &&& x4_8)]) (rest := []) ⟨hx, hb, hml, hown, hts⟩ hC hP hS (c_J6_bitCount_0f7a4 l g u ((ui u 11 4) &&& x4_8) rfl) (va_cwS 1 hts gX5_mark_J6_bitCount_0f7a4 rfl rfl rfl (by decide +kernel) ⟨(Nat.le_trans (Nat.le_of_ble_eq_true rfl) hRf), (Nat.le_trans (Nat.le_of_ble_eq_true rfl) hRl)⟩) rfl hl.1 rfl (Nat.le_of_ble_eq_true rfl) dX5_mark_100 (fun H locs hP hS => ?_)
        obtain ⟨rfl, rfl⟩ := sp2 hf
        exact kret _ _ _ _ dX5_mark_103 hP hS trivial
      rw [if_neg s_10] at hf
      by_cases s_11 : x2 = (3 : Int32)
      · rw [if_pos s_11] at hf
        refine r_tin (tgt := 104) hx hb (3 : Int32) 50 s_11 dX5_mark_54 (by decide) ?_
        refine lv_aload_n hx hb dX5_mark_104 rfl (lv_at hl 2 rfl) ?_
        refine r_get hx hb hts hown hC hP hinX5 0 (by decide) (ci := 4) rfl (by decide) rfl 3 (by decide) (hts (.fieldLink RX5 31 "LoafParts" "table" "LLoafParts$Table;") (by decide +kernel)) (v := .ref (aD g 11)) rfl dX5_mark_105 ?_
        refine r_getN hx hb hts hown hC hP hinX4 11 (by decide) (ci := 3) rfl (by decide) rfl 4 (by decide) 2 rfl (v := .int (ui u 11 4)) rfl dX5_mark_108 ?_
        refine lv_iload hx hb dX5_mark_111 (lv_at hl 0 rfl) ?_
        refine lv_iconst (v := (-1 : Int32)) hx hb dX5_mark_113 (by decide) ?_
        refine lv_ixor hx hb dX5_mark_114 ?_
        refine lv_iand hx hb dX5_mark_115 ?_
        refine r_Si (As := [.int ((ui u 11 4) &&& (x4_8 ^^^ (-1 : Int32)))]) (rest := []) ⟨hx, hb, hml, hown, hts⟩ hC hP hS (c_J6_bitCount_0f7a4 l g u ((ui u 11 4) &&& (x4_8 ^^^ (-1 : Int32))) rfl) (va_cwS 1 hts gX5_mark_J6_bitCount_0f7a4 rfl rfl rfl (by decide +kernel) ⟨(Nat.le_trans (Nat.le_of_ble_eq_true rfl) hRf), (Nat.le_trans (Nat.le_of_ble_eq_true rfl) hRl)⟩) rfl hl.1 rfl (Nat.le_of_ble_eq_true rfl) dX5_mark_116 (fun H locs hP hS => ?_)
        obtain ⟨rfl, rfl⟩ := sp2 hf
        exact kret _ _ _ _ dX5_mark_119 hP hS trivial
      rw [if_neg s_11] at hf
      by_cases s_12 : x2 = (4 : Int32)
      · rw [if_pos s_12] at hf
        refine r_tin (tgt := 120) hx hb (4 : Int32) 66 s_12 dX5_mark_54 (by decide) ?_
        refine lv_iload hx hb dX5_mark_120 (lv_at hl 0 rfl) ?_
        refine r_Si (As := [.int x4_8]) (rest := []) ⟨hx, hb, hml, hown, hts⟩ hC hP hS (c_J6_bitCount_0f7a4 l g u x4_8 rfl) (va_cwS 1 hts gX5_mark_J6_bitCount_0f7a4 rfl rfl rfl (by decide +kernel) ⟨(Nat.le_trans (Nat.le_of_ble_eq_true rfl) hRf), (Nat.le_trans (Nat.le_of_ble_eq_true rfl) hRl)⟩) rfl hl.1 rfl (Nat.le_of_ble_eq_true rfl) dX5_mark_122 (fun H locs hP hS => ?_)
        refine lv_ldc (v := (65812 : Int32)) hx hb hown (hts (.constant RX5 145 (65812)) (by decide +kernel)) dX5_mark_125 ?_
        refine r_Si (As := [.int (65812 : Int32)]) (rest := [.int (f_J6_bitCount_0f7a4 x4_8)]) ⟨hx, hb, hml, hown, hts⟩ hC hP hS (c_J6_bitCount_0f7a4 l g u (65812 : Int32) rfl) (va_cwS 1 hts gX5_mark_J6_bitCount_0f7a4 rfl rfl rfl (by decide +kernel) ⟨(Nat.le_trans (Nat.le_of_ble_eq_true rfl) hRf), (Nat.le_trans (Nat.le_of_ble_eq_true rfl) hRl)⟩) rfl hl.1 rfl (Nat.le_of_ble_eq_true rfl) dX5_mark_127 (fun H locs hP hS => ?_)
        refine lv_isub hx hb dX5_mark_130 ?_
        obtain ⟨rfl, rfl⟩ := sp2 hf
        exact kret _ _ _ _ dX5_mark_131 hP hS trivial
      rw [if_neg s_12] at hf
      refine lv_tableOut (tgt := 132) hx hb dX5_mark_54 (tsw_out 1 4 4 [(1 : Int32), (2 : Int32), (3 : Int32), (4 : Int32)] (by decide) (by decide) (by decide) (List.forall_mem_cons.mpr ⟨s_9, (List.forall_mem_cons.mpr ⟨s_10, (List.forall_mem_cons.mpr ⟨s_11, (List.forall_mem_cons.mpr ⟨s_12, (fun _ h => absurd h List.not_mem_nil)⟩)⟩)⟩)⟩)) (by decide) ?_
      refine lv_ldc (v := (131056 : Int32)) hx hb hown (hts (.constant RX5 146 (131056)) (by decide +kernel)) dX5_mark_132 ?_
      refine r_Si (As := [.int (131056 : Int32)]) (rest := []) ⟨hx, hb, hml, hown, hts⟩ hC hP hS (c_J6_bitCount_0f7a4 l g u (131056 : Int32) rfl) (va_cwS 1 hts gX5_mark_J6_bitCount_0f7a4 rfl rfl rfl (by decide +kernel) ⟨(Nat.le_trans (Nat.le_of_ble_eq_true rfl) hRf), (Nat.le_trans (Nat.le_of_ble_eq_true rfl) hRl)⟩) rfl hl.1 rfl (Nat.le_of_ble_eq_true rfl) dX5_mark_134 (fun H locs hP hS => ?_)
      refine lv_iload hx hb dX5_mark_137 (lv_at hl 0 rfl) ?_
      refine r_Si (As := [.int x4_8]) (rest := [.int (f_J6_bitCount_0f7a4 (131056 : Int32))]) ⟨hx, hb, hml, hown, hts⟩ hC hP hS (c_J6_bitCount_0f7a4 l g u x4_8 rfl) (va_cwS 1 hts gX5_mark_J6_bitCount_0f7a4 rfl rfl rfl (by decide +kernel) ⟨(Nat.le_trans (Nat.le_of_ble_eq_true rfl) hRf), (Nat.le_trans (Nat.le_of_ble_eq_true rfl) hRl)⟩) rfl hl.1 rfl (Nat.le_of_ble_eq_true rfl) dX5_mark_139 (fun H locs hP hS => ?_)
      refine lv_isub hx hb dX5_mark_142 ?_
      obtain ⟨rfl, rfl⟩ := sp2 hf
      exact kret _ _ _ _ dX5_mark_143 hP hS trivial
    rw [if_pos c_7] at hf
    refine lv_aload_n hx hb dX5_mark_41 rfl (lv_at hl 1 rfl) ?_
    refine lv_iconst (v := (3 : Int32)) hx hb dX5_mark_42 (by decide) ?_
    obtain ⟨q_13, hq_13, hf⟩ := bind_ex hf
    refine r_Vi (r := q_13.1) (u' := q_13.2) (As := [.int (3 : Int32)]) (rest := []) (k := 0) (ci := 4) ⟨hx, hb, hml, hown, hts⟩ hC hP hS (by decide) rfl (by decide) rfl (c_X5_found l g u (3 : Int32) hq_13) (cwV 1 hts gX5_mark_X5_found rfl rfl rfl (by decide +kernel) ⟨(Nat.le_trans (Nat.le_of_ble_eq_true rfl) hRf), (Nat.le_trans (Nat.le_of_ble_eq_true rfl) hRl)⟩) rfl hl.1 rfl (Nat.le_of_ble_eq_true rfl) dX5_mark_43 (fun H locs hP hS => ?_)
    obtain ⟨rfl, rfl⟩ := sp2 hf
    exact kret _ _ _ _ dX5_mark_46 hP hS trivial
  rw [if_neg c_4] at hf
  refine lv_iconst (v := (-1 : Int32)) hx hb dX5_mark_21 (by decide) ?_
  obtain ⟨rfl, rfl⟩ := sp2 hf
  exact kret _ _ _ _ dX5_mark_22 hP hS trivial
set_option maxHeartbeats 4000000 in
set_option maxRecDepth 100000 in
theorem c_X5_isPart (l : Launch) (g : GG) (u : UU) (x0 : Int32) {r : Int32} (hf : f_X5_isPart x0 = r) : Ci l g 0 55 yX5_isPart wsX5_isPart 0 0 [.int x0] u r u := by
  refine ct_z (cc := cX5_isPart) (maxL := 1) (by decide) rfl (Nat.le_of_ble_eq_true rfl) ?_
  intro p e s m args below meth c R Q ls hx hb hml hown hts hC hP hl hRf hRl kret hS
  have hown : s.vm.findClass RX5 = some m.cls := hown
  have hl : lv_has ls 1 [(0, .int x0)] := hl
  unfold f_X5_isPart at hf
  refine lv_iload_n hx hb dX5_isPart_0 rfl (lv_at hl 0 rfl) ?_
  refine lv_iconst (v := (2 : Int32)) hx hb dX5_isPart_1 (by decide) ?_
  refine lv_icmp_lt (tgt := 15) hx hb dX5_isPart_2 (by decide) (fun c_1 => ?_) (fun c_1 => ?_)
  · rw [if_pos c_1] at hf
    refine lv_iconst (v := (0 : Int32)) hx hb dX5_isPart_15 (by decide) ?_
    obtain rfl := hf
    exact kret _ _ _ _ dX5_isPart_16 hP hS rfl
  rw [if_neg c_1] at hf
  refine lv_iload_n hx hb dX5_isPart_5 rfl (lv_at hl 0 rfl) ?_
  refine lv_bipush (v := (16 : Int32)) hx hb dX5_isPart_6 (by decide) ?_
  refine lv_icmp_gt (tgt := 15) hx hb dX5_isPart_8 (by decide) (fun c_2 => ?_) (fun c_2 => ?_)
  · rw [if_pos c_2] at hf
    refine lv_iconst (v := (0 : Int32)) hx hb dX5_isPart_15 (by decide) ?_
    obtain rfl := hf
    exact kret _ _ _ _ dX5_isPart_16 hP hS rfl
  rw [if_neg c_2] at hf
  refine lv_iconst (v := (1 : Int32)) hx hb dX5_isPart_11 (by decide) ?_
  refine lv_goto (tgt := 16) hx hb dX5_isPart_12 (by decide) ?_
  obtain rfl := hf
  exact kret _ _ _ _ dX5_isPart_16 hP hS rfl
set_option maxHeartbeats 4000000 in
set_option maxRecDepth 100000 in
theorem c_X5_holds (l : Launch) (g : GG) (u : UU) (x0 : Int32) (x1 : Int32) {r : Int32} (hf : f_X5_holds x0 x1 = r) : Ci l g 0 55 yX5_holds wsX5_holds 0 0 [.int x0, .int x1] u r u := by
  refine ct_z (cc := cX5_holds) (maxL := 2) (by decide) rfl (Nat.le_of_ble_eq_true rfl) ?_
  intro p e s m args below meth c R Q ls hx hb hml hown hts hC hP hl hRf hRl kret hS
  have hown : s.vm.findClass RX5 = some m.cls := hown
  have hl : lv_has ls 2 [(0, .int x0), (1, .int x1)] := hl
  unfold f_X5_holds at hf
  refine lv_iload_n hx hb dX5_holds_0 rfl (lv_at hl 0 rfl) ?_
  refine lv_iload_n hx hb dX5_holds_1 rfl (lv_at hl 1 rfl) ?_
  refine lv_ishr hx hb dX5_holds_2 ?_
  refine lv_iconst (v := (1 : Int32)) hx hb dX5_holds_3 (by decide) ?_
  refine lv_iand hx hb dX5_holds_4 ?_
  refine lv_if_eq (tgt := 12) hx hb dX5_holds_5 (by decide) (fun c_1 => ?_) (fun c_1 => ?_)
  · rw [if_pos c_1] at hf
    refine lv_iconst (v := (0 : Int32)) hx hb dX5_holds_12 (by decide) ?_
    obtain rfl := hf
    exact kret _ _ _ _ dX5_holds_13 hP hS rfl
  rw [if_neg c_1] at hf
  refine lv_iconst (v := (1 : Int32)) hx hb dX5_holds_8 (by decide) ?_
  refine lv_goto (tgt := 13) hx hb dX5_holds_9 (by decide) ?_
  obtain rfl := hf
  exact kret _ _ _ _ dX5_holds_13 hP hS rfl
set_option maxHeartbeats 4000000 in
set_option maxRecDepth 100000 in
theorem c_X5_takes (l : Launch) (g : GG) (u : UU) (x1 : Int32) (x2 : Int32) {r : Int32} (hf : f_X5_takes x1 x2 u = some r) : Ci l g 0 55 yX5_takes wsX5_takes 1 21 [.ref (aD g 0), .int x1, .int x2] u r u := by
  refine ct_i (cc := cX5_takes) (maxL := 3) (by decide) rfl (Nat.le_of_ble_eq_true rfl) ?_
  intro p e s m args below meth c R Q ls hx hb hml hown hts hC hP hl hRf hRl kret hS
  have hown : s.vm.findClass RX5 = some m.cls := hown
  have hl : lv_has ls 3 [(0, .ref (aD g 0)), (1, .int x1), (2, .int x2)] := hl
  have hinX4 : ∀ w ∈ u_ws RX4 TX4 13, w ∈ wsX5_takes := by decide +kernel
  have hinX5 : ∀ w ∈ u_ws RX5 TX5 12, w ∈ wsX5_takes := by decide +kernel
  unfold f_X5_takes at hf
  refine lv_aload_n hx hb dX5_takes_0 rfl (lv_at hl 0 rfl) ?_
  refine r_get hx hb hts hown hC hP hinX5 0 (by decide) (ci := 4) rfl (by decide) rfl 3 (by decide) (hts (.fieldLink RX5 31 "LoafParts" "table" "LLoafParts$Table;") (by decide +kernel)) (v := .ref (aD g 11)) rfl dX5_takes_1 ?_
  refine lv_iload_n hx hb dX5_takes_4 rfl (lv_at hl 1 rfl) ?_
  obtain ⟨q_1, hq_1, hf⟩ := bind_ex hf
  refine r_Vi (As := [.int x1]) (rest := []) (k := 11) (ci := 3) ⟨hx, hb, hml, hown, hts⟩ hC hP hS (by decide) rfl (by decide) rfl (c_X4_isWorker l g u x1 hq_1) (cwV 1 hts gX5_takes_X4_isWorker rfl rfl rfl (by decide +kernel) ⟨(Nat.le_trans (Nat.le_of_ble_eq_true rfl) hRf), (Nat.le_trans (Nat.le_of_ble_eq_true rfl) hRl)⟩) rfl hl.1 rfl (Nat.le_of_ble_eq_true rfl) dX5_takes_5 (fun H locs hP hS => ?_)
  refine lv_if_eq (tgt := 18) hx hb dX5_takes_8 (by decide) (fun c_2 => ?_) (fun c_2 => ?_)
  · rw [if_pos c_2] at hf
    refine lv_iconst (v := (-1 : Int32)) hx hb dX5_takes_18 (by decide) ?_
    obtain rfl := sp1 hf
    exact kret _ _ _ _ dX5_takes_19 hP hS trivial
  rw [if_neg c_2] at hf
  refine lv_iload_n hx hb dX5_takes_11 rfl (lv_at hl 2 rfl) ?_
  refine r_Si (As := [.int x2]) (rest := []) ⟨hx, hb, hml, hown, hts⟩ hC hP hS (c_X5_isPart l g u x2 rfl) (va_cwS 1 hts gX5_takes_X5_isPart rfl rfl rfl (by decide +kernel) ⟨(Nat.le_trans (Nat.le_of_ble_eq_true rfl) hRf), (Nat.le_trans (Nat.le_of_ble_eq_true rfl) hRl)⟩) rfl hl.1 rfl (Nat.le_of_ble_eq_true rfl) dX5_takes_12 (fun H locs hP hS => ?_)
  refine lv_if_ne (tgt := 20) hx hb dX5_takes_15 (by decide) (fun c_3 => ?_) (fun c_3 => ?_)
  · rw [if_neg c_3] at hf
    refine lv_aload_n hx hb dX5_takes_20 rfl (lv_at hl 0 rfl) ?_
    refine r_get hx hb hts hown hC hP hinX5 0 (by decide) (ci := 4) rfl (by decide) rfl 3 (by decide) (hts (.fieldLink RX5 31 "LoafParts" "table" "LLoafParts$Table;") (by decide +kernel)) (v := .ref (aD g 11)) rfl dX5_takes_21 ?_
    refine r_getN hx hb hts hown hC hP hinX4 11 (by decide) (ci := 3) rfl (by decide) rfl 5 (by decide) 1 rfl (v := .ref (aD g 13)) rfl dX5_takes_24 ?_
    refine lv_iload_n hx hb dX5_takes_27 rfl (lv_at hl 1 rfl) ?_
    obtain ⟨hi_4, hf⟩ := ix_ex hf
    refine r_ald hx hb hC hP 13 (by decide) rfl hi_4 dX5_takes_28 ?_
    refine r_Si (As := [.int (ui u 13 (x1 : Int32).toNatClampNeg)]) (rest := []) ⟨hx, hb, hml, hown, hts⟩ hC hP hS (c_X0_partsOf l g u (ui u 13 (x1 : Int32).toNatClampNeg) rfl) (va_cwS 1 hts gX5_takes_X0_partsOf rfl rfl rfl (by decide +kernel) ⟨(Nat.le_trans (Nat.le_of_ble_eq_true rfl) hRf), (Nat.le_trans (Nat.le_of_ble_eq_true rfl) hRl)⟩) rfl hl.1 rfl (Nat.le_of_ble_eq_true rfl) dX5_takes_29 (fun H locs hP hS => ?_)
    refine lv_iload_n hx hb dX5_takes_32 rfl (lv_at hl 2 rfl) ?_
    refine r_Si (As := [.int (f_X0_partsOf (ui u 13 (x1 : Int32).toNatClampNeg)), .int x2]) (rest := []) ⟨hx, hb, hml, hown, hts⟩ hC hP hS (c_X5_holds l g u (f_X0_partsOf (ui u 13 (x1 : Int32).toNatClampNeg)) x2 rfl) (va_cwS 2 hts gX5_takes_X5_holds rfl rfl rfl (by decide +kernel) ⟨(Nat.le_trans (Nat.le_of_ble_eq_true rfl) hRf), (Nat.le_trans (Nat.le_of_ble_eq_true rfl) hRl)⟩) rfl hl.1 rfl (Nat.le_of_ble_eq_true rfl) dX5_takes_33 (fun H locs hP hS => ?_)
    refine lv_if_eq (tgt := 43) hx hb dX5_takes_36 (by decide) (fun c_5 => ?_) (fun c_5 => ?_)
    · rw [if_pos c_5] at hf
      refine lv_iconst (v := (0 : Int32)) hx hb dX5_takes_43 (by decide) ?_
      obtain rfl := sp1 hf
      exact kret _ _ _ _ dX5_takes_44 hP hS trivial
    rw [if_neg c_5] at hf
    refine lv_iconst (v := (1 : Int32)) hx hb dX5_takes_39 (by decide) ?_
    refine lv_goto (tgt := 44) hx hb dX5_takes_40 (by decide) ?_
    obtain rfl := sp1 hf
    exact kret _ _ _ _ dX5_takes_44 hP hS trivial
  rw [if_pos c_3] at hf
  refine lv_iconst (v := (-1 : Int32)) hx hb dX5_takes_18 (by decide) ?_
  obtain rfl := sp1 hf
  exact kret _ _ _ _ dX5_takes_19 hP hS trivial
set_option maxHeartbeats 4000000 in
set_option maxRecDepth 100000 in
theorem c_X4_canCut (l : Launch) (g : GG) (u : UU) {r : Int32} (hf : f_X4_canCut u = some r) : Ci l g 0 55 yX4_canCut wsX4_canCut 0 0 [.ref (aD g 11)] u r u := by
  refine ct_z (cc := cX4_canCut) (maxL := 1) (by decide) rfl (Nat.le_of_ble_eq_true rfl) ?_
  intro p e s m args below meth c R Q ls hx hb hml hown hts hC hP hl hRf hRl kret hS
  have hown : s.vm.findClass RX4 = some m.cls := hown
  have hl : lv_has ls 1 [(0, .ref (aD g 11))] := hl
  have hinX4 : ∀ w ∈ u_ws RX4 TX4 13, w ∈ wsX4_canCut := by decide +kernel
  unfold f_X4_canCut at hf
  refine lv_aload_n hx hb dX4_canCut_0 rfl (lv_at hl 0 rfl) ?_
  refine r_get hx hb hts hown hC hP hinX4 11 (by decide) (ci := 3) rfl (by decide) rfl 1 (by decide) (hts (.fieldLink RX4 43 "LoafParts$Table" "loaves" "I") (by decide +kernel)) (v := .int (ui u 11 1)) rfl dX4_canCut_1 ?_
  refine lv_if_le (tgt := 11) hx hb dX4_canCut_4 (by decide) (fun c_1 => ?_) (fun c_1 => ?_)
  · rw [if_pos c_1] at hf
    refine lv_iconst (v := (0 : Int32)) hx hb dX4_canCut_11 (by decide) ?_
    obtain rfl := sp1 hf
    exact kret _ _ _ _ dX4_canCut_12 hP hS rfl
  rw [if_neg c_1] at hf
  refine lv_iconst (v := (1 : Int32)) hx hb dX4_canCut_7 (by decide) ?_
  refine lv_goto (tgt := 12) hx hb dX4_canCut_8 (by decide) ?_
  obtain rfl := sp1 hf
  exact kret _ _ _ _ dX4_canCut_12 hP hS rfl
set_option maxHeartbeats 4000000 in
set_option maxRecDepth 100000 in
theorem c_X4_hasRoomFor (l : Launch) (g : GG) (u : UU) (x1 : Int32) {r : Int32} (hf : f_X4_hasRoomFor x1 u = some r) : Ci l g 0 55 yX4_hasRoomFor wsX4_hasRoomFor 0 0 [.ref (aD g 11), .int x1] u r u := by
  refine ct_z (cc := cX4_hasRoomFor) (maxL := 2) (by decide) rfl (Nat.le_of_ble_eq_true rfl) ?_
  intro p e s m args below meth c R Q ls hx hb hml hown hts hC hP hl hRf hRl kret hS
  have hown : s.vm.findClass RX4 = some m.cls := hown
  have hl : lv_has ls 2 [(0, .ref (aD g 11)), (1, .int x1)] := hl
  have hinX4 : ∀ w ∈ u_ws RX4 TX4 13, w ∈ wsX4_hasRoomFor := by decide +kernel
  unfold f_X4_hasRoomFor at hf
  refine lv_aload_n hx hb dX4_hasRoomFor_0 rfl (lv_at hl 0 rfl) ?_
  refine r_get hx hb hts hown hC hP hinX4 11 (by decide) (ci := 3) rfl (by decide) rfl 2 (by decide) (hts (.fieldLink RX4 46 "LoafParts$Table" "deeds" "I") (by decide +kernel)) (v := .int (ui u 11 2)) rfl dX4_hasRoomFor_1 ?_
  refine lv_iload_n hx hb dX4_hasRoomFor_4 rfl (lv_at hl 1 rfl) ?_
  refine lv_iadd hx hb dX4_hasRoomFor_5 ?_
  refine lv_bipush (v := (40 : Int32)) hx hb dX4_hasRoomFor_6 (by decide) ?_
  refine lv_icmp_gt (tgt := 15) hx hb dX4_hasRoomFor_8 (by decide) (fun c_1 => ?_) (fun c_1 => ?_)
  · rw [if_pos c_1] at hf
    refine lv_iconst (v := (0 : Int32)) hx hb dX4_hasRoomFor_15 (by decide) ?_
    obtain rfl := sp1 hf
    exact kret _ _ _ _ dX4_hasRoomFor_16 hP hS rfl
  rw [if_neg c_1] at hf
  refine lv_iconst (v := (1 : Int32)) hx hb dX4_hasRoomFor_11 (by decide) ?_
  refine lv_goto (tgt := 16) hx hb dX4_hasRoomFor_12 (by decide) ?_
  obtain rfl := sp1 hf
  exact kret _ _ _ _ dX4_hasRoomFor_16 hP hS rfl
set_option maxHeartbeats 4000000 in
set_option maxRecDepth 100000 in
theorem c_X4_changeLying (l : Launch) (g : GG) (u : UU) (x1 : Int32) (x2 : Int32) {u' : UU} (hf : f_X4_changeLying x1 x2 u = some u') : Cv l g 0 55 yX4_changeLying wsX4_changeLying 0 0 [.ref (aD g 11), .int x1, .int x2] u u' := by
  refine ct_v (cc := cX4_changeLying) (maxL := 3) (by decide) rfl (Nat.le_of_ble_eq_true rfl) ?_
  intro p e s m args below meth c R Q ls hx hb hml hown hts hC hP hl hRf hRl kret hS
  have hown : s.vm.findClass RX4 = some m.cls := hown
  have hl : lv_has ls 3 [(0, .ref (aD g 11)), (1, .int x1), (2, .int x2)] := hl
  have hinX4 : ∀ w ∈ u_ws RX4 TX4 13, w ∈ wsX4_changeLying := by decide +kernel
  have w_41 : ∀ (t0 : Int32) (u : UU) (H : Heap) (locs : List Loc) (ls : Array Slot), Ps g 0 55 u H → va_S (aA g) s.heap H locs → lv_has ls 3 [] → f_X4_changeLying_41 t0 u = some u' → W p l e R s m args below meth c H locs 0 0 Q (F0 m 41 ls [.int t0, .ref (aD g 11)]) := by
    intro t0 u H locs ls hP hS hl hf
    unfold f_X4_changeLying_41 at hf
    obtain ⟨u_6, eu_6, hf⟩ := lt_ex hf
    refine r_puti hx hb hts hown hC hP hS hinX4 tyX4 tyX4_ok nmX4 11 (by decide) (ci := 3) rfl (by decide) rfl 4 (by decide) (hts (.fieldLink RX4 49 "LoafParts$Table" "lyingSet" "I") (by decide +kernel)) rfl (ty := .int) (by decide +kernel) rfl rfl (by decide) (by decide) eu_6 dX4_changeLying_41 (fun H locs hP hS => ?_)
    obtain rfl := sp1 hf
    exact kret _ _ _ _ dX4_changeLying_44 hP hS trivial
  unfold f_X4_changeLying at hf
  refine lv_aload_n hx hb dX4_changeLying_0 rfl (lv_at hl 0 rfl) ?_
  refine r_get hx hb hts hown hC hP hinX4 11 (by decide) (ci := 3) rfl (by decide) rfl 3 (by decide) (hts (.fieldLink RX4 9 "LoafParts$Table" "lying" "[I") (by decide +kernel)) (v := .ref (aD g 12)) rfl dX4_changeLying_1 ?_
  refine lv_iload_n hx hb dX4_changeLying_4 rfl (lv_at hl 1 rfl) ?_
  refine lv_dup2_11 hx hb dX4_changeLying_5 rfl rfl ?_
  obtain ⟨hi_1, hf⟩ := ix_ex hf
  refine r_ald hx hb hC hP 12 (by decide) rfl hi_1 dX4_changeLying_6 ?_
  refine lv_iload_n hx hb dX4_changeLying_7 rfl (lv_at hl 2 rfl) ?_
  refine lv_iadd hx hb dX4_changeLying_8 ?_
  obtain ⟨hi_2, hf⟩ := ix_ex hf
  obtain ⟨u_3, eu_3, hf⟩ := lt_ex hf
  refine r_ast hx hb hC hP hS 12 (by decide) rfl hi_2 eu_3 dX4_changeLying_9 (fun H locs hP hS => ?_)
  refine lv_aload_n hx hb dX4_changeLying_10 rfl (lv_at hl 0 rfl) ?_
  refine lv_aload_n hx hb dX4_changeLying_11 rfl (lv_at hl 0 rfl) ?_
  refine r_get hx hb hts hown hC hP hinX4 11 (by decide) (ci := 3) rfl (by decide) rfl 3 (by decide) (hts (.fieldLink RX4 9 "LoafParts$Table" "lying" "[I") (by decide +kernel)) (v := .ref (aD g 12)) rfl dX4_changeLying_12 ?_
  refine lv_iload_n hx hb dX4_changeLying_15 rfl (lv_at hl 1 rfl) ?_
  obtain ⟨hi_4, hf⟩ := ix_ex hf
  refine r_ald hx hb hC hP 12 (by decide) rfl hi_4 dX4_changeLying_16 ?_
  refine lv_if_le (tgt := 31) hx hb dX4_changeLying_17 (by decide) (fun c_5 => ?_) (fun c_5 => ?_)
  · rw [if_pos c_5] at hf
    refine lv_aload_n hx hb dX4_changeLying_31 rfl (lv_at hl 0 rfl) ?_
    refine r_get hx hb hts hown hC hP hinX4 11 (by decide) (ci := 3) rfl (by decide) rfl 4 (by decide) (hts (.fieldLink RX4 49 "LoafParts$Table" "lyingSet" "I") (by decide +kernel)) (v := .int (ui u_3 11 4)) rfl dX4_changeLying_32 ?_
    refine lv_iconst (v := (1 : Int32)) hx hb dX4_changeLying_35 (by decide) ?_
    refine lv_iload_n hx hb dX4_changeLying_36 rfl (lv_at hl 1 rfl) ?_
    refine lv_ishl hx hb dX4_changeLying_37 ?_
    refine lv_iconst (v := (-1 : Int32)) hx hb dX4_changeLying_38 (by decide) ?_
    refine lv_ixor hx hb dX4_changeLying_39 ?_
    refine lv_iand hx hb dX4_changeLying_40 ?_
    exact w_41 ((ui u_3 11 4) &&& (((1 : Int32) <<< (x1 &&& (31 : Int32))) ^^^ (-1 : Int32))) u_3 _ _ _ hP hS (lv_sub hl [] rfl) hf
  rw [if_neg c_5] at hf
  refine lv_aload_n hx hb dX4_changeLying_20 rfl (lv_at hl 0 rfl) ?_
  refine r_get hx hb hts hown hC hP hinX4 11 (by decide) (ci := 3) rfl (by decide) rfl 4 (by decide) (hts (.fieldLink RX4 49 "LoafParts$Table" "lyingSet" "I") (by decide +kernel)) (v := .int (ui u_3 11 4)) rfl dX4_changeLying_21 ?_
  refine lv_iconst (v := (1 : Int32)) hx hb dX4_changeLying_24 (by decide) ?_
  refine lv_iload_n hx hb dX4_changeLying_25 rfl (lv_at hl 1 rfl) ?_
  refine lv_ishl hx hb dX4_changeLying_26 ?_
  refine lv_ior hx hb dX4_changeLying_27 ?_
  refine lv_goto (tgt := 41) hx hb dX4_changeLying_28 (by decide) ?_
  exact w_41 ((ui u_3 11 4) ||| ((1 : Int32) <<< (x1 &&& (31 : Int32)))) u_3 _ _ _ hP hS (lv_sub hl [] rfl) hf
set_option maxHeartbeats 4000000 in
set_option maxRecDepth 100000 in
theorem c_X4_noteDeed (l : Launch) (g : GG) (u : UU) (x1 : Int32) (x2 : Int32) (x3 : Int32) {u' : UU} (hf : f_X4_noteDeed x1 x2 x3 u = some u') : Cv l g 0 55 yX4_noteDeed wsX4_noteDeed 0 0 [.ref (aD g 11), .int x1, .int x2, .int x3] u u' := by
  refine ct_v (cc := cX4_noteDeed) (maxL := 4) (by decide) rfl (Nat.le_of_ble_eq_true rfl) ?_
  intro p e s m args below meth c R Q ls hx hb hml hown hts hC hP hl hRf hRl kret hS
  have hown : s.vm.findClass RX4 = some m.cls := hown
  have hl : lv_has ls 4 [(0, .ref (aD g 11)), (1, .int x1), (2, .int x2), (3, .int x3)] := hl
  have hinX4 : ∀ w ∈ u_ws RX4 TX4 13, w ∈ wsX4_noteDeed := by decide +kernel
  unfold f_X4_noteDeed at hf
  refine lv_aload_n hx hb dX4_noteDeed_0 rfl (lv_at hl 0 rfl) ?_
  refine r_get hx hb hts hown hC hP hinX4 11 (by decide) (ci := 3) rfl (by decide) rfl 2 (by decide) (hts (.fieldLink RX4 46 "LoafParts$Table" "deeds" "I") (by decide +kernel)) (v := .int (ui u 11 2)) rfl dX4_noteDeed_1 ?_
  refine lv_bipush (v := (40 : Int32)) hx hb dX4_noteDeed_4 (by decide) ?_
  refine lv_icmp_ge (tgt := 49) hx hb dX4_noteDeed_6 (by decide) (fun c_1 => ?_) (fun c_1 => ?_)
  · rw [if_pos c_1] at hf
    obtain rfl := sp1 hf
    exact kret _ _ _ _ dX4_noteDeed_49 hP hS trivial
  rw [if_neg c_1] at hf
  refine lv_aload_n hx hb dX4_noteDeed_9 rfl (lv_at hl 0 rfl) ?_
  refine r_get hx hb hts hown hC hP hinX4 11 (by decide) (ci := 3) rfl (by decide) rfl 10 (by decide) (hts (.fieldLink RX4 30 "LoafParts$Table" "deedKind" "[I") (by decide +kernel)) (v := .ref (aD g 18)) rfl dX4_noteDeed_10 ?_
  refine lv_aload_n hx hb dX4_noteDeed_13 rfl (lv_at hl 0 rfl) ?_
  refine r_get hx hb hts hown hC hP hinX4 11 (by decide) (ci := 3) rfl (by decide) rfl 2 (by decide) (hts (.fieldLink RX4 46 "LoafParts$Table" "deeds" "I") (by decide +kernel)) (v := .int (ui u 11 2)) rfl dX4_noteDeed_14 ?_
  refine lv_iload_n hx hb dX4_noteDeed_17 rfl (lv_at hl 1 rfl) ?_
  obtain ⟨hi_2, hf⟩ := ix_ex hf
  obtain ⟨u_3, eu_3, hf⟩ := lt_ex hf
  refine r_ast hx hb hC hP hS 18 (by decide) rfl hi_2 eu_3 dX4_noteDeed_18 (fun H locs hP hS => ?_)
  refine lv_aload_n hx hb dX4_noteDeed_19 rfl (lv_at hl 0 rfl) ?_
  refine r_get hx hb hts hown hC hP hinX4 11 (by decide) (ci := 3) rfl (by decide) rfl 11 (by decide) (hts (.fieldLink RX4 33 "LoafParts$Table" "deedWho" "[I") (by decide +kernel)) (v := .ref (aD g 19)) rfl dX4_noteDeed_20 ?_
  refine lv_aload_n hx hb dX4_noteDeed_23 rfl (lv_at hl 0 rfl) ?_
  refine r_get hx hb hts hown hC hP hinX4 11 (by decide) (ci := 3) rfl (by decide) rfl 2 (by decide) (hts (.fieldLink RX4 46 "LoafParts$Table" "deeds" "I") (by decide +kernel)) (v := .int (ui u_3 11 2)) rfl dX4_noteDeed_24 ?_
  refine lv_iload_n hx hb dX4_noteDeed_27 rfl (lv_at hl 2 rfl) ?_
  obtain ⟨hi_4, hf⟩ := ix_ex hf
  obtain ⟨u_5, eu_5, hf⟩ := lt_ex hf
  refine r_ast hx hb hC hP hS 19 (by decide) rfl hi_4 eu_5 dX4_noteDeed_28 (fun H locs hP hS => ?_)
  refine lv_aload_n hx hb dX4_noteDeed_29 rfl (lv_at hl 0 rfl) ?_
  refine r_get hx hb hts hown hC hP hinX4 11 (by decide) (ci := 3) rfl (by decide) rfl 12 (by decide) (hts (.fieldLink RX4 36 "LoafParts$Table" "deedSize" "[I") (by decide +kernel)) (v := .ref (aD g 20)) rfl dX4_noteDeed_30 ?_
  refine lv_aload_n hx hb dX4_noteDeed_33 rfl (lv_at hl 0 rfl) ?_
  refine r_get hx hb hts hown hC hP hinX4 11 (by decide) (ci := 3) rfl (by decide) rfl 2 (by decide) (hts (.fieldLink RX4 46 "LoafParts$Table" "deeds" "I") (by decide +kernel)) (v := .int (ui u_5 11 2)) rfl dX4_noteDeed_34 ?_
  refine lv_iload_n hx hb dX4_noteDeed_37 rfl (lv_at hl 3 rfl) ?_
  obtain ⟨hi_6, hf⟩ := ix_ex hf
  obtain ⟨u_7, eu_7, hf⟩ := lt_ex hf
  refine r_ast hx hb hC hP hS 20 (by decide) rfl hi_6 eu_7 dX4_noteDeed_38 (fun H locs hP hS => ?_)
  refine lv_aload_n hx hb dX4_noteDeed_39 rfl (lv_at hl 0 rfl) ?_
  refine lv_dup hx hb dX4_noteDeed_40 rfl ?_
  refine r_get hx hb hts hown hC hP hinX4 11 (by decide) (ci := 3) rfl (by decide) rfl 2 (by decide) (hts (.fieldLink RX4 46 "LoafParts$Table" "deeds" "I") (by decide +kernel)) (v := .int (ui u_7 11 2)) rfl dX4_noteDeed_41 ?_
  refine lv_iconst (v := (1 : Int32)) hx hb dX4_noteDeed_44 (by decide) ?_
  refine lv_iadd hx hb dX4_noteDeed_45 ?_
  obtain ⟨u_8, eu_8, hf⟩ := lt_ex hf
  refine r_puti hx hb hts hown hC hP hS hinX4 tyX4 tyX4_ok nmX4 11 (by decide) (ci := 3) rfl (by decide) rfl 2 (by decide) (hts (.fieldLink RX4 46 "LoafParts$Table" "deeds" "I") (by decide +kernel)) rfl (ty := .int) (by decide +kernel) rfl rfl (by decide) (by decide) eu_8 dX4_noteDeed_46 (fun H locs hP hS => ?_)
  obtain rfl := sp1 hf
  exact kret _ _ _ _ dX4_noteDeed_49 hP hS trivial
set_option maxHeartbeats 4000000 in
set_option maxRecDepth 100000 in
theorem c_X4_cutLoaf (l : Launch) (g : GG) (u : UU) (x1 : Int32) {u' : UU} (hf : f_X4_cutLoaf x1 u = some u') : Cv l g 0 55 yX4_cutLoaf wsX4_cutLoaf 1 23 [.ref (aD g 11), .int x1] u u' := by
  refine ct_v (cc := cX4_cutLoaf) (maxL := 2) (by decide) rfl (Nat.le_of_ble_eq_true rfl) ?_
  intro p e s m args below meth c R Q ls hx hb hml hown hts hC hP hl hRf hRl kret hS
  have hown : s.vm.findClass RX4 = some m.cls := hown
  have hl : lv_has ls 2 [(0, .ref (aD g 11)), (1, .int x1)] := hl
  have hinX4 : ∀ w ∈ u_ws RX4 TX4 13, w ∈ wsX4_cutLoaf := by decide +kernel
  unfold f_X4_cutLoaf at hf
  refine lv_aload_n hx hb dX4_cutLoaf_0 rfl (lv_at hl 0 rfl) ?_
  refine lv_dup hx hb dX4_cutLoaf_1 rfl ?_
  refine r_get hx hb hts hown hC hP hinX4 11 (by decide) (ci := 3) rfl (by decide) rfl 1 (by decide) (hts (.fieldLink RX4 43 "LoafParts$Table" "loaves" "I") (by decide +kernel)) (v := .int (ui u 11 1)) rfl dX4_cutLoaf_2 ?_
  refine lv_iconst (v := (1 : Int32)) hx hb dX4_cutLoaf_5 (by decide) ?_
  refine lv_isub hx hb dX4_cutLoaf_6 ?_
  obtain ⟨u_1, eu_1, hf⟩ := lt_ex hf
  refine r_puti hx hb hts hown hC hP hS hinX4 tyX4 tyX4_ok nmX4 11 (by decide) (ci := 3) rfl (by decide) rfl 1 (by decide) (hts (.fieldLink RX4 43 "LoafParts$Table" "loaves" "I") (by decide +kernel)) rfl (ty := .int) (by decide +kernel) rfl rfl (by decide) (by decide) eu_1 dX4_cutLoaf_7 (fun H locs hP hS => ?_)
  refine lv_aload_n hx hb dX4_cutLoaf_10 rfl (lv_at hl 0 rfl) ?_
  refine lv_iload_n hx hb dX4_cutLoaf_11 rfl (lv_at hl 1 rfl) ?_
  refine lv_iload_n hx hb dX4_cutLoaf_12 rfl (lv_at hl 1 rfl) ?_
  obtain ⟨q_2, hq_2, hf⟩ := bind_ex hf
  refine r_Vv (As := [.int x1, .int x1]) (rest := []) (k := 11) (ci := 3) ⟨hx, hb, hml, hown, hts⟩ hC hP hS (by decide) rfl (by decide) rfl (c_X4_changeLying l g u_1 x1 x1 hq_2) (cwV 2 hts gX4_cutLoaf_X4_changeLying rfl rfl rfl (by decide +kernel) ⟨(Nat.le_trans (Nat.le_of_ble_eq_true rfl) hRf), (Nat.le_trans (Nat.le_of_ble_eq_true rfl) hRl)⟩) rfl hl.1 rfl (Nat.le_of_ble_eq_true rfl) dX4_cutLoaf_13 (fun H locs hP hS => ?_)
  refine lv_aload_n hx hb dX4_cutLoaf_16 rfl (lv_at hl 0 rfl) ?_
  refine lv_iconst (v := (1 : Int32)) hx hb dX4_cutLoaf_17 (by decide) ?_
  refine lv_iconst (v := (0 : Int32)) hx hb dX4_cutLoaf_18 (by decide) ?_
  refine lv_iload_n hx hb dX4_cutLoaf_19 rfl (lv_at hl 1 rfl) ?_
  obtain ⟨q_3, hq_3, hf⟩ := bind_ex hf
  refine r_Vv (As := [.int (1 : Int32), .int (0 : Int32), .int x1]) (rest := []) (k := 11) (ci := 3) ⟨hx, hb, hml, hown, hts⟩ hC hP hS (by decide) rfl (by decide) rfl (c_X4_noteDeed l g q_2 (1 : Int32) (0 : Int32) x1 hq_3) (cwV 3 hts gX4_cutLoaf_X4_noteDeed rfl rfl rfl (by decide +kernel) ⟨(Nat.le_trans (Nat.le_of_ble_eq_true rfl) hRf), (Nat.le_trans (Nat.le_of_ble_eq_true rfl) hRl)⟩) rfl hl.1 rfl (Nat.le_of_ble_eq_true rfl) dX4_cutLoaf_20 (fun H locs hP hS => ?_)
  obtain rfl := sp1 hf
  exact kret _ _ _ _ dX4_cutLoaf_23 hP hS trivial
set_option maxHeartbeats 4000000 in
set_option maxRecDepth 100000 in
theorem c_X5_cut (l : Launch) (g : GG) (u : UU) (x1 : Int32) {r : Int32} {u' : UU} (hf : f_X5_cut x1 u = some (r, u')) : Ci l g 0 55 yX5_cut wsX5_cut 2 44 [.ref (aD g 0), .int x1] u r u' := by
  refine ct_i (cc := cX5_cut) (maxL := 2) (by decide) rfl (Nat.le_of_ble_eq_true rfl) ?_
  intro p e s m args below meth c R Q ls hx hb hml hown hts hC hP hl hRf hRl kret hS
  have hown : s.vm.findClass RX5 = some m.cls := hown
  have hl : lv_has ls 2 [(0, .ref (aD g 0)), (1, .int x1)] := hl
  have hinX4 : ∀ w ∈ u_ws RX4 TX4 13, w ∈ wsX5_cut := by decide +kernel
  have hinX5 : ∀ w ∈ u_ws RX5 TX5 12, w ∈ wsX5_cut := by decide +kernel
  unfold f_X5_cut at hf
  refine lv_iload_n hx hb dX5_cut_0 rfl (lv_at hl 1 rfl) ?_
  refine r_Si (As := [.int x1]) (rest := []) ⟨hx, hb, hml, hown, hts⟩ hC hP hS (c_X5_isPart l g u x1 rfl) (va_cwS 1 hts gX5_cut_X5_isPart rfl rfl rfl (by decide +kernel) ⟨(Nat.le_trans (Nat.le_of_ble_eq_true rfl) hRf), (Nat.le_trans (Nat.le_of_ble_eq_true rfl) hRl)⟩) rfl hl.1 rfl (Nat.le_of_ble_eq_true rfl) dX5_cut_1 (fun H locs hP hS => ?_)
  refine lv_if_ne (tgt := 9) hx hb dX5_cut_4 (by decide) (fun c_1 => ?_) (fun c_1 => ?_)
  · rw [if_neg c_1] at hf
    refine lv_aload_n hx hb dX5_cut_9 rfl (lv_at hl 0 rfl) ?_
    refine r_get hx hb hts hown hC hP hinX5 0 (by decide) (ci := 4) rfl (by decide) rfl 3 (by decide) (hts (.fieldLink RX5 31 "LoafParts" "table" "LLoafParts$Table;") (by decide +kernel)) (v := .ref (aD g 11)) rfl dX5_cut_10 ?_
    obtain ⟨q_2, hq_2, hf⟩ := bind_ex hf
    refine r_Vi (As := []) (rest := []) (k := 11) (ci := 3) ⟨hx, hb, hml, hown, hts⟩ hC hP hS (by decide) rfl (by decide) rfl (c_X4_canCut l g u hq_2) (cwV 0 hts gX5_cut_X4_canCut rfl rfl rfl (by decide +kernel) ⟨(Nat.le_trans (Nat.le_of_ble_eq_true rfl) hRf), (Nat.le_trans (Nat.le_of_ble_eq_true rfl) hRl)⟩) rfl hl.1 rfl (Nat.le_of_ble_eq_true rfl) dX5_cut_13 (fun H locs hP hS => ?_)
    refine lv_if_ne (tgt := 22) hx hb dX5_cut_16 (by decide) (fun c_3 => ?_) (fun c_3 => ?_)
    · rw [if_neg c_3] at hf
      refine lv_aload_n hx hb dX5_cut_22 rfl (lv_at hl 0 rfl) ?_
      refine r_get hx hb hts hown hC hP hinX5 0 (by decide) (ci := 4) rfl (by decide) rfl 3 (by decide) (hts (.fieldLink RX5 31 "LoafParts" "table" "LLoafParts$Table;") (by decide +kernel)) (v := .ref (aD g 11)) rfl dX5_cut_23 ?_
      refine lv_iconst (v := (1 : Int32)) hx hb dX5_cut_26 (by decide) ?_
      obtain ⟨q_4, hq_4, hf⟩ := bind_ex hf
      refine r_Vi (As := [.int (1 : Int32)]) (rest := []) (k := 11) (ci := 3) ⟨hx, hb, hml, hown, hts⟩ hC hP hS (by decide) rfl (by decide) rfl (c_X4_hasRoomFor l g u (1 : Int32) hq_4) (cwV 1 hts gX5_cut_X4_hasRoomFor rfl rfl rfl (by decide +kernel) ⟨(Nat.le_trans (Nat.le_of_ble_eq_true rfl) hRf), (Nat.le_trans (Nat.le_of_ble_eq_true rfl) hRl)⟩) rfl hl.1 rfl (Nat.le_of_ble_eq_true rfl) dX5_cut_27 (fun H locs hP hS => ?_)
      refine lv_if_ne (tgt := 36) hx hb dX5_cut_30 (by decide) (fun c_5 => ?_) (fun c_5 => ?_)
      · rw [if_neg c_5] at hf
        refine lv_aload_n hx hb dX5_cut_36 rfl (lv_at hl 0 rfl) ?_
        refine r_get hx hb hts hown hC hP hinX5 0 (by decide) (ci := 4) rfl (by decide) rfl 3 (by decide) (hts (.fieldLink RX5 31 "LoafParts" "table" "LLoafParts$Table;") (by decide +kernel)) (v := .ref (aD g 11)) rfl dX5_cut_37 ?_
        refine lv_iload_n hx hb dX5_cut_40 rfl (lv_at hl 1 rfl) ?_
        obtain ⟨q_6, hq_6, hf⟩ := bind_ex hf
        refine r_Vv (As := [.int x1]) (rest := []) (k := 11) (ci := 3) ⟨hx, hb, hml, hown, hts⟩ hC hP hS (by decide) rfl (by decide) rfl (c_X4_cutLoaf l g u x1 hq_6) (cwV 1 hts gX5_cut_X4_cutLoaf rfl rfl rfl (by decide +kernel) ⟨(Nat.le_trans (Nat.le_of_ble_eq_true rfl) hRf), (Nat.le_trans (Nat.le_of_ble_eq_true rfl) hRl)⟩) rfl hl.1 rfl (Nat.le_of_ble_eq_true rfl) dX5_cut_41 (fun H locs hP hS => ?_)
        refine lv_aload_n hx hb dX5_cut_44 rfl (lv_at hl 0 rfl) ?_
        refine r_get hx hb hts hown hC hP hinX5 0 (by decide) (ci := 4) rfl (by decide) rfl 3 (by decide) (hts (.fieldLink RX5 31 "LoafParts" "table" "LLoafParts$Table;") (by decide +kernel)) (v := .ref (aD g 11)) rfl dX5_cut_45 ?_
        refine r_getN hx hb hts hown hC hP hinX4 11 (by decide) (ci := 3) rfl (by decide) rfl 3 (by decide) 3 rfl (v := .ref (aD g 12)) rfl dX5_cut_48 ?_
        refine lv_iload_n hx hb dX5_cut_51 rfl (lv_at hl 1 rfl) ?_
        obtain ⟨hi_7, hf⟩ := ix_ex hf
        refine r_ald hx hb hC hP 12 (by decide) rfl hi_7 dX5_cut_52 ?_
        obtain ⟨rfl, rfl⟩ := sp2 hf
        exact kret _ _ _ _ dX5_cut_53 hP hS trivial
      rw [if_pos c_5] at hf
      refine lv_bipush (v := (-2 : Int32)) hx hb dX5_cut_33 (by decide) ?_
      obtain ⟨rfl, rfl⟩ := sp2 hf
      exact kret _ _ _ _ dX5_cut_35 hP hS trivial
    rw [if_pos c_3] at hf
    refine lv_bipush (v := (-4 : Int32)) hx hb dX5_cut_19 (by decide) ?_
    obtain ⟨rfl, rfl⟩ := sp2 hf
    exact kret _ _ _ _ dX5_cut_21 hP hS trivial
  rw [if_pos c_1] at hf
  refine lv_iconst (v := (-1 : Int32)) hx hb dX5_cut_7 (by decide) ?_
  obtain ⟨rfl, rfl⟩ := sp2 hf
  exact kret _ _ _ _ dX5_cut_8 hP hS trivial
set_option maxHeartbeats 4000000 in
set_option maxRecDepth 100000 in
theorem c_X4_canGive (l : Launch) (g : GG) (u : UU) (x1 : Int32) (x2 : Int32) {r : Int32} (hf : f_X4_canGive x1 x2 u = some r) : Ci l g 0 55 yX4_canGive wsX4_canGive 3 63 [.ref (aD g 11), .int x1, .int x2] u r u := by
  refine ct_z (cc := cX4_canGive) (maxL := 3) (by decide) rfl (Nat.le_of_ble_eq_true rfl) ?_
  intro p e s m args below meth c R Q ls hx hb hml hown hts hC hP hl hRf hRl kret hS
  have hown : s.vm.findClass RX4 = some m.cls := hown
  have hl : lv_has ls 3 [(0, .ref (aD g 11)), (1, .int x1), (2, .int x2)] := hl
  unfold f_X4_canGive at hf
  refine lv_aload_n hx hb dX4_canGive_0 rfl (lv_at hl 0 rfl) ?_
  refine lv_iload_n hx hb dX4_canGive_1 rfl (lv_at hl 1 rfl) ?_
  obtain ⟨q_1, hq_1, hf⟩ := bind_ex hf
  refine r_Vi (As := [.int x1]) (rest := []) (k := 11) (ci := 3) ⟨hx, hb, hml, hown, hts⟩ hC hP hS (by decide) rfl (by decide) rfl (c_X4_fitFor l g u x1 hq_1) (cwV 1 hts gX4_canGive_X4_fitFor rfl rfl rfl (by decide +kernel) ⟨(Nat.le_trans (Nat.le_of_ble_eq_true rfl) hRf), (Nat.le_trans (Nat.le_of_ble_eq_true rfl) hRl)⟩) rfl hl.1 rfl (Nat.le_of_ble_eq_true rfl) dX4_canGive_2 (fun H locs hP hS => ?_)
  refine lv_iload_n hx hb dX4_canGive_5 rfl (lv_at hl 2 rfl) ?_
  refine r_SNi (As := [.int q_1, .int x2]) (rest := []) ⟨hx, hb, hml, hown, hts⟩ hC hP hS (c_X5_holds l g u q_1 x2 rfl) ⟨va_cnB 2 hts gX4_canGive_X5_holds_n103 rfl rfl rfl (hC.2.2.1.2 _ (List.mem_of_getElem? (i := 3) rfl)) (hts (.initialized RX5) (by decide +kernel)) (by decide +kernel) ⟨(Nat.le_trans (Nat.le_of_ble_eq_true rfl) hRf), (Nat.le_trans (Nat.le_of_ble_eq_true rfl) hRl)⟩, hts (.static yX5_holds) (by decide +kernel), trivial⟩ rfl hl.1 rfl (Nat.le_of_ble_eq_true rfl) dX4_canGive_6 (fun H locs hP hS => ?_)
  obtain rfl := sp1 hf
  exact kret _ _ _ _ dX4_canGive_9 hP hS (z_X5_holds q_1 x2).1
set_option maxHeartbeats 4000000 in
set_option maxRecDepth 100000 in
theorem c_X5_partSize (l : Launch) (g : GG) (u : UU) (x0 : Int32) {r : Int32} (hf : f_X5_partSize x0 = r) : Ci l g 0 55 yX5_partSize wsX5_partSize 0 0 [.int x0] u r u := by
  refine ct_i (cc := cX5_partSize) (maxL := 1) (by decide) rfl (Nat.le_of_ble_eq_true rfl) ?_
  intro p e s m args below meth c R Q ls hx hb hml hown hts hC hP hl hRf hRl kret hS
  have hown : s.vm.findClass RX5 = some m.cls := hown
  have hl : lv_has ls 1 [(0, .int x0)] := hl
  unfold f_X5_partSize at hf
  refine lv_iload_n hx hb dX5_partSize_0 rfl (lv_at hl 0 rfl) ?_
  refine lv_if_le (tgt := 11) hx hb dX5_partSize_1 (by decide) (fun c_1 => ?_) (fun c_1 => ?_)
  · rw [if_pos c_1] at hf
    refine lv_iconst (v := (0 : Int32)) hx hb dX5_partSize_11 (by decide) ?_
    obtain rfl := hf
    exact kret _ _ _ _ dX5_partSize_12 hP hS trivial
  rw [if_neg c_1] at hf
  refine lv_ldc (v := (720720 : Int32)) hx hb hown (hts (.constant RX5 227 (720720)) (by decide +kernel)) dX5_partSize_4 ?_
  refine lv_iload_n hx hb dX5_partSize_6 rfl (lv_at hl 0 rfl) ?_
  refine lv_idiv hx hb dX5_partSize_7 (ne_nle c_1) ?_
  refine lv_goto (tgt := 12) hx hb dX5_partSize_8 (by decide) ?_
  obtain rfl := hf
  exact kret _ _ _ _ dX5_partSize_12 hP hS trivial
set_option maxHeartbeats 4000000 in
set_option maxRecDepth 100000 in
theorem c_X4_toHand (l : Launch) (g : GG) (u : UU) (x1 : Int32) (x2 : Int32) {u' : UU} (hf : f_X4_toHand x1 x2 u = some u') : Cv l g 0 55 yX4_toHand wsX4_toHand 1 22 [.ref (aD g 11), .int x1, .int x2] u u' := by
  refine ct_v (cc := cX4_toHand) (maxL := 3) (by decide) rfl (Nat.le_of_ble_eq_true rfl) ?_
  intro p e s m args below meth c R Q ls hx hb hml hown hts hC hP hl hRf hRl kret hS
  have hown : s.vm.findClass RX4 = some m.cls := hown
  have hl : lv_has ls 3 [(0, .ref (aD g 11)), (1, .int x1), (2, .int x2)] := hl
  have hinX4 : ∀ w ∈ u_ws RX4 TX4 13, w ∈ wsX4_toHand := by decide +kernel
  unfold f_X4_toHand at hf
  refine lv_aload_n hx hb dX4_toHand_0 rfl (lv_at hl 0 rfl) ?_
  refine lv_iload_n hx hb dX4_toHand_1 rfl (lv_at hl 2 rfl) ?_
  refine lv_iconst (v := (-1 : Int32)) hx hb dX4_toHand_2 (by decide) ?_
  obtain ⟨q_1, hq_1, hf⟩ := bind_ex hf
  refine r_Vv (As := [.int x2, .int (-1 : Int32)]) (rest := []) (k := 11) (ci := 3) ⟨hx, hb, hml, hown, hts⟩ hC hP hS (by decide) rfl (by decide) rfl (c_X4_changeLying l g u x2 (-1 : Int32) hq_1) (cwV 2 hts gX4_toHand_X4_changeLying rfl rfl rfl (by decide +kernel) ⟨(Nat.le_trans (Nat.le_of_ble_eq_true rfl) hRf), (Nat.le_trans (Nat.le_of_ble_eq_true rfl) hRl)⟩) rfl hl.1 rfl (Nat.le_of_ble_eq_true rfl) dX4_toHand_3 (fun H locs hP hS => ?_)
  refine lv_aload_n hx hb dX4_toHand_6 rfl (lv_at hl 0 rfl) ?_
  refine r_get hx hb hts hown hC hP hinX4 11 (by decide) (ci := 3) rfl (by decide) rfl 8 (by decide) (hts (.fieldLink RX4 24 "LoafParts$Table" "has" "[I") (by decide +kernel)) (v := .ref (aD g 16)) rfl dX4_toHand_7 ?_
  refine lv_iload_n hx hb dX4_toHand_10 rfl (lv_at hl 1 rfl) ?_
  refine lv_dup2_11 hx hb dX4_toHand_11 rfl rfl ?_
  obtain ⟨hi_2, hf⟩ := ix_ex hf
  refine r_ald hx hb hC hP 16 (by decide) rfl hi_2 dX4_toHand_12 ?_
  refine lv_iconst (v := (1 : Int32)) hx hb dX4_toHand_13 (by decide) ?_
  refine lv_iload_n hx hb dX4_toHand_14 rfl (lv_at hl 2 rfl) ?_
  refine lv_ishl hx hb dX4_toHand_15 ?_
  refine lv_ior hx hb dX4_toHand_16 ?_
  obtain ⟨hi_3, hf⟩ := ix_ex hf
  obtain ⟨u_4, eu_4, hf⟩ := lt_ex hf
  refine r_ast hx hb hC hP hS 16 (by decide) rfl hi_3 eu_4 dX4_toHand_17 (fun H locs hP hS => ?_)
  refine lv_aload_n hx hb dX4_toHand_18 rfl (lv_at hl 0 rfl) ?_
  refine r_get hx hb hts hown hC hP hinX4 11 (by decide) (ci := 3) rfl (by decide) rfl 9 (by decide) (hts (.fieldLink RX4 27 "LoafParts$Table" "lack" "[I") (by decide +kernel)) (v := .ref (aD g 17)) rfl dX4_toHand_19 ?_
  refine lv_iload_n hx hb dX4_toHand_22 rfl (lv_at hl 1 rfl) ?_
  refine lv_dup2_11 hx hb dX4_toHand_23 rfl rfl ?_
  obtain ⟨hi_5, hf⟩ := ix_ex hf
  refine r_ald hx hb hC hP 17 (by decide) rfl hi_5 dX4_toHand_24 ?_
  refine lv_iload_n hx hb dX4_toHand_25 rfl (lv_at hl 2 rfl) ?_
  refine r_SNi (As := [.int x2]) (rest := [.int (ui u_4 17 (x1 : Int32).toNatClampNeg), .int x1, .ref (aD g 17)]) ⟨hx, hb, hml, hown, hts⟩ hC hP hS (c_X5_partSize l g u_4 x2 rfl) ⟨va_cnB 1 hts gX4_toHand_X5_partSize_n146 rfl rfl rfl (hC.2.2.1.2 _ (List.mem_of_getElem? (i := 4) rfl)) (hts (.initialized RX5) (by decide +kernel)) (by decide +kernel) ⟨(Nat.le_trans (Nat.le_of_ble_eq_true rfl) hRf), (Nat.le_trans (Nat.le_of_ble_eq_true rfl) hRl)⟩, hts (.static yX5_partSize) (by decide +kernel), trivial⟩ rfl hl.1 rfl (Nat.le_of_ble_eq_true rfl) dX4_toHand_26 (fun H locs hP hS => ?_)
  refine lv_isub hx hb dX4_toHand_29 ?_
  obtain ⟨hi_6, hf⟩ := ix_ex hf
  obtain ⟨u_7, eu_7, hf⟩ := lt_ex hf
  refine r_ast hx hb hC hP hS 17 (by decide) rfl hi_6 eu_7 dX4_toHand_30 (fun H locs hP hS => ?_)
  obtain rfl := sp1 hf
  exact kret _ _ _ _ dX4_toHand_31 hP hS trivial
set_option maxHeartbeats 4000000 in
set_option maxRecDepth 100000 in
theorem c_X4_givePart (l : Launch) (g : GG) (u : UU) (x1 : Int32) (x2 : Int32) {u' : UU} (hf : f_X4_givePart x1 x2 u = some u') : Cv l g 0 55 yX4_givePart wsX4_givePart 2 44 [.ref (aD g 11), .int x1, .int x2] u u' := by
  refine ct_v (cc := cX4_givePart) (maxL := 3) (by decide) rfl (Nat.le_of_ble_eq_true rfl) ?_
  intro p e s m args below meth c R Q ls hx hb hml hown hts hC hP hl hRf hRl kret hS
  have hown : s.vm.findClass RX4 = some m.cls := hown
  have hl : lv_has ls 3 [(0, .ref (aD g 11)), (1, .int x1), (2, .int x2)] := hl
  unfold f_X4_givePart at hf
  refine lv_aload_n hx hb dX4_givePart_0 rfl (lv_at hl 0 rfl) ?_
  refine lv_iload_n hx hb dX4_givePart_1 rfl (lv_at hl 1 rfl) ?_
  refine lv_iload_n hx hb dX4_givePart_2 rfl (lv_at hl 2 rfl) ?_
  obtain ⟨q_1, hq_1, hf⟩ := bind_ex hf
  refine r_Vv (As := [.int x1, .int x2]) (rest := []) (k := 11) (ci := 3) ⟨hx, hb, hml, hown, hts⟩ hC hP hS (by decide) rfl (by decide) rfl (c_X4_toHand l g u x1 x2 hq_1) (cwV 2 hts gX4_givePart_X4_toHand rfl rfl rfl (by decide +kernel) ⟨(Nat.le_trans (Nat.le_of_ble_eq_true rfl) hRf), (Nat.le_trans (Nat.le_of_ble_eq_true rfl) hRl)⟩) rfl hl.1 rfl (Nat.le_of_ble_eq_true rfl) dX4_givePart_3 (fun H locs hP hS => ?_)
  refine lv_aload_n hx hb dX4_givePart_6 rfl (lv_at hl 0 rfl) ?_
  refine lv_iconst (v := (2 : Int32)) hx hb dX4_givePart_7 (by decide) ?_
  refine lv_iload_n hx hb dX4_givePart_8 rfl (lv_at hl 1 rfl) ?_
  refine lv_iload_n hx hb dX4_givePart_9 rfl (lv_at hl 2 rfl) ?_
  obtain ⟨q_2, hq_2, hf⟩ := bind_ex hf
  refine r_Vv (As := [.int (2 : Int32), .int x1, .int x2]) (rest := []) (k := 11) (ci := 3) ⟨hx, hb, hml, hown, hts⟩ hC hP hS (by decide) rfl (by decide) rfl (c_X4_noteDeed l g q_1 (2 : Int32) x1 x2 hq_2) (cwV 3 hts gX4_givePart_X4_noteDeed rfl rfl rfl (by decide +kernel) ⟨(Nat.le_trans (Nat.le_of_ble_eq_true rfl) hRf), (Nat.le_trans (Nat.le_of_ble_eq_true rfl) hRl)⟩) rfl hl.1 rfl (Nat.le_of_ble_eq_true rfl) dX4_givePart_10 (fun H locs hP hS => ?_)
  obtain rfl := sp1 hf
  exact kret _ _ _ _ dX4_givePart_13 hP hS trivial
set_option maxHeartbeats 4000000 in
set_option maxRecDepth 100000 in
theorem c_X5_give (l : Launch) (g : GG) (u : UU) (x1 : Int32) (x2 : Int32) {r : Int32} {u' : UU} (hf : f_X5_give x1 x2 u = some (r, u')) : Ci l g 0 55 yX5_give wsX5_give 4 85 [.ref (aD g 0), .int x1, .int x2] u r u' := by
  refine ct_i (cc := cX5_give) (maxL := 3) (by decide) rfl (Nat.le_of_ble_eq_true rfl) ?_
  intro p e s m args below meth c R Q ls hx hb hml hown hts hC hP hl hRf hRl kret hS
  have hown : s.vm.findClass RX5 = some m.cls := hown
  have hl : lv_has ls 3 [(0, .ref (aD g 0)), (1, .int x1), (2, .int x2)] := hl
  have hinX4 : ∀ w ∈ u_ws RX4 TX4 13, w ∈ wsX5_give := by decide +kernel
  have hinX5 : ∀ w ∈ u_ws RX5 TX5 12, w ∈ wsX5_give := by decide +kernel
  unfold f_X5_give at hf
  refine lv_aload_n hx hb dX5_give_0 rfl (lv_at hl 0 rfl) ?_
  refine r_get hx hb hts hown hC hP hinX5 0 (by decide) (ci := 4) rfl (by decide) rfl 3 (by decide) (hts (.fieldLink RX5 31 "LoafParts" "table" "LLoafParts$Table;") (by decide +kernel)) (v := .ref (aD g 11)) rfl dX5_give_1 ?_
  refine lv_iload_n hx hb dX5_give_4 rfl (lv_at hl 1 rfl) ?_
  obtain ⟨q_1, hq_1, hf⟩ := bind_ex hf
  refine r_Vi (As := [.int x1]) (rest := []) (k := 11) (ci := 3) ⟨hx, hb, hml, hown, hts⟩ hC hP hS (by decide) rfl (by decide) rfl (c_X4_isWorker l g u x1 hq_1) (cwV 1 hts gX5_give_X4_isWorker rfl rfl rfl (by decide +kernel) ⟨(Nat.le_trans (Nat.le_of_ble_eq_true rfl) hRf), (Nat.le_trans (Nat.le_of_ble_eq_true rfl) hRl)⟩) rfl hl.1 rfl (Nat.le_of_ble_eq_true rfl) dX5_give_5 (fun H locs hP hS => ?_)
  refine lv_if_eq (tgt := 18) hx hb dX5_give_8 (by decide) (fun c_2 => ?_) (fun c_2 => ?_)
  · rw [if_pos c_2] at hf
    refine lv_iconst (v := (-1 : Int32)) hx hb dX5_give_18 (by decide) ?_
    obtain ⟨rfl, rfl⟩ := sp2 hf
    exact kret _ _ _ _ dX5_give_19 hP hS trivial
  rw [if_neg c_2] at hf
  refine lv_iload_n hx hb dX5_give_11 rfl (lv_at hl 2 rfl) ?_
  refine r_Si (As := [.int x2]) (rest := []) ⟨hx, hb, hml, hown, hts⟩ hC hP hS (c_X5_isPart l g u x2 rfl) (va_cwS 1 hts gX5_give_X5_isPart rfl rfl rfl (by decide +kernel) ⟨(Nat.le_trans (Nat.le_of_ble_eq_true rfl) hRf), (Nat.le_trans (Nat.le_of_ble_eq_true rfl) hRl)⟩) rfl hl.1 rfl (Nat.le_of_ble_eq_true rfl) dX5_give_12 (fun H locs hP hS => ?_)
  refine lv_if_ne (tgt := 20) hx hb dX5_give_15 (by decide) (fun c_3 => ?_) (fun c_3 => ?_)
  · rw [if_neg c_3] at hf
    refine lv_aload_n hx hb dX5_give_20 rfl (lv_at hl 0 rfl) ?_
    refine r_get hx hb hts hown hC hP hinX5 0 (by decide) (ci := 4) rfl (by decide) rfl 3 (by decide) (hts (.fieldLink RX5 31 "LoafParts" "table" "LLoafParts$Table;") (by decide +kernel)) (v := .ref (aD g 11)) rfl dX5_give_21 ?_
    refine lv_iload_n hx hb dX5_give_24 rfl (lv_at hl 1 rfl) ?_
    refine lv_iload_n hx hb dX5_give_25 rfl (lv_at hl 2 rfl) ?_
    obtain ⟨q_4, hq_4, hf⟩ := bind_ex hf
    refine r_Vi (As := [.int x1, .int x2]) (rest := []) (k := 11) (ci := 3) ⟨hx, hb, hml, hown, hts⟩ hC hP hS (by decide) rfl (by decide) rfl (c_X4_canGive l g u x1 x2 hq_4) (cwV 2 hts gX5_give_X4_canGive rfl rfl rfl (by decide +kernel) ⟨(Nat.le_trans (Nat.le_of_ble_eq_true rfl) hRf), (Nat.le_trans (Nat.le_of_ble_eq_true rfl) hRl)⟩) rfl hl.1 rfl (Nat.le_of_ble_eq_true rfl) dX5_give_26 (fun H locs hP hS => ?_)
    refine lv_if_ne (tgt := 35) hx hb dX5_give_29 (by decide) (fun c_5 => ?_) (fun c_5 => ?_)
    · rw [if_neg c_5] at hf
      refine lv_aload_n hx hb dX5_give_35 rfl (lv_at hl 0 rfl) ?_
      refine r_get hx hb hts hown hC hP hinX5 0 (by decide) (ci := 4) rfl (by decide) rfl 3 (by decide) (hts (.fieldLink RX5 31 "LoafParts" "table" "LLoafParts$Table;") (by decide +kernel)) (v := .ref (aD g 11)) rfl dX5_give_36 ?_
      refine lv_iconst (v := (1 : Int32)) hx hb dX5_give_39 (by decide) ?_
      obtain ⟨q_6, hq_6, hf⟩ := bind_ex hf
      refine r_Vi (As := [.int (1 : Int32)]) (rest := []) (k := 11) (ci := 3) ⟨hx, hb, hml, hown, hts⟩ hC hP hS (by decide) rfl (by decide) rfl (c_X4_hasRoomFor l g u (1 : Int32) hq_6) (cwV 1 hts gX5_give_X4_hasRoomFor rfl rfl rfl (by decide +kernel) ⟨(Nat.le_trans (Nat.le_of_ble_eq_true rfl) hRf), (Nat.le_trans (Nat.le_of_ble_eq_true rfl) hRl)⟩) rfl hl.1 rfl (Nat.le_of_ble_eq_true rfl) dX5_give_40 (fun H locs hP hS => ?_)
      refine lv_if_ne (tgt := 49) hx hb dX5_give_43 (by decide) (fun c_7 => ?_) (fun c_7 => ?_)
      · rw [if_neg c_7] at hf
        refine lv_aload_n hx hb dX5_give_49 rfl (lv_at hl 0 rfl) ?_
        refine r_get hx hb hts hown hC hP hinX5 0 (by decide) (ci := 4) rfl (by decide) rfl 3 (by decide) (hts (.fieldLink RX5 31 "LoafParts" "table" "LLoafParts$Table;") (by decide +kernel)) (v := .ref (aD g 11)) rfl dX5_give_50 ?_
        refine lv_iload_n hx hb dX5_give_53 rfl (lv_at hl 1 rfl) ?_
        refine lv_iload_n hx hb dX5_give_54 rfl (lv_at hl 2 rfl) ?_
        obtain ⟨q_8, hq_8, hf⟩ := bind_ex hf
        refine r_Vv (As := [.int x1, .int x2]) (rest := []) (k := 11) (ci := 3) ⟨hx, hb, hml, hown, hts⟩ hC hP hS (by decide) rfl (by decide) rfl (c_X4_givePart l g u x1 x2 hq_8) (cwV 2 hts gX5_give_X4_givePart rfl rfl rfl (by decide +kernel) ⟨(Nat.le_trans (Nat.le_of_ble_eq_true rfl) hRf), (Nat.le_trans (Nat.le_of_ble_eq_true rfl) hRl)⟩) rfl hl.1 rfl (Nat.le_of_ble_eq_true rfl) dX5_give_55 (fun H locs hP hS => ?_)
        refine lv_aload_n hx hb dX5_give_58 rfl (lv_at hl 0 rfl) ?_
        refine r_get hx hb hts hown hC hP hinX5 0 (by decide) (ci := 4) rfl (by decide) rfl 3 (by decide) (hts (.fieldLink RX5 31 "LoafParts" "table" "LLoafParts$Table;") (by decide +kernel)) (v := .ref (aD g 11)) rfl dX5_give_59 ?_
        refine r_getN hx hb hts hown hC hP hinX4 11 (by decide) (ci := 3) rfl (by decide) rfl 8 (by decide) 4 rfl (v := .ref (aD g 16)) rfl dX5_give_62 ?_
        refine lv_iload_n hx hb dX5_give_65 rfl (lv_at hl 1 rfl) ?_
        obtain ⟨hi_9, hf⟩ := ix_ex hf
        refine r_ald hx hb hC hP 16 (by decide) rfl hi_9 dX5_give_66 ?_
        refine r_Si (As := [.int (ui q_8 16 (x1 : Int32).toNatClampNeg)]) (rest := []) ⟨hx, hb, hml, hown, hts⟩ hC hP hS (c_J6_bitCount_0f7a4 l g q_8 (ui q_8 16 (x1 : Int32).toNatClampNeg) rfl) (va_cwS 1 hts gX5_give_J6_bitCount_0f7a4 rfl rfl rfl (by decide +kernel) ⟨(Nat.le_trans (Nat.le_of_ble_eq_true rfl) hRf), (Nat.le_trans (Nat.le_of_ble_eq_true rfl) hRl)⟩) rfl hl.1 rfl (Nat.le_of_ble_eq_true rfl) dX5_give_67 (fun H locs hP hS => ?_)
        obtain ⟨rfl, rfl⟩ := sp2 hf
        exact kret _ _ _ _ dX5_give_70 hP hS trivial
      rw [if_pos c_7] at hf
      refine lv_bipush (v := (-2 : Int32)) hx hb dX5_give_46 (by decide) ?_
      obtain ⟨rfl, rfl⟩ := sp2 hf
      exact kret _ _ _ _ dX5_give_48 hP hS trivial
    rw [if_pos c_5] at hf
    refine lv_bipush (v := (-4 : Int32)) hx hb dX5_give_32 (by decide) ?_
    obtain ⟨rfl, rfl⟩ := sp2 hf
    exact kret _ _ _ _ dX5_give_34 hP hS trivial
  rw [if_pos c_3] at hf
  refine lv_iconst (v := (-1 : Int32)) hx hb dX5_give_18 (by decide) ?_
  obtain ⟨rfl, rfl⟩ := sp2 hf
  exact kret _ _ _ _ dX5_give_19 hP hS trivial
set_option maxHeartbeats 4000000 in
set_option maxRecDepth 100000 in
theorem c_X4_canTakeBack (l : Launch) (g : GG) (u : UU) (x1 : Int32) (x2 : Int32) {r : Int32} (hf : f_X4_canTakeBack x1 x2 u = some r) : Ci l g 0 55 yX4_canTakeBack wsX4_canTakeBack 1 21 [.ref (aD g 11), .int x1, .int x2] u r u := by
  refine ct_z (cc := cX4_canTakeBack) (maxL := 3) (by decide) rfl (Nat.le_of_ble_eq_true rfl) ?_
  intro p e s m args below meth c R Q ls hx hb hml hown hts hC hP hl hRf hRl kret hS
  have hown : s.vm.findClass RX4 = some m.cls := hown
  have hl : lv_has ls 3 [(0, .ref (aD g 11)), (1, .int x1), (2, .int x2)] := hl
  have hinX4 : ∀ w ∈ u_ws RX4 TX4 13, w ∈ wsX4_canTakeBack := by decide +kernel
  unfold f_X4_canTakeBack at hf
  refine lv_aload_n hx hb dX4_canTakeBack_0 rfl (lv_at hl 0 rfl) ?_
  refine r_get hx hb hts hown hC hP hinX4 11 (by decide) (ci := 3) rfl (by decide) rfl 8 (by decide) (hts (.fieldLink RX4 24 "LoafParts$Table" "has" "[I") (by decide +kernel)) (v := .ref (aD g 16)) rfl dX4_canTakeBack_1 ?_
  refine lv_iload_n hx hb dX4_canTakeBack_4 rfl (lv_at hl 1 rfl) ?_
  obtain ⟨hi_1, hf⟩ := ix_ex hf
  refine r_ald hx hb hC hP 16 (by decide) rfl hi_1 dX4_canTakeBack_5 ?_
  refine lv_iload_n hx hb dX4_canTakeBack_6 rfl (lv_at hl 2 rfl) ?_
  refine r_SNi (As := [.int (ui u 16 (x1 : Int32).toNatClampNeg), .int x2]) (rest := []) ⟨hx, hb, hml, hown, hts⟩ hC hP hS (c_X5_holds l g u (ui u 16 (x1 : Int32).toNatClampNeg) x2 rfl) ⟨va_cnB 2 hts gX4_canTakeBack_X5_holds_n103 rfl rfl rfl (hC.2.2.1.2 _ (List.mem_of_getElem? (i := 3) rfl)) (hts (.initialized RX5) (by decide +kernel)) (by decide +kernel) ⟨(Nat.le_trans (Nat.le_of_ble_eq_true rfl) hRf), (Nat.le_trans (Nat.le_of_ble_eq_true rfl) hRl)⟩, hts (.static yX5_holds) (by decide +kernel), trivial⟩ rfl hl.1 rfl (Nat.le_of_ble_eq_true rfl) dX4_canTakeBack_7 (fun H locs hP hS => ?_)
  obtain rfl := sp1 hf
  exact kret _ _ _ _ dX4_canTakeBack_10 hP hS (z_X5_holds (ui u 16 (x1 : Int32).toNatClampNeg) x2).1