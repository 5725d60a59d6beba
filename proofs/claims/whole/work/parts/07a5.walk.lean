set_option maxHeartbeats 4000000 in
set_option maxRecDepth 100000 in
theorem c_X5_ready (l : Launch) (g : GG) (u : UU) {r : Int32} {u' : UU} (hf : f_X5_ready u = some (r, u')) : Ci l g 0 55 yX5_ready wsX5_ready 25 613 [.ref (aD g 0)] u r u' := by
  refine ct_i (cc := cX5_ready) (maxL := 2) (by decide) rfl (Nat.le_of_ble_eq_true rfl) ?_
  intro p e s m args below meth c R Q ls hx hb hml hown hts hC hP hl hRf hRl kret hS
  have hown : s.vm.findClass RX5 = some m.cls := hown
  have hl : lv_has ls 2 [(0, .ref (aD g 0))] := hl
  have hinX4 : ∀ w ∈ u_ws RX4 TX4 13, w ∈ wsX5_ready := by decide +kernel
  have hinX5 : ∀ w ∈ u_ws RX5 TX5 12, w ∈ wsX5_ready := by decide +kernel
  unfold f_X5_ready at hf
  refine lv_aload_n hx hb dX5_ready_0 rfl (lv_at hl 0 rfl) ?_
  refine r_get hx hb hts hown hC hP hinX5 0 (by decide) (ci := 4) rfl (by decide) rfl 3 (by decide) (hts (.fieldLink RX5 31 "LoafParts" "table" "LLoafParts$Table;") (by decide +kernel)) (v := .ref (aD g 11)) rfl dX5_ready_1 ?_
  refine r_getN hx hb hts hown hC hP hinX4 11 (by decide) (ci := 3) rfl (by decide) rfl 0 (by decide) 0 rfl (v := .int (ui u 11 0)) rfl dX5_ready_4 ?_
  refine lv_if_ne (tgt := 13) hx hb dX5_ready_7 (by decide) (fun c_1 => ?_) (fun c_1 => ?_)
  · rw [if_neg c_1] at hf
    refine lv_aload_n hx hb dX5_ready_13 rfl (lv_at hl 0 rfl) ?_
    refine lv_aload_n hx hb dX5_ready_14 rfl (lv_at hl 0 rfl) ?_
    refine r_get hx hb hts hown hC hP hinX5 0 (by decide) (ci := 4) rfl (by decide) rfl 3 (by decide) (hts (.fieldLink RX5 31 "LoafParts" "table" "LLoafParts$Table;") (by decide +kernel)) (v := .ref (aD g 11)) rfl dX5_ready_15 ?_
    refine r_getN hx hb hts hown hC hP hinX4 11 (by decide) (ci := 3) rfl (by decide) rfl 4 (by decide) 2 rfl (v := .int (ui u 11 4)) rfl dX5_ready_18 ?_
    obtain ⟨q_2, hq_2, hf⟩ := bind_ex hf
    refine r_Vi (r := q_2.1) (u' := q_2.2) (As := [.int (ui u 11 4)]) (rest := []) (k := 0) (ci := 4) ⟨hx, hb, hml, hown, hts⟩ hC hP hS (by decide) rfl (by decide) rfl (c_X5_payableBy l g u (ui u 11 4) hq_2) (cwV 1 hts gX5_ready_X5_payableBy rfl rfl rfl (by decide +kernel) ⟨(Nat.le_trans (Nat.le_of_ble_eq_true rfl) hRf), (Nat.le_trans (Nat.le_of_ble_eq_true rfl) hRl)⟩) rfl hl.1 rfl (Nat.le_of_ble_eq_true rfl) dX5_ready_21 (fun H locs hP hS => ?_)
    refine lv_istore_n (lv' := [(1, .int q_2.1), (0, .ref (aD g 0))]) hx hb dX5_ready_24 rfl hl (by decide) rfl (fun ls hl => ?_)
    refine lv_aload_n hx hb dX5_ready_25 rfl (lv_at hl 1 rfl) ?_
    refine lv_iload_n hx hb dX5_ready_26 rfl (lv_at hl 0 rfl) ?_
    refine r_Si (As := [.int q_2.1]) (rest := [.ref (aD g 0)]) ⟨hx, hb, hml, hown, hts⟩ hC hP hS (c_J6_bitCount_0f7a4 l g q_2.2 q_2.1 rfl) (va_cwS 1 hts gX5_ready_J6_bitCount_0f7a4 rfl rfl rfl (by decide +kernel) ⟨(Nat.le_trans (Nat.le_of_ble_eq_true rfl) hRf), (Nat.le_trans (Nat.le_of_ble_eq_true rfl) hRl)⟩) rfl hl.1 rfl (Nat.le_of_ble_eq_true rfl) dX5_ready_27 (fun H locs hP hS => ?_)
    obtain ⟨u_3, eu_3, hf⟩ := lt_ex hf
    refine r_puti hx hb hts hown hC hP hS hinX5 tyX5 tyX5_ok nmX5 0 (by decide) (ci := 4) rfl (by decide) rfl 9 (by decide) (hts (.fieldLink RX5 77 "LoafParts" "told" "I") (by decide +kernel)) rfl (ty := .int) (by decide +kernel) rfl rfl (by decide) (by decide) eu_3 dX5_ready_30 (fun H locs hP hS => ?_)
    refine lv_iload_n hx hb dX5_ready_33 rfl (lv_at hl 0 rfl) ?_
    obtain ⟨rfl, rfl⟩ := sp2 hf
    exact kret _ _ _ _ dX5_ready_34 hP hS trivial
  rw [if_pos c_1] at hf
  refine lv_bipush (v := (-4 : Int32)) hx hb dX5_ready_10 (by decide) ?_
  obtain ⟨rfl, rfl⟩ := sp2 hf
  exact kret _ _ _ _ dX5_ready_12 hP hS trivial
set_option maxHeartbeats 4000000 in
set_option maxRecDepth 100000 in
theorem c_X5_best (l : Launch) (g : GG) (u : UU) {r : Int32} {u' : UU} (hf : f_X5_best u = some (r, u')) : Ci l g 0 55 yX5_best wsX5_best 25 613 [.ref (aD g 0)] u r u' := by
  refine ct_i (cc := cX5_best) (maxL := 5) (by decide) rfl (Nat.le_of_ble_eq_true rfl) ?_
  intro p e s m args below meth c R Q ls hx hb hml hown hts hC hP hl hRf hRl kret hS
  have hown : s.vm.findClass RX5 = some m.cls := hown
  have hl : lv_has ls 5 [(0, .ref (aD g 0))] := hl
  have hinX4 : ∀ w ∈ u_ws RX4 TX4 13, w ∈ wsX5_best := by decide +kernel
  have hinX5 : ∀ w ∈ u_ws RX5 TX5 12, w ∈ wsX5_best := by decide +kernel
  have w_70 : ∀ (k_33 : Int32 → Int32 → Int32 → UU → Option (Int32 × UU)) (K_33 : ∀ (x1 : Int32) (x2 : Int32) (x3 : Int32) (u : UU) (H : Heap) (locs : List Loc) (ls : Array Slot), Ps g 0 55 u H → va_S (aA g) s.heap H locs → lv_has ls 5 [(0, .ref (aD g 0)), (1, .int x1), (2, .int x2), (3, .int x3)] → k_33 x1 x2 x3 u = some (r, u') → W p l e R s m args below meth c H locs 0 0 Q (F0 m 33 ls [])), ∀ (x1 : Int32) (x2 : Int32) (x3 : Int32) (u : UU) (H : Heap) (locs : List Loc) (ls : Array Slot), Ps g 0 55 u H → va_S (aA g) s.heap H locs → lv_has ls 5 [(0, .ref (aD g 0)), (1, .int x1), (2, .int x2), (3, .int x3)] → f_X5_best_70 k_33 x1 x2 x3 u = some (r, u') → W p l e R s m args below meth c H locs 0 0 Q (F0 m 70 ls []) := by
    intro k_33 K_33
    intro x1 x2 x3 u H locs ls hP hS hl hf
    unfold f_X5_best_70 at hf
    obtain ⟨x3_11, ex3_11, hf⟩ := lt_ex hf
    refine lv_iinc (v := x3_11) (lv' := [(3, .int x3_11), (0, .ref (aD g 0)), (1, .int x1), (2, .int x2)]) hx hb dX5_best_70 hl (k := 3) rfl (by rw [ex3_11]; rfl) (by decide) rfl (fun ls hl => ?_)
    refine lv_goto (tgt := 33) hx hb dX5_best_73 (by decide) ?_
    exact K_33 x1 x2 x3_11 u _ _ _ hP hS (lv_sub hl [1, 2, 3, 0] rfl) hf
  have w_33 : ∀ (n : Nat), ∀ (x1 : Int32) (x2 : Int32) (x3 : Int32) (u : UU) (H : Heap) (locs : List Loc) (ls : Array Slot), Ps g 0 55 u H → va_S (aA g) s.heap H locs → lv_has ls 5 [(0, .ref (aD g 0)), (1, .int x1), (2, .int x2), (3, .int x3)] → f_X5_best_33 n x1 x2 x3 u = some (r, u') → W p l e R s m args below meth c H locs 0 0 Q (F0 m 33 ls []) := by
    intro n
    induction n with
    | zero =>
      intro x1 x2 x3 u H locs ls hP hS hl hf
      rw [f_X5_best_33] at hf
      cases hf
    | succ n ih =>
      intro x1 x2 x3 u H locs ls hP hS hl hf
      rw [f_X5_best_33] at hf
      refine lv_iload_n hx hb dX5_best_33 rfl (lv_at hl 3 rfl) ?_
      refine lv_bipush (v := (16 : Int32)) hx hb dX5_best_34 (by decide) ?_
      refine lv_icmp_gt (tgt := 76) hx hb dX5_best_36 (by decide) (fun c_5 => ?_) (fun c_5 => ?_)
      · rw [if_pos c_5] at hf
        refine lv_iload_n hx hb dX5_best_76 rfl (lv_at hl 2 rfl) ?_
        refine lv_bipush (v := (-9 : Int32)) hx hb dX5_best_77 (by decide) ?_
        refine lv_icmp_eq (tgt := 87) hx hb dX5_best_79 (by decide) (fun c_6 => ?_) (fun c_6 => ?_)
        · rw [if_pos c_6] at hf
          refine lv_iload_n hx hb dX5_best_87 rfl (lv_at hl 2 rfl) ?_
          obtain ⟨rfl, rfl⟩ := sp2 hf
          exact kret _ _ _ _ dX5_best_88 hP hS trivial
        rw [if_neg c_6] at hf
        refine lv_aload_n hx hb dX5_best_82 rfl (lv_at hl 0 rfl) ?_
        refine lv_iload_n hx hb dX5_best_83 rfl (lv_at hl 1 rfl) ?_
        obtain ⟨u_7, eu_7, hf⟩ := lt_ex hf
        refine r_puti hx hb hts hown hC hP hS hinX5 tyX5 tyX5_ok nmX5 0 (by decide) (ci := 4) rfl (by decide) rfl 9 (by decide) (hts (.fieldLink RX5 77 "LoafParts" "told" "I") (by decide +kernel)) rfl (ty := .int) (by decide +kernel) rfl rfl (by decide) (by decide) eu_7 dX5_best_84 (fun H locs hP hS => ?_)
        refine lv_iload_n hx hb dX5_best_87 rfl (lv_at hl 2 rfl) ?_
        obtain ⟨rfl, rfl⟩ := sp2 hf
        exact kret _ _ _ _ dX5_best_88 hP hS trivial
      rw [if_neg c_5] at hf
      refine lv_aload_n hx hb dX5_best_39 rfl (lv_at hl 0 rfl) ?_
      refine lv_aload_n hx hb dX5_best_40 rfl (lv_at hl 0 rfl) ?_
      refine r_get hx hb hts hown hC hP hinX5 0 (by decide) (ci := 4) rfl (by decide) rfl 3 (by decide) (hts (.fieldLink RX5 31 "LoafParts" "table" "LLoafParts$Table;") (by decide +kernel)) (v := .ref (aD g 11)) rfl dX5_best_41 ?_
      refine r_getN hx hb hts hown hC hP hinX4 11 (by decide) (ci := 3) rfl (by decide) rfl 4 (by decide) 2 rfl (v := .int (ui u 11 4)) rfl dX5_best_44 ?_
      refine lv_iconst (v := (1 : Int32)) hx hb dX5_best_47 (by decide) ?_
      refine lv_iload_n hx hb dX5_best_48 rfl (lv_at hl 3 rfl) ?_
      refine lv_ishl hx hb dX5_best_49 ?_
      refine lv_ior hx hb dX5_best_50 ?_
      obtain ⟨q_8, hq_8, hf⟩ := bind_ex hf
      refine r_Vi (r := q_8.1) (u' := q_8.2) (As := [.int ((ui u 11 4) ||| ((1 : Int32) <<< (x3 &&& (31 : Int32))))]) (rest := []) (k := 0) (ci := 4) ⟨hx, hb, hml, hown, hts⟩ hC hP hS (by decide) rfl (by decide) rfl (c_X5_payableBy l g u ((ui u 11 4) ||| ((1 : Int32) <<< (x3 &&& (31 : Int32)))) hq_8) (cwV 1 hts gX5_best_X5_payableBy rfl rfl rfl (by decide +kernel) ⟨(Nat.le_trans (Nat.le_of_ble_eq_true rfl) hRf), (Nat.le_trans (Nat.le_of_ble_eq_true rfl) hRl)⟩) rfl hl.1 rfl (Nat.le_of_ble_eq_true rfl) dX5_best_51 (fun H locs hP hS => ?_)
      refine r_Si (As := [.int q_8.1]) (rest := []) ⟨hx, hb, hml, hown, hts⟩ hC hP hS (c_J6_bitCount_0f7a4 l g q_8.2 q_8.1 rfl) (va_cwS 1 hts gX5_best_J6_bitCount_0f7a4 rfl rfl rfl (by decide +kernel) ⟨(Nat.le_trans (Nat.le_of_ble_eq_true rfl) hRf), (Nat.le_trans (Nat.le_of_ble_eq_true rfl) hRl)⟩) rfl hl.1 rfl (Nat.le_of_ble_eq_true rfl) dX5_best_54 (fun H locs hP hS => ?_)
      obtain ⟨x4_9, ex4_9, hf⟩ := lt_ex hf
      refine r_nm ex4_9 ?_
      refine lv_istore (lv' := [(4, .int x4_9), (0, .ref (aD g 0)), (1, .int x1), (2, .int x2), (3, .int x3)]) hx hb dX5_best_57 hl (by decide) rfl (fun ls hl => ?_)
      refine lv_iload hx hb dX5_best_59 (lv_at hl 0 rfl) ?_
      refine lv_iload_n hx hb dX5_best_61 rfl (lv_at hl 2 rfl) ?_
      refine lv_icmp_le (tgt := 70) hx hb dX5_best_62 (by decide) (fun c_10 => ?_) (fun c_10 => ?_)
      · rw [if_pos c_10] at hf
        exact w_70 (f_X5_best_33 n) ih x1 x2 x3 q_8.2 _ _ _ hP hS (lv_sub hl [1, 2, 3, 4] rfl) hf
      rw [if_neg c_10] at hf
      refine lv_iload hx hb dX5_best_65 (lv_at hl 0 rfl) ?_
      refine lv_istore_n (lv' := [(1, .int x4_9), (4, .int x4_9), (0, .ref (aD g 0)), (2, .int x2), (3, .int x3)]) hx hb dX5_best_67 rfl hl (by decide) rfl (fun ls hl => ?_)
      refine lv_iload_n hx hb dX5_best_68 rfl (lv_at hl 4 rfl) ?_
      refine lv_istore_n (lv' := [(2, .int x3), (1, .int x4_9), (4, .int x4_9), (0, .ref (aD g 0)), (3, .int x3)]) hx hb dX5_best_69 rfl hl (by decide) rfl (fun ls hl => ?_)
      exact w_70 (f_X5_best_33 n) ih x4_9 x3 x3 q_8.2 _ _ _ hP hS (lv_sub hl [3, 1, 0, 4] rfl) hf
  unfold f_X5_best at hf
  refine lv_aload_n hx hb dX5_best_0 rfl (lv_at hl 0 rfl) ?_
  refine r_get hx hb hts hown hC hP hinX5 0 (by decide) (ci := 4) rfl (by decide) rfl 3 (by decide) (hts (.fieldLink RX5 31 "LoafParts" "table" "LLoafParts$Table;") (by decide +kernel)) (v := .ref (aD g 11)) rfl dX5_best_1 ?_
  obtain ⟨q_1, hq_1, hf⟩ := bind_ex hf
  refine r_Vi (As := []) (rest := []) (k := 11) (ci := 3) ⟨hx, hb, hml, hown, hts⟩ hC hP hS (by decide) rfl (by decide) rfl (c_X4_canCut l g u hq_1) (cwV 0 hts gX5_best_X4_canCut rfl rfl rfl (by decide +kernel) ⟨(Nat.le_trans (Nat.le_of_ble_eq_true rfl) hRf), (Nat.le_trans (Nat.le_of_ble_eq_true rfl) hRl)⟩) rfl hl.1 rfl (Nat.le_of_ble_eq_true rfl) dX5_best_4 (fun H locs hP hS => ?_)
  refine lv_if_ne (tgt := 13) hx hb dX5_best_7 (by decide) (fun c_2 => ?_) (fun c_2 => ?_)
  · rw [if_neg c_2] at hf
    refine lv_aload_n hx hb dX5_best_13 rfl (lv_at hl 0 rfl) ?_
    refine lv_aload_n hx hb dX5_best_14 rfl (lv_at hl 0 rfl) ?_
    refine r_get hx hb hts hown hC hP hinX5 0 (by decide) (ci := 4) rfl (by decide) rfl 3 (by decide) (hts (.fieldLink RX5 31 "LoafParts" "table" "LLoafParts$Table;") (by decide +kernel)) (v := .ref (aD g 11)) rfl dX5_best_15 ?_
    refine r_getN hx hb hts hown hC hP hinX4 11 (by decide) (ci := 3) rfl (by decide) rfl 4 (by decide) 2 rfl (v := .int (ui u 11 4)) rfl dX5_best_18 ?_
    obtain ⟨q_3, hq_3, hf⟩ := bind_ex hf
    refine r_Vi (r := q_3.1) (u' := q_3.2) (As := [.int (ui u 11 4)]) (rest := []) (k := 0) (ci := 4) ⟨hx, hb, hml, hown, hts⟩ hC hP hS (by decide) rfl (by decide) rfl (c_X5_payableBy l g u (ui u 11 4) hq_3) (cwV 1 hts gX5_best_X5_payableBy rfl rfl rfl (by decide +kernel) ⟨(Nat.le_trans (Nat.le_of_ble_eq_true rfl) hRf), (Nat.le_trans (Nat.le_of_ble_eq_true rfl) hRl)⟩) rfl hl.1 rfl (Nat.le_of_ble_eq_true rfl) dX5_best_21 (fun H locs hP hS => ?_)
    refine r_Si (As := [.int q_3.1]) (rest := []) ⟨hx, hb, hml, hown, hts⟩ hC hP hS (c_J6_bitCount_0f7a4 l g q_3.2 q_3.1 rfl) (va_cwS 1 hts gX5_best_J6_bitCount_0f7a4 rfl rfl rfl (by decide +kernel) ⟨(Nat.le_trans (Nat.le_of_ble_eq_true rfl) hRf), (Nat.le_trans (Nat.le_of_ble_eq_true rfl) hRl)⟩) rfl hl.1 rfl (Nat.le_of_ble_eq_true rfl) dX5_best_24 (fun H locs hP hS => ?_)
    obtain ⟨x1_4, ex1_4, hf⟩ := lt_ex hf
    refine r_nm ex1_4 ?_
    refine lv_istore_n (lv' := [(1, .int x1_4), (0, .ref (aD g 0))]) hx hb dX5_best_27 rfl hl (by decide) rfl (fun ls hl => ?_)
    refine lv_bipush (v := (-9 : Int32)) hx hb dX5_best_28 (by decide) ?_
    refine lv_istore_n (lv' := [(2, .int (-9 : Int32)), (1, .int x1_4), (0, .ref (aD g 0))]) hx hb dX5_best_30 rfl hl (by decide) rfl (fun ls hl => ?_)
    refine lv_iconst (v := (2 : Int32)) hx hb dX5_best_31 (by decide) ?_
    refine lv_istore_n (lv' := [(3, .int (2 : Int32)), (2, .int (-9 : Int32)), (1, .int x1_4), (0, .ref (aD g 0))]) hx hb dX5_best_32 rfl hl (by decide) rfl (fun ls hl => ?_)
    exact w_33 fu x1_4 (-9 : Int32) (2 : Int32) q_3.2 _ _ _ hP hS (lv_sub hl [3, 2, 1, 0] rfl) hf
  rw [if_pos c_2] at hf
  refine lv_bipush (v := (-4 : Int32)) hx hb dX5_best_10 (by decide) ?_
  obtain ⟨rfl, rfl⟩ := sp2 hf
  exact kret _ _ _ _ dX5_best_12 hP hS trivial
set_option maxHeartbeats 4000000 in
set_option maxRecDepth 100000 in
theorem c_X5_isSetOfParts (l : Launch) (g : GG) (u : UU) (x1 : Int32) {r : Int32} (hf : f_X5_isSetOfParts x1 u = some r) : Ci l g 0 55 yX5_isSetOfParts wsX5_isSetOfParts 3 65 [.ref (aD g 0), .int x1] u r u := by
  refine ct_z (cc := cX5_isSetOfParts) (maxL := 5) (by decide) rfl (Nat.le_of_ble_eq_true rfl) ?_
  intro p e s m args below meth c R Q ls hx hb hml hown hts hC hP hl hRf hRl kret hS
  have hown : s.vm.findClass RX5 = some m.cls := hown
  have hl : lv_has ls 5 [(0, .ref (aD g 0)), (1, .int x1)] := hl
  have hinX5 : ∀ w ∈ u_ws RX5 TX5 12, w ∈ wsX5_isSetOfParts := by decide +kernel
  have w_4 : ∀ (n : Nat), ∀ (x1 : Int32) (x2 : Int32) (x3 : Int32) (H : Heap) (locs : List Loc) (ls : Array Slot), Ps g 0 55 u H → va_S (aA g) s.heap H locs → lv_has ls 5 [(0, .ref (aD g 0)), (1, .int x1), (2, .int x2), (3, .int x3)] → f_X5_isSetOfParts_4 n x1 x2 x3 u = some r → W p l e R s m args below meth c H locs 0 0 Q (F0 m 4 ls []) := by
    intro n
    induction n with
    | zero =>
      intro x1 x2 x3 H locs ls hP hS hl hf
      rw [f_X5_isSetOfParts_4] at hf
      cases hf
    | succ n ih =>
      intro x1 x2 x3 H locs ls hP hS hl hf
      rw [f_X5_isSetOfParts_4] at hf
      refine lv_iload_n hx hb dX5_isSetOfParts_4 rfl (lv_at hl 3 rfl) ?_
      refine lv_aload_n hx hb dX5_isSetOfParts_5 rfl (lv_at hl 0 rfl) ?_
      refine r_get hx hb hts hown hC hP hinX5 0 (by decide) (ci := 4) rfl (by decide) rfl 0 (by decide) (hts (.fieldLink RX5 14 "LoafParts" "rows" "LLoafParts$Shelf;") (by decide +kernel)) (v := .ref (aD g 1)) rfl dX5_isSetOfParts_6 ?_
      refine lv_iload_n hx hb dX5_isSetOfParts_9 rfl (lv_at hl 1 rfl) ?_
      obtain ⟨q_1, hq_1, hf⟩ := bind_ex hf
      refine r_Vi (As := [.int x1]) (rest := [.int x3]) (k := 1) (ci := 2) ⟨hx, hb, hml, hown, hts⟩ hC hP hS (by decide) rfl (by decide) rfl (c_X3_sizeOf l g 1 6 shf_rows u x1 hq_1) (cwV 1 hts gX5_isSetOfParts_X3_sizeOf rfl rfl rfl (by decide +kernel) ⟨(Nat.le_trans (Nat.le_of_ble_eq_true rfl) hRf), (Nat.le_trans (Nat.le_of_ble_eq_true rfl) hRl)⟩) rfl hl.1 rfl (Nat.le_of_ble_eq_true rfl) dX5_isSetOfParts_10 (fun H locs hP hS => ?_)
      refine lv_icmp_ge (tgt := 59) hx hb dX5_isSetOfParts_13 (by decide) (fun c_2 => ?_) (fun c_2 => ?_)
      · rw [if_pos c_2] at hf
        refine lv_iconst (v := (1 : Int32)) hx hb dX5_isSetOfParts_59 (by decide) ?_
        obtain rfl := sp1 hf
        exact kret _ _ _ _ dX5_isSetOfParts_60 hP hS rfl
      rw [if_neg c_2] at hf
      refine lv_aload_n hx hb dX5_isSetOfParts_16 rfl (lv_at hl 0 rfl) ?_
      refine r_get hx hb hts hown hC hP hinX5 0 (by decide) (ci := 4) rfl (by decide) rfl 0 (by decide) (hts (.fieldLink RX5 14 "LoafParts" "rows" "LLoafParts$Shelf;") (by decide +kernel)) (v := .ref (aD g 1)) rfl dX5_isSetOfParts_17 ?_
      refine lv_iload_n hx hb dX5_isSetOfParts_20 rfl (lv_at hl 1 rfl) ?_
      refine lv_iload_n hx hb dX5_isSetOfParts_21 rfl (lv_at hl 3 rfl) ?_
      obtain ⟨q_3, hq_3, hf⟩ := bind_ex hf
      refine r_Vi (As := [.int x1, .int x3]) (rest := []) (k := 1) (ci := 2) ⟨hx, hb, hml, hown, hts⟩ hC hP hS (by decide) rfl (by decide) rfl (c_X3_read l g 1 6 shf_rows u x1 x3 hq_3) (cwV 2 hts gX5_isSetOfParts_X3_read rfl rfl rfl (by decide +kernel) ⟨(Nat.le_trans (Nat.le_of_ble_eq_true rfl) hRf), (Nat.le_trans (Nat.le_of_ble_eq_true rfl) hRl)⟩) rfl hl.1 rfl (Nat.le_of_ble_eq_true rfl) dX5_isSetOfParts_22 (fun H locs hP hS => ?_)
      refine lv_istore (lv' := [(4, .int q_3), (0, .ref (aD g 0)), (1, .int x1), (2, .int x2), (3, .int x3)]) hx hb dX5_isSetOfParts_25 hl (by decide) rfl (fun ls hl => ?_)
      refine lv_iload hx hb dX5_isSetOfParts_27 (lv_at hl 0 rfl) ?_
      refine r_Si (As := [.int q_3]) (rest := []) ⟨hx, hb, hml, hown, hts⟩ hC hP hS (c_X5_isPart l g u q_3 rfl) (va_cwS 1 hts gX5_isSetOfParts_X5_isPart rfl rfl rfl (by decide +kernel) ⟨(Nat.le_trans (Nat.le_of_ble_eq_true rfl) hRf), (Nat.le_trans (Nat.le_of_ble_eq_true rfl) hRl)⟩) rfl hl.1 rfl (Nat.le_of_ble_eq_true rfl) dX5_isSetOfParts_29 (fun H locs hP hS => ?_)
      refine lv_if_eq (tgt := 44) hx hb dX5_isSetOfParts_32 (by decide) (fun c_4 => ?_) (fun c_4 => ?_)
      · rw [if_pos c_4] at hf
        refine lv_iconst (v := (0 : Int32)) hx hb dX5_isSetOfParts_44 (by decide) ?_
        obtain rfl := sp1 hf
        exact kret _ _ _ _ dX5_isSetOfParts_45 hP hS rfl
      rw [if_neg c_4] at hf
      refine lv_iload_n hx hb dX5_isSetOfParts_35 rfl (lv_at hl 3 rfl) ?_
      refine lv_iload hx hb dX5_isSetOfParts_36 (lv_at hl 0 rfl) ?_
      refine r_Si (As := [.int x2, .int q_3]) (rest := []) ⟨hx, hb, hml, hown, hts⟩ hC hP hS (c_X5_holds l g u x2 q_3 rfl) (va_cwS 2 hts gX5_isSetOfParts_X5_holds rfl rfl rfl (by decide +kernel) ⟨(Nat.le_trans (Nat.le_of_ble_eq_true rfl) hRf), (Nat.le_trans (Nat.le_of_ble_eq_true rfl) hRl)⟩) rfl hl.1 rfl (Nat.le_of_ble_eq_true rfl) dX5_isSetOfParts_38 (fun H locs hP hS => ?_)
      refine lv_if_eq (tgt := 46) hx hb dX5_isSetOfParts_41 (by decide) (fun c_5 => ?_) (fun c_5 => ?_)
      · rw [if_pos c_5] at hf
        refine lv_iload_n hx hb dX5_isSetOfParts_46 rfl (lv_at hl 3 rfl) ?_
        refine lv_iconst (v := (1 : Int32)) hx hb dX5_isSetOfParts_47 (by decide) ?_
        refine lv_iload hx hb dX5_isSetOfParts_48 (lv_at hl 0 rfl) ?_
        refine lv_ishl hx hb dX5_isSetOfParts_50 ?_
        refine lv_ior hx hb dX5_isSetOfParts_51 ?_
        obtain ⟨x2_6, ex2_6, hf⟩ := lt_ex hf
        refine r_nm ex2_6 ?_
        refine lv_istore_n (lv' := [(2, .int x2_6), (4, .int q_3), (0, .ref (aD g 0)), (1, .int x1), (3, .int x3)]) hx hb dX5_isSetOfParts_52 rfl hl (by decide) rfl (fun ls hl => ?_)
        obtain ⟨x3_7, ex3_7, hf⟩ := lt_ex hf
        refine lv_iinc (v := x3_7) (lv' := [(3, .int x3_7), (2, .int x2_6), (4, .int q_3), (0, .ref (aD g 0)), (1, .int x1)]) hx hb dX5_isSetOfParts_53 hl (k := 4) rfl (by rw [ex3_7]; rfl) (by decide) rfl (fun ls hl => ?_)
        refine lv_goto (tgt := 4) hx hb dX5_isSetOfParts_56 (by decide) ?_
        exact ih x1 x2_6 x3_7 _ _ _ hP hS (lv_sub hl [3, 4, 1, 0] rfl) hf
      rw [if_neg c_5] at hf
      refine lv_iconst (v := (0 : Int32)) hx hb dX5_isSetOfParts_44 (by decide) ?_
      obtain rfl := sp1 hf
      exact kret _ _ _ _ dX5_isSetOfParts_45 hP hS rfl
  unfold f_X5_isSetOfParts at hf
  refine lv_iconst (v := (0 : Int32)) hx hb dX5_isSetOfParts_0 (by decide) ?_
  refine lv_istore_n (lv' := [(2, .int (0 : Int32)), (0, .ref (aD g 0)), (1, .int x1)]) hx hb dX5_isSetOfParts_1 rfl hl (by decide) rfl (fun ls hl => ?_)
  refine lv_iconst (v := (0 : Int32)) hx hb dX5_isSetOfParts_2 (by decide) ?_
  refine lv_istore_n (lv' := [(3, .int (0 : Int32)), (2, .int (0 : Int32)), (0, .ref (aD g 0)), (1, .int x1)]) hx hb dX5_isSetOfParts_3 rfl hl (by decide) rfl (fun ls hl => ?_)
  exact w_4 fu x1 (0 : Int32) (0 : Int32) _ _ _ hP hS (lv_sub hl [2, 3, 1, 0] rfl) hf
set_option maxHeartbeats 4000000 in
set_option maxRecDepth 100000 in
theorem c_X5_dues (l : Launch) (g : GG) (u : UU) (x1 : Int32) {r : Int32} {u' : UU} (hf : f_X5_dues x1 u = some (r, u')) : Ci l g 0 55 yX5_dues wsX5_dues 4 89 [.ref (aD g 0), .int x1] u r u' := by
  refine ct_i (cc := cX5_dues) (maxL := 8) (by decide) rfl (Nat.le_of_ble_eq_true rfl) ?_
  intro p e s m args below meth c R Q ls hx hb hml hown hts hC hP hl hRf hRl kret hS
  have hown : s.vm.findClass RX5 = some m.cls := hown
  have hl : lv_has ls 8 [(0, .ref (aD g 0)), (1, .int x1)] := hl
  have hinX5 : ∀ w ∈ u_ws RX5 TX5 12, w ∈ wsX5_dues := by decide +kernel
  have w_131 : ∀ (k_79 : Int32 → Int32 → Int32 → Int32 → UU → Option (Int32 × UU)) (K_79 : ∀ (x3 : Int32) (x4 : Int32) (x5 : Int32) (x6 : Int32) (u : UU) (H : Heap) (locs : List Loc) (ls : Array Slot), Ps g 0 55 u H → va_S (aA g) s.heap H locs → lv_has ls 8 [(0, .ref (aD g 0)), (3, .int x3), (4, .int x4), (5, .int x5), (6, .int x6)] → k_79 x3 x4 x5 x6 u = some (r, u') → W p l e R s m args below meth c H locs 0 0 Q (F0 m 79 ls [])) (k_89 : Int32 → Int32 → Int32 → Int32 → Int32 → UU → Option (Int32 × UU)) (K_89 : ∀ (x3 : Int32) (x4 : Int32) (x5 : Int32) (x6 : Int32) (x7 : Int32) (u : UU) (H : Heap) (locs : List Loc) (ls : Array Slot), Ps g 0 55 u H → va_S (aA g) s.heap H locs → lv_has ls 8 [(0, .ref (aD g 0)), (3, .int x3), (4, .int x4), (5, .int x5), (6, .int x6), (7, .int x7)] → k_89 x3 x4 x5 x6 x7 u = some (r, u') → W p l e R s m args below meth c H locs 0 0 Q (F0 m 89 ls [])), ∀ (x3 : Int32) (x4 : Int32) (x5 : Int32) (x6 : Int32) (x7 : Int32) (u : UU) (H : Heap) (locs : List Loc) (ls : Array Slot), Ps g 0 55 u H → va_S (aA g) s.heap H locs → lv_has ls 8 [(0, .ref (aD g 0)), (3, .int x3), (4, .int x4), (5, .int x5), (6, .int x6), (7, .int x7)] → f_X5_dues_131 k_79 k_89 x3 x4 x5 x6 x7 u = some (r, u') → W p l e R s m args below meth c H locs 0 0 Q (F0 m 131 ls []) := by
    intro k_79 K_79 k_89 K_89
    intro x3 x4 x5 x6 x7 u H locs ls hP hS hl hf
    unfold f_X5_dues_131 at hf
    obtain ⟨x7_14, ex7_14, hf⟩ := lt_ex hf
    refine lv_iinc (v := x7_14) (lv' := [(7, .int x7_14), (0, .ref (aD g 0)), (3, .int x3), (4, .int x4), (5, .int x5), (6, .int x6)]) hx hb dX5_dues_131 hl (k := 5) rfl (by rw [ex7_14]; rfl) (by decide) rfl (fun ls hl => ?_)
    refine lv_goto (tgt := 89) hx hb dX5_dues_134 (by decide) ?_
    exact K_89 x3 x4 x5 x6 x7_14 u _ _ _ hP hS (lv_sub hl [1, 2, 3, 4, 5, 0] rfl) hf
  have w_126 : ∀ (k_79 : Int32 → Int32 → Int32 → Int32 → UU → Option (Int32 × UU)) (K_79 : ∀ (x3 : Int32) (x4 : Int32) (x5 : Int32) (x6 : Int32) (u : UU) (H : Heap) (locs : List Loc) (ls : Array Slot), Ps g 0 55 u H → va_S (aA g) s.heap H locs → lv_has ls 8 [(0, .ref (aD g 0)), (3, .int x3), (4, .int x4), (5, .int x5), (6, .int x6)] → k_79 x3 x4 x5 x6 u = some (r, u') → W p l e R s m args below meth c H locs 0 0 Q (F0 m 79 ls [])) (k_89 : Int32 → Int32 → Int32 → Int32 → Int32 → UU → Option (Int32 × UU)) (K_89 : ∀ (x3 : Int32) (x4 : Int32) (x5 : Int32) (x6 : Int32) (x7 : Int32) (u : UU) (H : Heap) (locs : List Loc) (ls : Array Slot), Ps g 0 55 u H → va_S (aA g) s.heap H locs → lv_has ls 8 [(0, .ref (aD g 0)), (3, .int x3), (4, .int x4), (5, .int x5), (6, .int x6), (7, .int x7)] → k_89 x3 x4 x5 x6 x7 u = some (r, u') → W p l e R s m args below meth c H locs 0 0 Q (F0 m 89 ls [])), ∀ (x3 : Int32) (x4 : Int32) (x6 : Int32) (x7 : Int32) (t0 : Int32) (u : UU) (H : Heap) (locs : List Loc) (ls : Array Slot), Ps g 0 55 u H → va_S (aA g) s.heap H locs → lv_has ls 8 [(0, .ref (aD g 0)), (3, .int x3), (4, .int x4), (6, .int x6), (7, .int x7)] → f_X5_dues_126 k_79 k_89 x3 x4 x6 x7 t0 u = some (r, u') → W p l e R s m args below meth c H locs 0 0 Q (F0 m 126 ls [.int t0]) := by
    intro k_79 K_79 k_89 K_89
    intro x3 x4 x6 x7 t0 u H locs ls hP hS hl hf
    unfold f_X5_dues_126 at hf
    refine lv_istore (lv' := [(5, .int t0), (0, .ref (aD g 0)), (3, .int x3), (4, .int x4), (6, .int x6), (7, .int x7)]) hx hb dX5_dues_126 hl (by decide) rfl (fun ls hl => ?_)
    obtain ⟨x4_16, ex4_16, hf⟩ := lt_ex hf
    refine lv_iinc (v := x4_16) (lv' := [(4, .int x4_16), (5, .int t0), (0, .ref (aD g 0)), (3, .int x3), (6, .int x6), (7, .int x7)]) hx hb dX5_dues_128 hl (k := 3) rfl (by rw [ex4_16]; rfl) (by decide) rfl (fun ls hl => ?_)
    exact w_131 (k_79) K_79 (k_89) K_89 x3 x4_16 t0 x6 x7 u _ _ _ hP hS (lv_sub hl [2, 3, 0, 1, 4, 5] rfl) hf
  have w_89 : ∀ (k_79 : Int32 → Int32 → Int32 → Int32 → UU → Option (Int32 × UU)) (K_79 : ∀ (x3 : Int32) (x4 : Int32) (x5 : Int32) (x6 : Int32) (u : UU) (H : Heap) (locs : List Loc) (ls : Array Slot), Ps g 0 55 u H → va_S (aA g) s.heap H locs → lv_has ls 8 [(0, .ref (aD g 0)), (3, .int x3), (4, .int x4), (5, .int x5), (6, .int x6)] → k_79 x3 x4 x5 x6 u = some (r, u') → W p l e R s m args below meth c H locs 0 0 Q (F0 m 79 ls [])) (n : Nat), ∀ (x3 : Int32) (x4 : Int32) (x5 : Int32) (x6 : Int32) (x7 : Int32) (u : UU) (H : Heap) (locs : List Loc) (ls : Array Slot), Ps g 0 55 u H → va_S (aA g) s.heap H locs → lv_has ls 8 [(0, .ref (aD g 0)), (3, .int x3), (4, .int x4), (5, .int x5), (6, .int x6), (7, .int x7)] → f_X5_dues_89 k_79 n x3 x4 x5 x6 x7 u = some (r, u') → W p l e R s m args below meth c H locs 0 0 Q (F0 m 89 ls []) := by
    intro k_79 K_79 n
    induction n with
    | zero =>
      intro x3 x4 x5 x6 x7 u H locs ls hP hS hl hf
      rw [f_X5_dues_89] at hf
      cases hf
    | succ n ih =>
      intro x3 x4 x5 x6 x7 u H locs ls hP hS hl hf
      rw [f_X5_dues_89] at hf
      refine lv_iload hx hb dX5_dues_89 (lv_at hl 5 rfl) ?_
      refine lv_bipush (v := (9 : Int32)) hx hb dX5_dues_91 (by decide) ?_
      refine lv_icmp_gt (tgt := 137) hx hb dX5_dues_93 (by decide) (fun c_10 => ?_) (fun c_10 => ?_)
      · rw [if_pos c_10] at hf
        obtain ⟨x6_11, ex6_11, hf⟩ := lt_ex hf
        refine lv_iinc (v := x6_11) (lv' := [(6, .int x6_11), (0, .ref (aD g 0)), (3, .int x3), (4, .int x4), (5, .int x5), (7, .int x7)]) hx hb dX5_dues_137 hl (k := 4) rfl (by rw [ex6_11]; rfl) (by decide) rfl (fun ls hl => ?_)
        refine lv_goto (tgt := 79) hx hb dX5_dues_140 (by decide) ?_
        exact K_79 x3 x4 x5 x6_11 u _ _ _ hP hS (lv_sub hl [1, 2, 3, 4, 0] rfl) hf
      rw [if_neg c_10] at hf
      refine lv_ldc (v := (720720 : Int32)) hx hb hown (hts (.constant RX5 227 (720720)) (by decide +kernel)) dX5_dues_96 ?_
      refine lv_iload hx hb dX5_dues_98 (lv_at hl 5 rfl) ?_
      obtain ⟨hz_12, hf⟩ := nz_ex hf
      refine lv_idiv hx hb dX5_dues_100 hz_12 ?_
      refine lv_iload hx hb dX5_dues_101 (lv_at hl 4 rfl) ?_
      refine lv_imul hx hb dX5_dues_103 ?_
      refine lv_iload_n hx hb dX5_dues_104 rfl (lv_at hl 1 rfl) ?_
      refine lv_icmp_ne (tgt := 131) hx hb dX5_dues_105 (by decide) (fun c_13 => ?_) (fun c_13 => ?_)
      · rw [if_neg c_13] at hf
        exact w_131 (k_79) K_79 (f_X5_dues_89 k_79 n) ih x3 x4 x5 x6 x7 u _ _ _ hP hS (lv_sub hl [0, 1, 2, 3, 4, 5] rfl) hf
      rw [if_pos c_13] at hf
      refine lv_iload hx hb dX5_dues_108 (lv_at hl 2 rfl) ?_
      refine lv_if_ne (tgt := 124) hx hb dX5_dues_110 (by decide) (fun c_15 => ?_) (fun c_15 => ?_)
      · rw [if_neg c_15] at hf
        refine lv_iload hx hb dX5_dues_124 (lv_at hl 3 rfl) ?_
        exact w_126 (k_79) K_79 (f_X5_dues_89 k_79 n) ih x3 x4 x6 x7 x5 u _ _ _ hP hS (lv_sub hl [0, 1, 2, 4, 5] rfl) hf
      rw [if_pos c_15] at hf
      refine lv_bipush (v := (10 : Int32)) hx hb dX5_dues_113 (by decide) ?_
      refine lv_iload hx hb dX5_dues_115 (lv_at hl 4 rfl) ?_
      refine lv_imul hx hb dX5_dues_117 ?_
      refine lv_iload hx hb dX5_dues_118 (lv_at hl 5 rfl) ?_
      refine lv_iadd hx hb dX5_dues_120 ?_
      refine lv_goto (tgt := 126) hx hb dX5_dues_121 (by decide) ?_
      exact w_126 (k_79) K_79 (f_X5_dues_89 k_79 n) ih x3 x4 x6 x7 (((10 : Int32) * x6) + x7) u _ _ _ hP hS (lv_sub hl [0, 1, 2, 4, 5] rfl) hf
  have w_79 : ∀ (n : Nat), ∀ (x3 : Int32) (x4 : Int32) (x5 : Int32) (x6 : Int32) (u : UU) (H : Heap) (locs : List Loc) (ls : Array Slot), Ps g 0 55 u H → va_S (aA g) s.heap H locs → lv_has ls 8 [(0, .ref (aD g 0)), (3, .int x3), (4, .int x4), (5, .int x5), (6, .int x6)] → f_X5_dues_79 n x3 x4 x5 x6 u = some (r, u') → W p l e R s m args below meth c H locs 0 0 Q (F0 m 79 ls []) := by
    intro n
    induction n with
    | zero =>
      intro x3 x4 x5 x6 u H locs ls hP hS hl hf
      rw [f_X5_dues_79] at hf
      cases hf
    | succ n ih =>
      intro x3 x4 x5 x6 u H locs ls hP hS hl hf
      rw [f_X5_dues_79] at hf
      refine lv_iload hx hb dX5_dues_79 (lv_at hl 4 rfl) ?_
      refine lv_bipush (v := (9 : Int32)) hx hb dX5_dues_81 (by decide) ?_
      refine lv_icmp_gt (tgt := 143) hx hb dX5_dues_83 (by decide) (fun c_7 => ?_) (fun c_7 => ?_)
      · rw [if_pos c_7] at hf
        refine lv_iload hx hb dX5_dues_143 (lv_at hl 2 rfl) ?_
        refine lv_if_ne (tgt := 151) hx hb dX5_dues_145 (by decide) (fun c_8 => ?_) (fun c_8 => ?_)
        · rw [if_neg c_8] at hf
          refine lv_aload_n hx hb dX5_dues_151 rfl (lv_at hl 0 rfl) ?_
          refine lv_iload hx hb dX5_dues_152 (lv_at hl 3 rfl) ?_
          obtain ⟨u_9, eu_9, hf⟩ := lt_ex hf
          refine r_puti hx hb hts hown hC hP hS hinX5 tyX5 tyX5_ok nmX5 0 (by decide) (ci := 4) rfl (by decide) rfl 9 (by decide) (hts (.fieldLink RX5 77 "LoafParts" "told" "I") (by decide +kernel)) rfl (ty := .int) (by decide +kernel) rfl rfl (by decide) (by decide) eu_9 dX5_dues_154 (fun H locs hP hS => ?_)
          refine lv_iload hx hb dX5_dues_157 (lv_at hl 2 rfl) ?_
          obtain ⟨rfl, rfl⟩ := sp2 hf
          exact kret _ _ _ _ dX5_dues_159 hP hS trivial
        rw [if_pos c_8] at hf
        refine lv_bipush (v := (-9 : Int32)) hx hb dX5_dues_148 (by decide) ?_
        obtain ⟨rfl, rfl⟩ := sp2 hf
        exact kret _ _ _ _ dX5_dues_150 hP hS trivial
      rw [if_neg c_7] at hf
      refine lv_iconst (v := (1 : Int32)) hx hb dX5_dues_86 (by decide) ?_
      refine lv_istore (lv' := [(7, .int (1 : Int32)), (0, .ref (aD g 0)), (3, .int x3), (4, .int x4), (5, .int x5), (6, .int x6)]) hx hb dX5_dues_87 hl (by decide) rfl (fun ls hl => ?_)
      exact w_89 (f_X5_dues_79 n) ih fu x3 x4 x5 x6 (1 : Int32) u _ _ _ hP hS (lv_sub hl [1, 2, 3, 4, 5, 0] rfl) hf
  have w_35 : ∀ (n : Nat), ∀ (x1 : Int32) (x3 : Int32) (x4 : Int32) (u : UU) (H : Heap) (locs : List Loc) (ls : Array Slot), Ps g 0 55 u H → va_S (aA g) s.heap H locs → lv_has ls 8 [(0, .ref (aD g 0)), (1, .int x1), (3, .int x3), (4, .int x4)] → f_X5_dues_35 n x1 x3 x4 u = some (r, u') → W p l e R s m args below meth c H locs 0 0 Q (F0 m 35 ls []) := by
    intro n
    induction n with
    | zero =>
      intro x1 x3 x4 u H locs ls hP hS hl hf
      rw [f_X5_dues_35] at hf
      cases hf
    | succ n ih =>
      intro x1 x3 x4 u H locs ls hP hS hl hf
      rw [f_X5_dues_35] at hf
      refine lv_iload hx hb dX5_dues_35 (lv_at hl 3 rfl) ?_
      refine lv_aload_n hx hb dX5_dues_37 rfl (lv_at hl 0 rfl) ?_
      refine r_get hx hb hts hown hC hP hinX5 0 (by decide) (ci := 4) rfl (by decide) rfl 0 (by decide) (hts (.fieldLink RX5 14 "LoafParts" "rows" "LLoafParts$Shelf;") (by decide +kernel)) (v := .ref (aD g 1)) rfl dX5_dues_38 ?_
      refine lv_iload_n hx hb dX5_dues_41 rfl (lv_at hl 1 rfl) ?_
      obtain ⟨q_5, hq_5, hf⟩ := bind_ex hf
      refine r_Vi (As := [.int x1]) (rest := [.int x4]) (k := 1) (ci := 2) ⟨hx, hb, hml, hown, hts⟩ hC hP hS (by decide) rfl (by decide) rfl (c_X3_sizeOf l g 1 6 shf_rows u x1 hq_5) (cwV 1 hts gX5_dues_X3_sizeOf rfl rfl rfl (by decide +kernel) ⟨(Nat.le_trans (Nat.le_of_ble_eq_true rfl) hRf), (Nat.le_trans (Nat.le_of_ble_eq_true rfl) hRl)⟩) rfl hl.1 rfl (Nat.le_of_ble_eq_true rfl) dX5_dues_42 (fun H locs hP hS => ?_)
      refine lv_icmp_ge (tgt := 70) hx hb dX5_dues_45 (by decide) (fun c_6 => ?_) (fun c_6 => ?_)
      · rw [if_pos c_6] at hf
        refine lv_iconst (v := (0 : Int32)) hx hb dX5_dues_70 (by decide) ?_
        refine lv_istore (lv' := [(4, .int (0 : Int32)), (0, .ref (aD g 0)), (1, .int x1), (3, .int x3)]) hx hb dX5_dues_71 hl (by decide) rfl (fun ls hl => ?_)
        refine lv_iconst (v := (0 : Int32)) hx hb dX5_dues_73 (by decide) ?_
        refine lv_istore (lv' := [(5, .int (0 : Int32)), (4, .int (0 : Int32)), (0, .ref (aD g 0)), (1, .int x1), (3, .int x3)]) hx hb dX5_dues_74 hl (by decide) rfl (fun ls hl => ?_)
        refine lv_iconst (v := (1 : Int32)) hx hb dX5_dues_76 (by decide) ?_
        refine lv_istore (lv' := [(6, .int (1 : Int32)), (5, .int (0 : Int32)), (4, .int (0 : Int32)), (0, .ref (aD g 0)), (1, .int x1), (3, .int x3)]) hx hb dX5_dues_77 hl (by decide) rfl (fun ls hl => ?_)
        exact w_79 fu x3 (0 : Int32) (0 : Int32) (1 : Int32) u _ _ _ hP hS (lv_sub hl [3, 5, 2, 1, 0] rfl) hf
      rw [if_neg c_6] at hf
      refine lv_iload_n hx hb dX5_dues_48 rfl (lv_at hl 2 rfl) ?_
      refine lv_aload_n hx hb dX5_dues_49 rfl (lv_at hl 0 rfl) ?_
      refine r_get hx hb hts hown hC hP hinX5 0 (by decide) (ci := 4) rfl (by decide) rfl 0 (by decide) (hts (.fieldLink RX5 14 "LoafParts" "rows" "LLoafParts$Shelf;") (by decide +kernel)) (v := .ref (aD g 1)) rfl dX5_dues_50 ?_
      refine lv_iload_n hx hb dX5_dues_53 rfl (lv_at hl 1 rfl) ?_
      refine lv_iload hx hb dX5_dues_54 (lv_at hl 3 rfl) ?_
      obtain ⟨q_17, hq_17, hf⟩ := bind_ex hf
      refine r_Vi (As := [.int x1, .int x4]) (rest := [.int x3]) (k := 1) (ci := 2) ⟨hx, hb, hml, hown, hts⟩ hC hP hS (by decide) rfl (by decide) rfl (c_X3_read l g 1 6 shf_rows u x1 x4 hq_17) (cwV 2 hts gX5_dues_X3_read rfl rfl rfl (by decide +kernel) ⟨(Nat.le_trans (Nat.le_of_ble_eq_true rfl) hRf), (Nat.le_trans (Nat.le_of_ble_eq_true rfl) hRl)⟩) rfl hl.1 rfl (Nat.le_of_ble_eq_true rfl) dX5_dues_56 (fun H locs hP hS => ?_)
      refine r_Si (As := [.int q_17]) (rest := [.int x3]) ⟨hx, hb, hml, hown, hts⟩ hC hP hS (c_X5_partSize l g u q_17 rfl) (va_cwS 1 hts gX5_dues_X5_partSize rfl rfl rfl (by decide +kernel) ⟨(Nat.le_trans (Nat.le_of_ble_eq_true rfl) hRf), (Nat.le_trans (Nat.le_of_ble_eq_true rfl) hRl)⟩) rfl hl.1 rfl (Nat.le_of_ble_eq_true rfl) dX5_dues_59 (fun H locs hP hS => ?_)
      refine lv_iadd hx hb dX5_dues_62 ?_
      obtain ⟨x3_18, ex3_18, hf⟩ := lt_ex hf
      refine r_nm ex3_18 ?_
      refine lv_istore_n (lv' := [(3, .int x3_18), (0, .ref (aD g 0)), (1, .int x1), (4, .int x4)]) hx hb dX5_dues_63 rfl hl (by decide) rfl (fun ls hl => ?_)
      obtain ⟨x4_19, ex4_19, hf⟩ := lt_ex hf
      refine lv_iinc (v := x4_19) (lv' := [(4, .int x4_19), (3, .int x3_18), (0, .ref (aD g 0)), (1, .int x1)]) hx hb dX5_dues_64 hl (k := 3) rfl (by rw [ex4_19]; rfl) (by decide) rfl (fun ls hl => ?_)
      refine lv_goto (tgt := 35) hx hb dX5_dues_67 (by decide) ?_
      exact ih x1 x3_18 x4_19 u _ _ _ hP hS (lv_sub hl [2, 3, 1, 0] rfl) hf
  unfold f_X5_dues at hf
  refine lv_aload_n hx hb dX5_dues_0 rfl (lv_at hl 0 rfl) ?_
  refine lv_aload_n hx hb dX5_dues_1 rfl (lv_at hl 0 rfl) ?_
  refine r_get hx hb hts hown hC hP hinX5 0 (by decide) (ci := 4) rfl (by decide) rfl 0 (by decide) (hts (.fieldLink RX5 14 "LoafParts" "rows" "LLoafParts$Shelf;") (by decide +kernel)) (v := .ref (aD g 1)) rfl dX5_dues_2 ?_
  refine lv_iload_n hx hb dX5_dues_5 rfl (lv_at hl 1 rfl) ?_
  obtain ⟨q_1, hq_1, hf⟩ := bind_ex hf
  refine r_Vi (r := q_1.1) (u' := q_1.2) (As := [.ref (aD g 1), .int x1]) (rest := []) (k := 0) (ci := 4) ⟨hx, hb, hml, hown, hts⟩ hC hP hS (by decide) rfl (by decide) rfl (c_X5_refuseMissing l g 1 6 shf_rows u x1 hq_1) (cwV 2 hts gX5_dues_X5_refuseMissing rfl rfl rfl (by decide +kernel) ⟨(Nat.le_trans (Nat.le_of_ble_eq_true rfl) hRf), (Nat.le_trans (Nat.le_of_ble_eq_true rfl) hRl)⟩) rfl hl.1 rfl (Nat.le_of_ble_eq_true rfl) dX5_dues_6 (fun H locs hP hS => ?_)
  refine lv_istore_n (lv' := [(2, .int q_1.1), (0, .ref (aD g 0)), (1, .int x1)]) hx hb dX5_dues_9 rfl hl (by decide) rfl (fun ls hl => ?_)
  refine lv_iload_n hx hb dX5_dues_10 rfl (lv_at hl 0 rfl) ?_
  refine lv_if_eq (tgt := 16) hx hb dX5_dues_11 (by decide) (fun c_2 => ?_) (fun c_2 => ?_)
  · rw [if_pos c_2] at hf
    refine lv_aload_n hx hb dX5_dues_16 rfl (lv_at hl 1 rfl) ?_
    refine lv_iload_n hx hb dX5_dues_17 rfl (lv_at hl 2 rfl) ?_
    obtain ⟨q_3, hq_3, hf⟩ := bind_ex hf
    refine r_Vi (As := [.int x1]) (rest := []) (k := 0) (ci := 4) ⟨hx, hb, hml, hown, hts⟩ hC hP hS (by decide) rfl (by decide) rfl (c_X5_isSetOfParts l g q_1.2 x1 hq_3) (cwV 1 hts gX5_dues_X5_isSetOfParts rfl rfl rfl (by decide +kernel) ⟨(Nat.le_trans (Nat.le_of_ble_eq_true rfl) hRf), (Nat.le_trans (Nat.le_of_ble_eq_true rfl) hRl)⟩) rfl hl.1 rfl (Nat.le_of_ble_eq_true rfl) dX5_dues_18 (fun H locs hP hS => ?_)
    refine lv_if_ne (tgt := 30) hx hb dX5_dues_21 (by decide) (fun c_4 => ?_) (fun c_4 => ?_)
    · rw [if_neg c_4] at hf
      refine lv_iconst (v := (0 : Int32)) hx hb dX5_dues_30 (by decide) ?_
      refine lv_istore_n (lv' := [(3, .int (0 : Int32)), (2, .int q_1.1), (0, .ref (aD g 0)), (1, .int x1)]) hx hb dX5_dues_31 rfl hl (by decide) rfl (fun ls hl => ?_)
      refine lv_iconst (v := (0 : Int32)) hx hb dX5_dues_32 (by decide) ?_
      refine lv_istore (lv' := [(4, .int (0 : Int32)), (3, .int (0 : Int32)), (2, .int q_1.1), (0, .ref (aD g 0)), (1, .int x1)]) hx hb dX5_dues_33 hl (by decide) rfl (fun ls hl => ?_)
      exact w_35 fu x1 (0 : Int32) (0 : Int32) q_1.2 _ _ _ hP hS (lv_sub hl [3, 4, 1, 0] rfl) hf
    rw [if_pos c_4] at hf
    refine lv_aload_n hx hb dX5_dues_24 rfl (lv_at hl 1 rfl) ?_
    refine lv_iconst (v := (3 : Int32)) hx hb dX5_dues_25 (by decide) ?_
    obtain ⟨q_20, hq_20, hf⟩ := bind_ex hf
    refine r_Vi (r := q_20.1) (u' := q_20.2) (As := [.int (3 : Int32)]) (rest := []) (k := 0) (ci := 4) ⟨hx, hb, hml, hown, hts⟩ hC hP hS (by decide) rfl (by decide) rfl (c_X5_found l g q_1.2 (3 : Int32) hq_20) (cwV 1 hts gX5_dues_X5_found rfl rfl rfl (by decide +kernel) ⟨(Nat.le_trans (Nat.le_of_ble_eq_true rfl) hRf), (Nat.le_trans (Nat.le_of_ble_eq_true rfl) hRl)⟩) rfl hl.1 rfl (Nat.le_of_ble_eq_true rfl) dX5_dues_26 (fun H locs hP hS => ?_)
    obtain ⟨rfl, rfl⟩ := sp2 hf
    exact kret _ _ _ _ dX5_dues_29 hP hS trivial
  rw [if_neg c_2] at hf
  refine lv_iload_n hx hb dX5_dues_14 rfl (lv_at hl 0 rfl) ?_
  obtain ⟨rfl, rfl⟩ := sp2 hf
  exact kret _ _ _ _ dX5_dues_15 hP hS trivial
set_option maxHeartbeats 4000000 in
set_option maxRecDepth 100000 in
theorem c_X5_refusePairs (l : Launch) (g : GG) (u : UU) (x1 : Int32) {r : Int32} {u' : UU} (hf : f_X5_refusePairs x1 u = some (r, u')) : Ci l g 0 55 yX5_refusePairs wsX5_refusePairs 4 85 [.ref (aD g 0), .int x1] u r u' := by
  refine ct_i (cc := cX5_refusePairs) (maxL := 6) (by decide) rfl (Nat.le_of_ble_eq_true rfl) ?_
  intro p e s m args below meth c R Q ls hx hb hml hown hts hC hP hl hRf hRl kret hS
  have hown : s.vm.findClass RX5 = some m.cls := hown
  have hl : lv_has ls 6 [(0, .ref (aD g 0)), (1, .int x1)] := hl
  have hinX5 : ∀ w ∈ u_ws RX5 TX5 12, w ∈ wsX5_refusePairs := by decide +kernel
  have w_87 : ∀ (u : UU) (H : Heap) (locs : List Loc) (ls : Array Slot), Ps g 0 55 u H → va_S (aA g) s.heap H locs → lv_has ls 6 [(0, .ref (aD g 0))] → f_X5_refusePairs_87 u = some (r, u') → W p l e R s m args below meth c H locs 0 0 Q (F0 m 87 ls []) := by
    intro u H locs ls hP hS hl hf
    unfold f_X5_refusePairs_87 at hf
    refine lv_aload_n hx hb dX5_refusePairs_87 rfl (lv_at hl 0 rfl) ?_
    refine lv_iconst (v := (3 : Int32)) hx hb dX5_refusePairs_88 (by decide) ?_
    obtain ⟨q_9, hq_9, hf⟩ := bind_ex hf
    refine r_Vi (r := q_9.1) (u' := q_9.2) (As := [.int (3 : Int32)]) (rest := []) (k := 0) (ci := 4) ⟨hx, hb, hml, hown, hts⟩ hC hP hS (by decide) rfl (by decide) rfl (c_X5_found l g u (3 : Int32) hq_9) (cwV 1 hts gX5_refusePairs_X5_found rfl rfl rfl (by decide +kernel) ⟨(Nat.le_trans (Nat.le_of_ble_eq_true rfl) hRf), (Nat.le_trans (Nat.le_of_ble_eq_true rfl) hRl)⟩) rfl hl.1 rfl (Nat.le_of_ble_eq_true rfl) dX5_refusePairs_89 (fun H locs hP hS => ?_)
    obtain ⟨rfl, rfl⟩ := sp2 hf
    exact kret _ _ _ _ dX5_refusePairs_92 hP hS trivial
  have w_40 : ∀ (n : Nat), ∀ (x1 : Int32) (x3 : Int32) (x4 : Int32) (u : UU) (H : Heap) (locs : List Loc) (ls : Array Slot), Ps g 0 55 u H → va_S (aA g) s.heap H locs → lv_has ls 6 [(0, .ref (aD g 0)), (1, .int x1), (3, .int x3), (4, .int x4)] → f_X5_refusePairs_40 n x1 x3 x4 u = some (r, u') → W p l e R s m args below meth c H locs 0 0 Q (F0 m 40 ls []) := by
    intro n
    induction n with
    | zero =>
      intro x1 x3 x4 u H locs ls hP hS hl hf
      rw [f_X5_refusePairs_40] at hf
      cases hf
    | succ n ih =>
      intro x1 x3 x4 u H locs ls hP hS hl hf
      rw [f_X5_refusePairs_40] at hf
      refine lv_iload hx hb dX5_refusePairs_40 (lv_at hl 3 rfl) ?_
      refine lv_iload_n hx hb dX5_refusePairs_42 rfl (lv_at hl 2 rfl) ?_
      refine lv_icmp_ge (tgt := 99) hx hb dX5_refusePairs_43 (by decide) (fun c_5 => ?_) (fun c_5 => ?_)
      · rw [if_pos c_5] at hf
        refine lv_iconst (v := (0 : Int32)) hx hb dX5_refusePairs_99 (by decide) ?_
        obtain ⟨rfl, rfl⟩ := sp2 hf
        exact kret _ _ _ _ dX5_refusePairs_100 hP hS trivial
      rw [if_neg c_5] at hf
      refine lv_aload_n hx hb dX5_refusePairs_46 rfl (lv_at hl 0 rfl) ?_
      refine r_get hx hb hts hown hC hP hinX5 0 (by decide) (ci := 4) rfl (by decide) rfl 0 (by decide) (hts (.fieldLink RX5 14 "LoafParts" "rows" "LLoafParts$Shelf;") (by decide +kernel)) (v := .ref (aD g 1)) rfl dX5_refusePairs_47 ?_
      refine lv_iload_n hx hb dX5_refusePairs_50 rfl (lv_at hl 1 rfl) ?_
      refine lv_iload hx hb dX5_refusePairs_51 (lv_at hl 3 rfl) ?_
      refine lv_iconst (v := (1 : Int32)) hx hb dX5_refusePairs_53 (by decide) ?_
      refine lv_iadd hx hb dX5_refusePairs_54 ?_
      obtain ⟨q_6, hq_6, hf⟩ := bind_ex hf
      refine r_Vi (As := [.int x1, .int (x4 + (1 : Int32))]) (rest := []) (k := 1) (ci := 2) ⟨hx, hb, hml, hown, hts⟩ hC hP hS (by decide) rfl (by decide) rfl (c_X3_read l g 1 6 shf_rows u x1 (x4 + (1 : Int32)) hq_6) (cwV 2 hts gX5_refusePairs_X3_read rfl rfl rfl (by decide +kernel) ⟨(Nat.le_trans (Nat.le_of_ble_eq_true rfl) hRf), (Nat.le_trans (Nat.le_of_ble_eq_true rfl) hRl)⟩) rfl hl.1 rfl (Nat.le_of_ble_eq_true rfl) dX5_refusePairs_55 (fun H locs hP hS => ?_)
      refine lv_istore (lv' := [(5, .int q_6), (0, .ref (aD g 0)), (1, .int x1), (3, .int x3), (4, .int x4)]) hx hb dX5_refusePairs_58 hl (by decide) rfl (fun ls hl => ?_)
      refine lv_aload_n hx hb dX5_refusePairs_60 rfl (lv_at hl 1 rfl) ?_
      refine r_get hx hb hts hown hC hP hinX5 0 (by decide) (ci := 4) rfl (by decide) rfl 0 (by decide) (hts (.fieldLink RX5 14 "LoafParts" "rows" "LLoafParts$Shelf;") (by decide +kernel)) (v := .ref (aD g 1)) rfl dX5_refusePairs_61 ?_
      refine lv_iload_n hx hb dX5_refusePairs_64 rfl (lv_at hl 2 rfl) ?_
      refine lv_iload hx hb dX5_refusePairs_65 (lv_at hl 4 rfl) ?_
      obtain ⟨q_7, hq_7, hf⟩ := bind_ex hf
      refine r_Vi (As := [.int x1, .int x4]) (rest := []) (k := 1) (ci := 2) ⟨hx, hb, hml, hown, hts⟩ hC hP hS (by decide) rfl (by decide) rfl (c_X3_read l g 1 6 shf_rows u x1 x4 hq_7) (cwV 2 hts gX5_refusePairs_X3_read rfl rfl rfl (by decide +kernel) ⟨(Nat.le_trans (Nat.le_of_ble_eq_true rfl) hRf), (Nat.le_trans (Nat.le_of_ble_eq_true rfl) hRl)⟩) rfl hl.1 rfl (Nat.le_of_ble_eq_true rfl) dX5_refusePairs_67 (fun H locs hP hS => ?_)
      refine r_Si (As := [.int q_7]) (rest := []) ⟨hx, hb, hml, hown, hts⟩ hC hP hS (c_X5_isPart l g u q_7 rfl) (va_cwS 1 hts gX5_refusePairs_X5_isPart rfl rfl rfl (by decide +kernel) ⟨(Nat.le_trans (Nat.le_of_ble_eq_true rfl) hRf), (Nat.le_trans (Nat.le_of_ble_eq_true rfl) hRl)⟩) rfl hl.1 rfl (Nat.le_of_ble_eq_true rfl) dX5_refusePairs_70 (fun H locs hP hS => ?_)
      refine lv_if_eq (tgt := 87) hx hb dX5_refusePairs_73 (by decide) (fun c_8 => ?_) (fun c_8 => ?_)
      · rw [if_pos c_8] at hf
        exact w_87 u _ _ _ hP hS (lv_sub hl [1] rfl) hf
      rw [if_neg c_8] at hf
      refine lv_iload hx hb dX5_refusePairs_76 (lv_at hl 0 rfl) ?_
      refine lv_if_lt (tgt := 87) hx hb dX5_refusePairs_78 (by decide) (fun c_10 => ?_) (fun c_10 => ?_)
      · rw [if_pos c_10] at hf
        exact w_87 u _ _ _ hP hS (lv_sub hl [1] rfl) hf
      rw [if_neg c_10] at hf
      refine lv_iload hx hb dX5_refusePairs_81 (lv_at hl 0 rfl) ?_
      refine lv_iconst (v := (1 : Int32)) hx hb dX5_refusePairs_83 (by decide) ?_
      refine lv_icmp_le (tgt := 93) hx hb dX5_refusePairs_84 (by decide) (fun c_11 => ?_) (fun c_11 => ?_)
      · rw [if_pos c_11] at hf
        obtain ⟨x4_12, ex4_12, hf⟩ := lt_ex hf
        refine lv_iinc (v := x4_12) (lv' := [(4, .int x4_12), (5, .int q_6), (0, .ref (aD g 0)), (1, .int x1), (3, .int x3)]) hx hb dX5_refusePairs_93 hl (k := 4) rfl (by rw [ex4_12]; rfl) (by decide) rfl (fun ls hl => ?_)
        refine lv_goto (tgt := 40) hx hb dX5_refusePairs_96 (by decide) ?_
        exact ih x1 x3 x4_12 u _ _ _ hP hS (lv_sub hl [2, 3, 4, 0] rfl) hf
      rw [if_neg c_11] at hf
      exact w_87 u _ _ _ hP hS (lv_sub hl [1] rfl) hf
  unfold f_X5_refusePairs at hf
  refine lv_aload_n hx hb dX5_refusePairs_0 rfl (lv_at hl 0 rfl) ?_
  refine lv_aload_n hx hb dX5_refusePairs_1 rfl (lv_at hl 0 rfl) ?_
  refine r_get hx hb hts hown hC hP hinX5 0 (by decide) (ci := 4) rfl (by decide) rfl 0 (by decide) (hts (.fieldLink RX5 14 "LoafParts" "rows" "LLoafParts$Shelf;") (by decide +kernel)) (v := .ref (aD g 1)) rfl dX5_refusePairs_2 ?_
  refine lv_iload_n hx hb dX5_refusePairs_5 rfl (lv_at hl 1 rfl) ?_
  obtain ⟨q_1, hq_1, hf⟩ := bind_ex hf
  refine r_Vi (r := q_1.1) (u' := q_1.2) (As := [.ref (aD g 1), .int x1]) (rest := []) (k := 0) (ci := 4) ⟨hx, hb, hml, hown, hts⟩ hC hP hS (by decide) rfl (by decide) rfl (c_X5_refuseMissing l g 1 6 shf_rows u x1 hq_1) (cwV 2 hts gX5_refusePairs_X5_refuseMissing rfl rfl rfl (by decide +kernel) ⟨(Nat.le_trans (Nat.le_of_ble_eq_true rfl) hRf), (Nat.le_trans (Nat.le_of_ble_eq_true rfl) hRl)⟩) rfl hl.1 rfl (Nat.le_of_ble_eq_true rfl) dX5_refusePairs_6 (fun H locs hP hS => ?_)
  refine lv_istore_n (lv' := [(2, .int q_1.1), (0, .ref (aD g 0)), (1, .int x1)]) hx hb dX5_refusePairs_9 rfl hl (by decide) rfl (fun ls hl => ?_)
  refine lv_iload_n hx hb dX5_refusePairs_10 rfl (lv_at hl 0 rfl) ?_
  refine lv_if_eq (tgt := 16) hx hb dX5_refusePairs_11 (by decide) (fun c_2 => ?_) (fun c_2 => ?_)
  · rw [if_pos c_2] at hf
    refine lv_aload_n hx hb dX5_refusePairs_16 rfl (lv_at hl 1 rfl) ?_
    refine r_get hx hb hts hown hC hP hinX5 0 (by decide) (ci := 4) rfl (by decide) rfl 0 (by decide) (hts (.fieldLink RX5 14 "LoafParts" "rows" "LLoafParts$Shelf;") (by decide +kernel)) (v := .ref (aD g 1)) rfl dX5_refusePairs_17 ?_
    refine lv_iload_n hx hb dX5_refusePairs_20 rfl (lv_at hl 2 rfl) ?_
    obtain ⟨q_3, hq_3, hf⟩ := bind_ex hf
    refine r_Vi (As := [.int x1]) (rest := []) (k := 1) (ci := 2) ⟨hx, hb, hml, hown, hts⟩ hC hP hS (by decide) rfl (by decide) rfl (c_X3_sizeOf l g 1 6 shf_rows q_1.2 x1 hq_3) (cwV 1 hts gX5_refusePairs_X3_sizeOf rfl rfl rfl (by decide +kernel) ⟨(Nat.le_trans (Nat.le_of_ble_eq_true rfl) hRf), (Nat.le_trans (Nat.le_of_ble_eq_true rfl) hRl)⟩) rfl hl.1 rfl (Nat.le_of_ble_eq_true rfl) dX5_refusePairs_21 (fun H locs hP hS => ?_)
    refine lv_istore_n (lv' := [(3, .int q_3), (2, .int q_1.1), (0, .ref (aD g 0)), (1, .int x1)]) hx hb dX5_refusePairs_24 rfl hl (by decide) rfl (fun ls hl => ?_)
    refine lv_iload_n hx hb dX5_refusePairs_25 rfl (lv_at hl 0 rfl) ?_
    refine lv_iconst (v := (2 : Int32)) hx hb dX5_refusePairs_26 (by decide) ?_
    refine lv_irem hx hb dX5_refusePairs_27 (by decide) ?_
    refine lv_if_eq (tgt := 37) hx hb dX5_refusePairs_28 (by decide) (fun c_4 => ?_) (fun c_4 => ?_)
    · rw [if_pos c_4] at hf
      refine lv_iconst (v := (0 : Int32)) hx hb dX5_refusePairs_37 (by decide) ?_
      refine lv_istore (lv' := [(4, .int (0 : Int32)), (3, .int q_3), (2, .int q_1.1), (0, .ref (aD g 0)), (1, .int x1)]) hx hb dX5_refusePairs_38 hl (by decide) rfl (fun ls hl => ?_)
      exact w_40 fu x1 q_3 (0 : Int32) q_1.2 _ _ _ hP hS (lv_sub hl [3, 4, 1, 0] rfl) hf
    rw [if_neg c_4] at hf
    refine lv_aload_n hx hb dX5_refusePairs_31 rfl (lv_at hl 2 rfl) ?_
    refine lv_iconst (v := (5 : Int32)) hx hb dX5_refusePairs_32 (by decide) ?_
    obtain ⟨q_13, hq_13, hf⟩ := bind_ex hf
    refine r_Vi (r := q_13.1) (u' := q_13.2) (As := [.int (5 : Int32)]) (rest := []) (k := 0) (ci := 4) ⟨hx, hb, hml, hown, hts⟩ hC hP hS (by decide) rfl (by decide) rfl (c_X5_found l g q_1.2 (5 : Int32) hq_13) (cwV 1 hts gX5_refusePairs_X5_found rfl rfl rfl (by decide +kernel) ⟨(Nat.le_trans (Nat.le_of_ble_eq_true rfl) hRf), (Nat.le_trans (Nat.le_of_ble_eq_true rfl) hRl)⟩) rfl hl.1 rfl (Nat.le_of_ble_eq_true rfl) dX5_refusePairs_33 (fun H locs hP hS => ?_)
    obtain ⟨rfl, rfl⟩ := sp2 hf
    exact kret _ _ _ _ dX5_refusePairs_36 hP hS trivial
  rw [if_neg c_2] at hf
  refine lv_iload_n hx hb dX5_refusePairs_14 rfl (lv_at hl 0 rfl) ?_
  obtain ⟨rfl, rfl⟩ := sp2 hf
  exact kret _ _ _ _ dX5_refusePairs_15 hP hS trivial
set_option maxHeartbeats 4000000 in
set_option maxRecDepth 100000 in
theorem c_X0_answeringAlike (l : Launch) (g : GG) (u : UU) (x0 : Int32) (x1 : Int32) (x2 : Int32) {r : Int32} (hf : f_X0_answeringAlike x0 x1 x2 u = some r) : Ci l g 0 55 yX0_answeringAlike wsX0_answeringAlike 1 21 [.int x0, .int x1, .int x2] u r u := by
  refine ct_i (cc := cX0_answeringAlike) (maxL := 5) (by decide) rfl (Nat.le_of_ble_eq_true rfl) ?_
  intro p e s m args below meth c R Q ls hx hb hml hown hts hC hP hl hRf hRl kret hS
  have hown : s.vm.findClass RX0 = some m.cls := hown
  have hl : lv_has ls 5 [(0, .int x0), (1, .int x1), (2, .int x2)] := hl
  have w_41 : ∀ (k_5 : Int32 → Int32 → Int32 → Int32 → Int32 → UU → Option Int32) (K_5 : ∀ (x0 : Int32) (x1 : Int32) (x2 : Int32) (x3 : Int32) (x4 : Int32) (H : Heap) (locs : List Loc) (ls : Array Slot), Ps g 0 55 u H → va_S (aA g) s.heap H locs → lv_has ls 5 [(0, .int x0), (1, .int x1), (2, .int x2), (3, .int x3), (4, .int x4)] → k_5 x0 x1 x2 x3 x4 u = some r → W p l e R s m args below meth c H locs 0 0 Q (F0 m 5 ls [])), ∀ (x0 : Int32) (x1 : Int32) (x2 : Int32) (x3 : Int32) (x4 : Int32) (H : Heap) (locs : List Loc) (ls : Array Slot), Ps g 0 55 u H → va_S (aA g) s.heap H locs → lv_has ls 5 [(0, .int x0), (1, .int x1), (2, .int x2), (3, .int x3), (4, .int x4)] → f_X0_answeringAlike_41 k_5 x0 x1 x2 x3 x4 u = some r → W p l e R s m args below meth c H locs 0 0 Q (F0 m 41 ls []) := by
    intro k_5 K_5
    intro x0 x1 x2 x3 x4 H locs ls hP hS hl hf
    unfold f_X0_answeringAlike_41 at hf
    obtain ⟨x4_3, ex4_3, hf⟩ := lt_ex hf
    refine lv_iinc (v := x4_3) (lv' := [(4, .int x4_3), (0, .int x0), (1, .int x1), (2, .int x2), (3, .int x3)]) hx hb dX0_answeringAlike_41 hl (k := 4) rfl (by rw [ex4_3]; rfl) (by decide) rfl (fun ls hl => ?_)
    refine lv_goto (tgt := 5) hx hb dX0_answeringAlike_44 (by decide) ?_
    exact K_5 x0 x1 x2 x3 x4_3 _ _ _ hP hS (lv_sub hl [1, 2, 3, 4, 0] rfl) hf
  have w_5 : ∀ (n : Nat), ∀ (x0 : Int32) (x1 : Int32) (x2 : Int32) (x3 : Int32) (x4 : Int32) (H : Heap) (locs : List Loc) (ls : Array Slot), Ps g 0 55 u H → va_S (aA g) s.heap H locs → lv_has ls 5 [(0, .int x0), (1, .int x1), (2, .int x2), (3, .int x3), (4, .int x4)] → f_X0_answeringAlike_5 n x0 x1 x2 x3 x4 u = some r → W p l e R s m args below meth c H locs 0 0 Q (F0 m 5 ls []) := by
    intro n
    induction n with
    | zero =>
      intro x0 x1 x2 x3 x4 H locs ls hP hS hl hf
      rw [f_X0_answeringAlike_5] at hf
      cases hf
    | succ n ih =>
      intro x0 x1 x2 x3 x4 H locs ls hP hS hl hf
      rw [f_X0_answeringAlike_5] at hf
      refine lv_iload hx hb dX0_answeringAlike_5 (lv_at hl 4 rfl) ?_
      refine lv_bipush (v := (6 : Int32)) hx hb dX0_answeringAlike_7 (by decide) ?_
      refine lv_icmp_ge (tgt := 47) hx hb dX0_answeringAlike_9 (by decide) (fun c_1 => ?_) (fun c_1 => ?_)
      · rw [if_pos c_1] at hf
        refine lv_iload_n hx hb dX0_answeringAlike_47 rfl (lv_at hl 3 rfl) ?_
        obtain rfl := sp1 hf
        exact kret _ _ _ _ dX0_answeringAlike_48 hP hS trivial
      rw [if_neg c_1] at hf
      refine lv_iload_n hx hb dX0_answeringAlike_12 rfl (lv_at hl 0 rfl) ?_
      refine lv_iload hx hb dX0_answeringAlike_13 (lv_at hl 4 rfl) ?_
      refine r_SNi (As := [.int x0, .int x4]) (rest := []) ⟨hx, hb, hml, hown, hts⟩ hC hP hS (c_X5_holds l g u x0 x4 rfl) ⟨va_cnB 2 hts gX0_answeringAlike_X5_holds_n17 rfl rfl rfl (hC.2.2.1.2 _ (List.mem_of_getElem? (i := 0) rfl)) (hts (.initialized RX5) (by decide +kernel)) (by decide +kernel) ⟨(Nat.le_trans (Nat.le_of_ble_eq_true rfl) hRf), (Nat.le_trans (Nat.le_of_ble_eq_true rfl) hRl)⟩, hts (.static yX5_holds) (by decide +kernel), trivial⟩ rfl hl.1 rfl (Nat.le_of_ble_eq_true rfl) dX0_answeringAlike_15 (fun H locs hP hS => ?_)
      refine lv_if_eq (tgt := 41) hx hb dX0_answeringAlike_18 (by decide) (fun c_2 => ?_) (fun c_2 => ?_)
      · rw [if_pos c_2] at hf
        exact w_41 (f_X0_answeringAlike_5 n) ih x0 x1 x2 x3 x4 _ _ _ hP hS (lv_sub hl [0, 1, 2, 3, 4] rfl) hf
      rw [if_neg c_2] at hf
      refine lv_iload hx hb dX0_answeringAlike_21 (lv_at hl 4 rfl) ?_
      refine r_Si (As := [.int x4]) (rest := []) ⟨hx, hb, hml, hown, hts⟩ hC hP hS (c_X0_partsOf l g u x4 rfl) (va_cwS 1 hts gX0_answeringAlike_X0_partsOf rfl rfl rfl (by decide +kernel) ⟨(Nat.le_trans (Nat.le_of_ble_eq_true rfl) hRf), (Nat.le_trans (Nat.le_of_ble_eq_true rfl) hRl)⟩) rfl hl.1 rfl (Nat.le_of_ble_eq_true rfl) dX0_answeringAlike_23 (fun H locs hP hS => ?_)
      refine lv_iload_n hx hb dX0_answeringAlike_26 rfl (lv_at hl 1 rfl) ?_
      refine r_SNi (As := [.int (f_X0_partsOf x4), .int x1]) (rest := []) ⟨hx, hb, hml, hown, hts⟩ hC hP hS (c_X5_holds l g u (f_X0_partsOf x4) x1 rfl) ⟨va_cnB 2 hts gX0_answeringAlike_X5_holds_n17 rfl rfl rfl (hC.2.2.1.2 _ (List.mem_of_getElem? (i := 0) rfl)) (hts (.initialized RX5) (by decide +kernel)) (by decide +kernel) ⟨(Nat.le_trans (Nat.le_of_ble_eq_true rfl) hRf), (Nat.le_trans (Nat.le_of_ble_eq_true rfl) hRl)⟩, hts (.static yX5_holds) (by decide +kernel), trivial⟩ rfl hl.1 rfl (Nat.le_of_ble_eq_true rfl) dX0_answeringAlike_27 (fun H locs hP hS => ?_)
      refine lv_iload_n hx hb dX0_answeringAlike_30 rfl (lv_at hl 2 rfl) ?_
      refine lv_icmp_ne (tgt := 41) hx hb dX0_answeringAlike_31 (by decide) (fun c_4 => ?_) (fun c_4 => ?_)
      · rw [if_neg c_4] at hf
        exact w_41 (f_X0_answeringAlike_5 n) ih x0 x1 x2 x3 x4 _ _ _ hP hS (lv_sub hl [0, 1, 2, 3, 4] rfl) hf
      rw [if_pos c_4] at hf
      refine lv_iload_n hx hb dX0_answeringAlike_34 rfl (lv_at hl 3 rfl) ?_
      refine lv_iconst (v := (1 : Int32)) hx hb dX0_answeringAlike_35 (by decide) ?_
      refine lv_iload hx hb dX0_answeringAlike_36 (lv_at hl 4 rfl) ?_
      refine lv_ishl hx hb dX0_answeringAlike_38 ?_
      refine lv_ior hx hb dX0_answeringAlike_39 ?_
      obtain ⟨x3_5, ex3_5, hf⟩ := lt_ex hf
      refine r_nm ex3_5 ?_
      refine lv_istore_n (lv' := [(3, .int x3_5), (0, .int x0), (1, .int x1), (2, .int x2), (4, .int x4)]) hx hb dX0_answeringAlike_40 rfl hl (by decide) rfl (fun ls hl => ?_)
      exact w_41 (f_X0_answeringAlike_5 n) ih x0 x1 x2 x3_5 x4 _ _ _ hP hS (lv_sub hl [1, 2, 3, 0, 4] rfl) hf
  unfold f_X0_answeringAlike at hf
  refine lv_iconst (v := (0 : Int32)) hx hb dX0_answeringAlike_0 (by decide) ?_
  refine lv_istore_n (lv' := [(3, .int (0 : Int32)), (0, .int x0), (1, .int x1), (2, .int x2)]) hx hb dX0_answeringAlike_1 rfl hl (by decide) rfl (fun ls hl => ?_)
  refine lv_iconst (v := (0 : Int32)) hx hb dX0_answeringAlike_2 (by decide) ?_
  refine lv_istore (lv' := [(4, .int (0 : Int32)), (3, .int (0 : Int32)), (0, .int x0), (1, .int x1), (2, .int x2)]) hx hb dX0_answeringAlike_3 hl (by decide) rfl (fun ls hl => ?_)
  exact w_5 fu x0 x1 x2 (0 : Int32) (0 : Int32) _ _ _ hP hS (lv_sub hl [2, 3, 4, 1, 0] rfl) hf
set_option maxHeartbeats 4000000 in
set_option maxRecDepth 100000 in
theorem c_X5_kindsByPairs (l : Launch) (g : GG) (u : UU) (x1 : Int32) {r : Int32} (hf : f_X5_kindsByPairs x1 u = some r) : Ci l g 0 55 yX5_kindsByPairs wsX5_kindsByPairs 3 65 [.ref (aD g 0), .int x1] u r u := by
  refine ct_i (cc := cX5_kindsByPairs) (maxL := 4) (by decide) rfl (Nat.le_of_ble_eq_true rfl) ?_
  intro p e s m args below meth c R Q ls hx hb hml hown hts hC hP hl hRf hRl kret hS
  have hown : s.vm.findClass RX5 = some m.cls := hown
  have hl : lv_has ls 4 [(0, .ref (aD g 0)), (1, .int x1)] := hl
  have hinX5 : ∀ w ∈ u_ws RX5 TX5 12, w ∈ wsX5_kindsByPairs := by decide +kernel
  have w_47 : ∀ (k_5 : Int32 → Int32 → Int32 → UU → Option Int32) (K_5 : ∀ (x1 : Int32) (x2 : Int32) (x3 : Int32) (H : Heap) (locs : List Loc) (ls : Array Slot), Ps g 0 55 u H → va_S (aA g) s.heap H locs → lv_has ls 4 [(0, .ref (aD g 0)), (1, .int x1), (2, .int x2), (3, .int x3)] → k_5 x1 x2 x3 u = some r → W p l e R s m args below meth c H locs 0 0 Q (F0 m 5 ls [])), ∀ (x1 : Int32) (x3 : Int32) (t0 : Int32) (t1 : Int32) (t2 : Int32) (H : Heap) (locs : List Loc) (ls : Array Slot), Ps g 0 55 u H → va_S (aA g) s.heap H locs → lv_has ls 4 [(0, .ref (aD g 0)), (1, .int x1), (3, .int x3)] → f_X5_kindsByPairs_47 k_5 x1 x3 t0 t1 t2 u = some r → W p l e R s m args below meth c H locs 0 0 Q (F0 m 47 ls [.int t0, .int t1, .int t2]) := by
    intro k_5 K_5
    intro x1 x3 t0 t1 t2 H locs ls hP hS hl hf
    unfold f_X5_kindsByPairs_47 at hf
    obtain ⟨q_6, hq_6, hf⟩ := bind_ex hf
    refine r_Si (As := [.int t2, .int t1, .int t0]) (rest := []) ⟨hx, hb, hml, hown, hts⟩ hC hP hS (c_X0_answeringAlike l g u t2 t1 t0 hq_6) (va_cwS 3 hts gX5_kindsByPairs_X0_answeringAlike rfl rfl rfl (by decide +kernel) ⟨(Nat.le_trans (Nat.le_of_ble_eq_true rfl) hRf), (Nat.le_trans (Nat.le_of_ble_eq_true rfl) hRl)⟩) rfl hl.1 rfl (Nat.le_of_ble_eq_true rfl) dX5_kindsByPairs_47 (fun H locs hP hS => ?_)
    refine lv_istore_n (lv' := [(2, .int q_6), (0, .ref (aD g 0)), (1, .int x1), (3, .int x3)]) hx hb dX5_kindsByPairs_50 rfl hl (by decide) rfl (fun ls hl => ?_)
    obtain ⟨x3_7, ex3_7, hf⟩ := lt_ex hf
    refine lv_iinc (v := x3_7) (lv' := [(3, .int x3_7), (2, .int q_6), (0, .ref (aD g 0)), (1, .int x1)]) hx hb dX5_kindsByPairs_51 hl (k := 3) rfl (by rw [ex3_7]; rfl) (by decide) rfl (fun ls hl => ?_)
    refine lv_goto (tgt := 5) hx hb dX5_kindsByPairs_54 (by decide) ?_
    exact K_5 x1 q_6 x3_7 _ _ _ hP hS (lv_sub hl [2, 3, 1, 0] rfl) hf
  have w_5 : ∀ (n : Nat), ∀ (x1 : Int32) (x2 : Int32) (x3 : Int32) (H : Heap) (locs : List Loc) (ls : Array Slot), Ps g 0 55 u H → va_S (aA g) s.heap H locs → lv_has ls 4 [(0, .ref (aD g 0)), (1, .int x1), (2, .int x2), (3, .int x3)] → f_X5_kindsByPairs_5 n x1 x2 x3 u = some r → W p l e R s m args below meth c H locs 0 0 Q (F0 m 5 ls []) := by
    intro n
    induction n with
    | zero =>
      intro x1 x2 x3 H locs ls hP hS hl hf
      rw [f_X5_kindsByPairs_5] at hf
      cases hf
    | succ n ih =>
      intro x1 x2 x3 H locs ls hP hS hl hf
      rw [f_X5_kindsByPairs_5] at hf
      refine lv_iload_n hx hb dX5_kindsByPairs_5 rfl (lv_at hl 3 rfl) ?_
      refine lv_aload_n hx hb dX5_kindsByPairs_6 rfl (lv_at hl 0 rfl) ?_
      refine r_get hx hb hts hown hC hP hinX5 0 (by decide) (ci := 4) rfl (by decide) rfl 0 (by decide) (hts (.fieldLink RX5 14 "LoafParts" "rows" "LLoafParts$Shelf;") (by decide +kernel)) (v := .ref (aD g 1)) rfl dX5_kindsByPairs_7 ?_
      refine lv_iload_n hx hb dX5_kindsByPairs_10 rfl (lv_at hl 1 rfl) ?_
      obtain ⟨q_1, hq_1, hf⟩ := bind_ex hf
      refine r_Vi (As := [.int x1]) (rest := [.int x3]) (k := 1) (ci := 2) ⟨hx, hb, hml, hown, hts⟩ hC hP hS (by decide) rfl (by decide) rfl (c_X3_sizeOf l g 1 6 shf_rows u x1 hq_1) (cwV 1 hts gX5_kindsByPairs_X3_sizeOf rfl rfl rfl (by decide +kernel) ⟨(Nat.le_trans (Nat.le_of_ble_eq_true rfl) hRf), (Nat.le_trans (Nat.le_of_ble_eq_true rfl) hRl)⟩) rfl hl.1 rfl (Nat.le_of_ble_eq_true rfl) dX5_kindsByPairs_11 (fun H locs hP hS => ?_)
      refine lv_icmp_ge (tgt := 57) hx hb dX5_kindsByPairs_14 (by decide) (fun c_2 => ?_) (fun c_2 => ?_)
      · rw [if_pos c_2] at hf
        refine lv_iload_n hx hb dX5_kindsByPairs_57 rfl (lv_at hl 2 rfl) ?_
        obtain rfl := sp1 hf
        exact kret _ _ _ _ dX5_kindsByPairs_58 hP hS trivial
      rw [if_neg c_2] at hf
      refine lv_iload_n hx hb dX5_kindsByPairs_17 rfl (lv_at hl 2 rfl) ?_
      refine lv_aload_n hx hb dX5_kindsByPairs_18 rfl (lv_at hl 0 rfl) ?_
      refine r_get hx hb hts hown hC hP hinX5 0 (by decide) (ci := 4) rfl (by decide) rfl 0 (by decide) (hts (.fieldLink RX5 14 "LoafParts" "rows" "LLoafParts$Shelf;") (by decide +kernel)) (v := .ref (aD g 1)) rfl dX5_kindsByPairs_19 ?_
      refine lv_iload_n hx hb dX5_kindsByPairs_22 rfl (lv_at hl 1 rfl) ?_
      refine lv_iload_n hx hb dX5_kindsByPairs_23 rfl (lv_at hl 3 rfl) ?_
      obtain ⟨q_3, hq_3, hf⟩ := bind_ex hf
      refine r_Vi (As := [.int x1, .int x3]) (rest := [.int x2]) (k := 1) (ci := 2) ⟨hx, hb, hml, hown, hts⟩ hC hP hS (by decide) rfl (by decide) rfl (c_X3_read l g 1 6 shf_rows u x1 x3 hq_3) (cwV 2 hts gX5_kindsByPairs_X3_read rfl rfl rfl (by decide +kernel) ⟨(Nat.le_trans (Nat.le_of_ble_eq_true rfl) hRf), (Nat.le_trans (Nat.le_of_ble_eq_true rfl) hRl)⟩) rfl hl.1 rfl (Nat.le_of_ble_eq_true rfl) dX5_kindsByPairs_24 (fun H locs hP hS => ?_)
      refine lv_aload_n hx hb dX5_kindsByPairs_27 rfl (lv_at hl 0 rfl) ?_
      refine r_get hx hb hts hown hC hP hinX5 0 (by decide) (ci := 4) rfl (by decide) rfl 0 (by decide) (hts (.fieldLink RX5 14 "LoafParts" "rows" "LLoafParts$Shelf;") (by decide +kernel)) (v := .ref (aD g 1)) rfl dX5_kindsByPairs_28 ?_
      refine lv_iload_n hx hb dX5_kindsByPairs_31 rfl (lv_at hl 1 rfl) ?_
      refine lv_iload_n hx hb dX5_kindsByPairs_32 rfl (lv_at hl 3 rfl) ?_
      refine lv_iconst (v := (1 : Int32)) hx hb dX5_kindsByPairs_33 (by decide) ?_
      refine lv_iadd hx hb dX5_kindsByPairs_34 ?_
      obtain ⟨q_4, hq_4, hf⟩ := bind_ex hf
      refine r_Vi (As := [.int x1, .int (x3 + (1 : Int32))]) (rest := [.int q_3, .int x2]) (k := 1) (ci := 2) ⟨hx, hb, hml, hown, hts⟩ hC hP hS (by decide) rfl (by decide) rfl (c_X3_read l g 1 6 shf_rows u x1 (x3 + (1 : Int32)) hq_4) (cwV 2 hts gX5_kindsByPairs_X3_read rfl rfl rfl (by decide +kernel) ⟨(Nat.le_trans (Nat.le_of_ble_eq_true rfl) hRf), (Nat.le_trans (Nat.le_of_ble_eq_true rfl) hRl)⟩) rfl hl.1 rfl (Nat.le_of_ble_eq_true rfl) dX5_kindsByPairs_35 (fun H locs hP hS => ?_)
      refine lv_iconst (v := (1 : Int32)) hx hb dX5_kindsByPairs_38 (by decide) ?_
      refine lv_icmp_ne (tgt := 46) hx hb dX5_kindsByPairs_39 (by decide) (fun c_5 => ?_) (fun c_5 => ?_)
      · rw [if_neg c_5] at hf
        refine lv_iconst (v := (0 : Int32)) hx hb dX5_kindsByPairs_46 (by decide) ?_
        exact w_47 (f_X5_kindsByPairs_5 n) ih x1 x3 (0 : Int32) q_3 x2 _ _ _ hP hS (lv_sub hl [0, 1, 3] rfl) hf
      rw [if_pos c_5] at hf
      refine lv_iconst (v := (1 : Int32)) hx hb dX5_kindsByPairs_42 (by decide) ?_
      refine lv_goto (tgt := 47) hx hb dX5_kindsByPairs_43 (by decide) ?_
      exact w_47 (f_X5_kindsByPairs_5 n) ih x1 x3 (1 : Int32) q_3 x2 _ _ _ hP hS (lv_sub hl [0, 1, 3] rfl) hf
  unfold f_X5_kindsByPairs at hf
  refine lv_bipush (v := (63 : Int32)) hx hb dX5_kindsByPairs_0 (by decide) ?_
  refine lv_istore_n (lv' := [(2, .int (63 : Int32)), (0, .ref (aD g 0)), (1, .int x1)]) hx hb dX5_kindsByPairs_2 rfl hl (by decide) rfl (fun ls hl => ?_)
  refine lv_iconst (v := (0 : Int32)) hx hb dX5_kindsByPairs_3 (by decide) ?_
  refine lv_istore_n (lv' := [(3, .int (0 : Int32)), (2, .int (63 : Int32)), (0, .ref (aD g 0)), (1, .int x1)]) hx hb dX5_kindsByPairs_4 rfl hl (by decide) rfl (fun ls hl => ?_)
  exact w_5 fu x1 (63 : Int32) (0 : Int32) _ _ _ hP hS (lv_sub hl [2, 3, 1, 0] rfl) hf
set_option maxHeartbeats 4000000 in
set_option maxRecDepth 100000 in
theorem c_X5_kinds (l : Launch) (g : GG) (u : UU) (x1 : Int32) {r : Int32} {u' : UU} (hf : f_X5_kinds x1 u = some (r, u')) : Ci l g 0 55 yX5_kinds wsX5_kinds 5 110 [.ref (aD g 0), .int x1] u r u' := by
  refine ct_i (cc := cX5_kinds) (maxL := 3) (by decide) rfl (Nat.le_of_ble_eq_true rfl) ?_
  intro p e s m args below meth c R Q ls hx hb hml hown hts hC hP hl hRf hRl kret hS
  have hown : s.vm.findClass RX5 = some m.cls := hown
  have hl : lv_has ls 3 [(0, .ref (aD g 0)), (1, .int x1)] := hl
  unfold f_X5_kinds at hf
  refine lv_aload_n hx hb dX5_kinds_0 rfl (lv_at hl 0 rfl) ?_
  refine lv_iload_n hx hb dX5_kinds_1 rfl (lv_at hl 1 rfl) ?_
  obtain ⟨q_1, hq_1, hf⟩ := bind_ex hf
  refine r_Vi (r := q_1.1) (u' := q_1.2) (As := [.int x1]) (rest := []) (k := 0) (ci := 4) ⟨hx, hb, hml, hown, hts⟩ hC hP hS (by decide) rfl (by decide) rfl (c_X5_refusePairs l g u x1 hq_1) (cwV 1 hts gX5_kinds_X5_refusePairs rfl rfl rfl (by decide +kernel) ⟨(Nat.le_trans (Nat.le_of_ble_eq_true rfl) hRf), (Nat.le_trans (Nat.le_of_ble_eq_true rfl) hRl)⟩) rfl hl.1 rfl (Nat.le_of_ble_eq_true rfl) dX5_kinds_2 (fun H locs hP hS => ?_)
  refine lv_istore_n (lv' := [(2, .int q_1.1), (0, .ref (aD g 0)), (1, .int x1)]) hx hb dX5_kinds_5 rfl hl (by decide) rfl (fun ls hl => ?_)
  refine lv_iload_n hx hb dX5_kinds_6 rfl (lv_at hl 0 rfl) ?_
  refine lv_if_eq (tgt := 14) hx hb dX5_kinds_7 (by decide) (fun c_2 => ?_) (fun c_2 => ?_)
  · rw [if_pos c_2] at hf
    refine lv_aload_n hx hb dX5_kinds_14 rfl (lv_at hl 1 rfl) ?_
    refine lv_iload_n hx hb dX5_kinds_15 rfl (lv_at hl 2 rfl) ?_
    obtain ⟨q_3, hq_3, hf⟩ := bind_ex hf
    refine r_Vi (As := [.int x1]) (rest := []) (k := 0) (ci := 4) ⟨hx, hb, hml, hown, hts⟩ hC hP hS (by decide) rfl (by decide) rfl (c_X5_kindsByPairs l g q_1.2 x1 hq_3) (cwV 1 hts gX5_kinds_X5_kindsByPairs rfl rfl rfl (by decide +kernel) ⟨(Nat.le_trans (Nat.le_of_ble_eq_true rfl) hRf), (Nat.le_trans (Nat.le_of_ble_eq_true rfl) hRl)⟩) rfl hl.1 rfl (Nat.le_of_ble_eq_true rfl) dX5_kinds_16 (fun H locs hP hS => ?_)
    obtain ⟨rfl, rfl⟩ := sp2 hf
    exact kret _ _ _ _ dX5_kinds_19 hP hS trivial
  rw [if_neg c_2] at hf
  refine lv_iload_n hx hb dX5_kinds_10 rfl (lv_at hl 0 rfl) ?_
  refine lv_goto (tgt := 19) hx hb dX5_kinds_11 (by decide) ?_
  obtain ⟨rfl, rfl⟩ := sp2 hf
  exact kret _ _ _ _ dX5_kinds_19 hP hS trivial
set_option maxHeartbeats 4000000 in
set_option maxRecDepth 100000 in
theorem c_X5_test (l : Launch) (g : GG) (u : UU) (x1 : Int32) {r : Int32} {u' : UU} (hf : f_X5_test x1 u = some (r, u')) : Ci l g 0 55 yX5_test wsX5_test 5 110 [.ref (aD g 0), .int x1] u r u' := by
  refine ct_i (cc := cX5_test) (maxL := 10) (by decide) rfl (Nat.le_of_ble_eq_true rfl) ?_
  intro p e s m args below meth c R Q ls hx hb hml hown hts hC hP hl hRf hRl kret hS
  have hown : s.vm.findClass RX5 = some m.cls := hown
  have hl : lv_has ls 10 [(0, .ref (aD g 0)), (1, .int x1)] := hl
  have hinX5 : ∀ w ∈ u_ws RX5 TX5 12, w ∈ wsX5_test := by decide +kernel
  have w_89 : ∀ (k_43 : Int32 → Int32 → Int32 → Int32 → Int32 → UU → Option (Int32 × UU)) (K_43 : ∀ (x3 : Int32) (x4 : Int32) (x5 : Int32) (x6 : Int32) (x7 : Int32) (u : UU) (H : Heap) (locs : List Loc) (ls : Array Slot), Ps g 0 55 u H → va_S (aA g) s.heap H locs → lv_has ls 10 [(0, .ref (aD g 0)), (3, .int x3), (4, .int x4), (5, .int x5), (6, .int x6), (7, .int x7)] → k_43 x3 x4 x5 x6 x7 u = some (r, u') → W p l e R s m args below meth c H locs 0 0 Q (F0 m 43 ls [])), ∀ (x3 : Int32) (x4 : Int32) (x5 : Int32) (x6 : Int32) (x7 : Int32) (u : UU) (H : Heap) (locs : List Loc) (ls : Array Slot), Ps g 0 55 u H → va_S (aA g) s.heap H locs → lv_has ls 10 [(0, .ref (aD g 0)), (3, .int x3), (4, .int x4), (5, .int x5), (6, .int x6), (7, .int x7)] → f_X5_test_89 k_43 x3 x4 x5 x6 x7 u = some (r, u') → W p l e R s m args below meth c H locs 0 0 Q (F0 m 89 ls []) := by
    intro k_43 K_43
    intro x3 x4 x5 x6 x7 u H locs ls hP hS hl hf
    unfold f_X5_test_89 at hf
    obtain ⟨x7_13, ex7_13, hf⟩ := lt_ex hf
    refine lv_iinc (v := x7_13) (lv' := [(7, .int x7_13), (0, .ref (aD g 0)), (3, .int x3), (4, .int x4), (5, .int x5), (6, .int x6)]) hx hb dX5_test_89 hl (k := 5) rfl (by rw [ex7_13]; rfl) (by decide) rfl (fun ls hl => ?_)
    refine lv_goto (tgt := 43) hx hb dX5_test_92 (by decide) ?_
    exact K_43 x3 x4 x5 x6 x7_13 u _ _ _ hP hS (lv_sub hl [1, 2, 3, 4, 5, 0] rfl) hf
  have w_43 : ∀ (n : Nat), ∀ (x3 : Int32) (x4 : Int32) (x5 : Int32) (x6 : Int32) (x7 : Int32) (u : UU) (H : Heap) (locs : List Loc) (ls : Array Slot), Ps g 0 55 u H → va_S (aA g) s.heap H locs → lv_has ls 10 [(0, .ref (aD g 0)), (3, .int x3), (4, .int x4), (5, .int x5), (6, .int x6), (7, .int x7)] → f_X5_test_43 n x3 x4 x5 x6 x7 u = some (r, u') → W p l e R s m args below meth c H locs 0 0 Q (F0 m 43 ls []) := by
    intro n
    induction n with
    | zero =>
      intro x3 x4 x5 x6 x7 u H locs ls hP hS hl hf
      rw [f_X5_test_43] at hf
      cases hf
    | succ n ih =>
      intro x3 x4 x5 x6 x7 u H locs ls hP hS hl hf
      rw [f_X5_test_43] at hf
      refine lv_iload hx hb dX5_test_43 (lv_at hl 5 rfl) ?_
      refine lv_bipush (v := (16 : Int32)) hx hb dX5_test_45 (by decide) ?_
      refine lv_icmp_gt (tgt := 95) hx hb dX5_test_47 (by decide) (fun c_7 => ?_) (fun c_7 => ?_)
      · rw [if_pos c_7] at hf
        refine lv_aload_n hx hb dX5_test_95 rfl (lv_at hl 0 rfl) ?_
        refine lv_iload hx hb dX5_test_96 (lv_at hl 3 rfl) ?_
        obtain ⟨u_8, eu_8, hf⟩ := lt_ex hf
        refine r_puti hx hb hts hown hC hP hS hinX5 tyX5 tyX5_ok nmX5 0 (by decide) (ci := 4) rfl (by decide) rfl 9 (by decide) (hts (.fieldLink RX5 77 "LoafParts" "told" "I") (by decide +kernel)) rfl (ty := .int) (by decide +kernel) rfl rfl (by decide) (by decide) eu_8 dX5_test_98 (fun H locs hP hS => ?_)
        refine lv_iload hx hb dX5_test_101 (lv_at hl 4 rfl) ?_
        obtain ⟨rfl, rfl⟩ := sp2 hf
        exact kret _ _ _ _ dX5_test_103 hP hS trivial
      rw [if_neg c_7] at hf
      refine lv_iload_n hx hb dX5_test_50 rfl (lv_at hl 1 rfl) ?_
      refine lv_iload hx hb dX5_test_51 (lv_at hl 5 rfl) ?_
      refine lv_iconst (v := (1 : Int32)) hx hb dX5_test_53 (by decide) ?_
      obtain ⟨q_9, hq_9, hf⟩ := bind_ex hf
      refine r_Si (As := [.int x3, .int x7, .int (1 : Int32)]) (rest := []) ⟨hx, hb, hml, hown, hts⟩ hC hP hS (c_X0_answeringAlike l g u x3 x7 (1 : Int32) hq_9) (va_cwS 3 hts gX5_test_X0_answeringAlike rfl rfl rfl (by decide +kernel) ⟨(Nat.le_trans (Nat.le_of_ble_eq_true rfl) hRf), (Nat.le_trans (Nat.le_of_ble_eq_true rfl) hRl)⟩) rfl hl.1 rfl (Nat.le_of_ble_eq_true rfl) dX5_test_54 (fun H locs hP hS => ?_)
      refine r_Si (As := [.int q_9]) (rest := []) ⟨hx, hb, hml, hown, hts⟩ hC hP hS (c_J6_bitCount_0f7a4 l g u q_9 rfl) (va_cwS 1 hts gX5_test_J6_bitCount_0f7a4 rfl rfl rfl (by decide +kernel) ⟨(Nat.le_trans (Nat.le_of_ble_eq_true rfl) hRf), (Nat.le_trans (Nat.le_of_ble_eq_true rfl) hRl)⟩) rfl hl.1 rfl (Nat.le_of_ble_eq_true rfl) dX5_test_57 (fun H locs hP hS => ?_)
      obtain ⟨x8_10, ex8_10, hf⟩ := lt_ex hf
      refine r_nm ex8_10 ?_
      refine lv_istore (lv' := [(8, .int x8_10), (0, .ref (aD g 0)), (3, .int x3), (4, .int x4), (5, .int x5), (6, .int x6), (7, .int x7)]) hx hb dX5_test_60 hl (by decide) rfl (fun ls hl => ?_)
      refine lv_iload hx hb dX5_test_62 (lv_at hl 0 rfl) ?_
      refine lv_iload hx hb dX5_test_64 (lv_at hl 3 rfl) ?_
      refine lv_iload hx hb dX5_test_66 (lv_at hl 0 rfl) ?_
      refine lv_isub hx hb dX5_test_68 ?_
      refine va_mmax hx hb (hml.trans hl.1.symm) hown (hts (.methodLink RX5 251 Lib.Math.max.name) (by decide +kernel)) (hts (.static Lib.Math.max.name) (by decide +kernel)) (hts (.initialized "java/lang/Math") (by decide +kernel)) (hts (.code Lib.Math.max.name Lib.Math.max.code 2 (some .int)) (by decide +kernel)) (Nat.le_trans (Nat.le_of_ble_eq_true rfl) hRf) (Nat.le_trans (Nat.le_of_ble_eq_true rfl) hRl) (Nat.zero_le _) (Nat.zero_le _) dX5_test_69 ?_
      obtain ⟨x9_11, ex9_11, hf⟩ := lt_ex hf
      refine r_nm ex9_11 ?_
      refine lv_istore (lv' := [(9, .int x9_11), (8, .int x8_10), (0, .ref (aD g 0)), (3, .int x3), (4, .int x4), (5, .int x5), (6, .int x6), (7, .int x7)]) hx hb dX5_test_72 hl (by decide) rfl (fun ls hl => ?_)
      refine lv_iload hx hb dX5_test_74 (lv_at hl 0 rfl) ?_
      refine lv_iload hx hb dX5_test_76 (lv_at hl 5 rfl) ?_
      refine lv_icmp_ge (tgt := 89) hx hb dX5_test_78 (by decide) (fun c_12 => ?_) (fun c_12 => ?_)
      · rw [if_pos c_12] at hf
        exact w_89 (f_X5_test_43 n) ih x3 x4 x5 x6 x7 u _ _ _ hP hS (lv_sub hl [2, 3, 4, 5, 6, 7] rfl) hf
      rw [if_neg c_12] at hf
      refine lv_iload hx hb dX5_test_81 (lv_at hl 0 rfl) ?_
      refine lv_istore (lv' := [(5, .int x9_11), (9, .int x9_11), (8, .int x8_10), (0, .ref (aD g 0)), (3, .int x3), (4, .int x4), (6, .int x6), (7, .int x7)]) hx hb dX5_test_83 hl (by decide) rfl (fun ls hl => ?_)
      refine lv_iload hx hb dX5_test_85 (lv_at hl 7 rfl) ?_
      refine lv_istore (lv' := [(6, .int x7), (5, .int x9_11), (9, .int x9_11), (8, .int x8_10), (0, .ref (aD g 0)), (3, .int x3), (4, .int x4), (7, .int x7)]) hx hb dX5_test_87 hl (by decide) rfl (fun ls hl => ?_)
      exact w_89 (f_X5_test_43 n) ih x3 x4 x9_11 x7 x7 u _ _ _ hP hS (lv_sub hl [4, 5, 6, 1, 0, 7] rfl) hf
  unfold f_X5_test at hf
  refine lv_aload_n hx hb dX5_test_0 rfl (lv_at hl 0 rfl) ?_
  refine lv_iload_n hx hb dX5_test_1 rfl (lv_at hl 1 rfl) ?_
  obtain ⟨q_1, hq_1, hf⟩ := bind_ex hf
  refine r_Vi (r := q_1.1) (u' := q_1.2) (As := [.int x1]) (rest := []) (k := 0) (ci := 4) ⟨hx, hb, hml, hown, hts⟩ hC hP hS (by decide) rfl (by decide) rfl (c_X5_refusePairs l g u x1 hq_1) (cwV 1 hts gX5_test_X5_refusePairs rfl rfl rfl (by decide +kernel) ⟨(Nat.le_trans (Nat.le_of_ble_eq_true rfl) hRf), (Nat.le_trans (Nat.le_of_ble_eq_true rfl) hRl)⟩) rfl hl.1 rfl (Nat.le_of_ble_eq_true rfl) dX5_test_2 (fun H locs hP hS => ?_)
  refine lv_istore_n (lv' := [(2, .int q_1.1), (0, .ref (aD g 0)), (1, .int x1)]) hx hb dX5_test_5 rfl hl (by decide) rfl (fun ls hl => ?_)
  refine lv_iload_n hx hb dX5_test_6 rfl (lv_at hl 0 rfl) ?_
  refine lv_if_eq (tgt := 12) hx hb dX5_test_7 (by decide) (fun c_2 => ?_) (fun c_2 => ?_)
  · rw [if_pos c_2] at hf
    refine lv_aload_n hx hb dX5_test_12 rfl (lv_at hl 1 rfl) ?_
    refine lv_iload_n hx hb dX5_test_13 rfl (lv_at hl 2 rfl) ?_
    obtain ⟨q_3, hq_3, hf⟩ := bind_ex hf
    refine r_Vi (As := [.int x1]) (rest := []) (k := 0) (ci := 4) ⟨hx, hb, hml, hown, hts⟩ hC hP hS (by decide) rfl (by decide) rfl (c_X5_kindsByPairs l g q_1.2 x1 hq_3) (cwV 1 hts gX5_test_X5_kindsByPairs rfl rfl rfl (by decide +kernel) ⟨(Nat.le_trans (Nat.le_of_ble_eq_true rfl) hRf), (Nat.le_trans (Nat.le_of_ble_eq_true rfl) hRl)⟩) rfl hl.1 rfl (Nat.le_of_ble_eq_true rfl) dX5_test_14 (fun H locs hP hS => ?_)
    refine lv_istore_n (lv' := [(3, .int q_3), (2, .int q_1.1), (0, .ref (aD g 0)), (1, .int x1)]) hx hb dX5_test_17 rfl hl (by decide) rfl (fun ls hl => ?_)
    refine lv_iload_n hx hb dX5_test_18 rfl (lv_at hl 0 rfl) ?_
    refine lv_if_ne (tgt := 25) hx hb dX5_test_19 (by decide) (fun c_4 => ?_) (fun c_4 => ?_)
    · rw [if_neg c_4] at hf
      refine lv_iload_n hx hb dX5_test_25 rfl (lv_at hl 0 rfl) ?_
      refine r_Si (As := [.int q_3]) (rest := []) ⟨hx, hb, hml, hown, hts⟩ hC hP hS (c_J6_bitCount_0f7a4 l g q_1.2 q_3 rfl) (va_cwS 1 hts gX5_test_J6_bitCount_0f7a4 rfl rfl rfl (by decide +kernel) ⟨(Nat.le_trans (Nat.le_of_ble_eq_true rfl) hRf), (Nat.le_trans (Nat.le_of_ble_eq_true rfl) hRl)⟩) rfl hl.1 rfl (Nat.le_of_ble_eq_true rfl) dX5_test_26 (fun H locs hP hS => ?_)
      obtain ⟨x4_5, ex4_5, hf⟩ := lt_ex hf
      refine r_nm ex4_5 ?_
      refine lv_istore (lv' := [(4, .int x4_5), (3, .int q_3), (2, .int q_1.1), (0, .ref (aD g 0)), (1, .int x1)]) hx hb dX5_test_29 hl (by decide) rfl (fun ls hl => ?_)
      refine lv_iload hx hb dX5_test_31 (lv_at hl 0 rfl) ?_
      refine lv_iconst (v := (1 : Int32)) hx hb dX5_test_33 (by decide) ?_
      refine lv_iadd hx hb dX5_test_34 ?_
      obtain ⟨x5_6, ex5_6, hf⟩ := lt_ex hf
      refine r_nm ex5_6 ?_
      refine lv_istore (lv' := [(5, .int x5_6), (4, .int x4_5), (3, .int q_3), (2, .int q_1.1), (0, .ref (aD g 0)), (1, .int x1)]) hx hb dX5_test_35 hl (by decide) rfl (fun ls hl => ?_)
      refine lv_iconst (v := (2 : Int32)) hx hb dX5_test_37 (by decide) ?_
      refine lv_istore (lv' := [(6, .int (2 : Int32)), (5, .int x5_6), (4, .int x4_5), (3, .int q_3), (2, .int q_1.1), (0, .ref (aD g 0)), (1, .int x1)]) hx hb dX5_test_38 hl (by decide) rfl (fun ls hl => ?_)
      refine lv_iconst (v := (2 : Int32)) hx hb dX5_test_40 (by decide) ?_
      refine lv_istore (lv' := [(7, .int (2 : Int32)), (6, .int (2 : Int32)), (5, .int x5_6), (4, .int x4_5), (3, .int q_3), (2, .int q_1.1), (0, .ref (aD g 0)), (1, .int x1)]) hx hb dX5_test_41 hl (by decide) rfl (fun ls hl => ?_)
      exact w_43 fu q_3 x4_5 x5_6 (2 : Int32) (2 : Int32) q_1.2 _ _ _ hP hS (lv_sub hl [6, 4, 3, 2, 1, 0] rfl) hf
    rw [if_pos c_4] at hf
    refine lv_bipush (v := (-9 : Int32)) hx hb dX5_test_22 (by decide) ?_
    obtain ⟨rfl, rfl⟩ := sp2 hf
    exact kret _ _ _ _ dX5_test_24 hP hS trivial
  rw [if_neg c_2] at hf
  refine lv_iload_n hx hb dX5_test_10 rfl (lv_at hl 0 rfl) ?_
  obtain ⟨rfl, rfl⟩ := sp2 hf
  exact kret _ _ _ _ dX5_test_11 hP hS trivial
set_option maxHeartbeats 4000000 in
set_option maxRecDepth 100000 in
theorem c_X4_sizeOfHad (l : Launch) (g : GG) (u : UU) (x1 : Int32) {r : Int32} (hf : f_X4_sizeOfHad x1 u = some r) : Ci l g 0 55 yX4_sizeOfHad wsX4_sizeOfHad 1 21 [.ref (aD g 11), .int x1] u r u := by
  refine ct_i (cc := cX4_sizeOfHad) (maxL := 2) (by decide) rfl (Nat.le_of_ble_eq_true rfl) ?_
  intro p e s m args below meth c R Q ls hx hb hml hown hts hC hP hl hRf hRl kret hS
  have hown : s.vm.findClass RX4 = some m.cls := hown
  have hl : lv_has ls 2 [(0, .ref (aD g 11)), (1, .int x1)] := hl
  have hinX4 : ∀ w ∈ u_ws RX4 TX4 13, w ∈ wsX4_sizeOfHad := by decide +kernel
  unfold f_X4_sizeOfHad at hf
  refine lv_aload_n hx hb dX4_sizeOfHad_0 rfl (lv_at hl 0 rfl) ?_
  refine lv_iload_n hx hb dX4_sizeOfHad_1 rfl (lv_at hl 1 rfl) ?_
  obtain ⟨q_1, hq_1, hf⟩ := bind_ex hf
  refine r_Vi (As := [.int x1]) (rest := []) (k := 11) (ci := 3) ⟨hx, hb, hml, hown, hts⟩ hC hP hS (by decide) rfl (by decide) rfl (c_X4_dueOf l g u x1 hq_1) (cwV 1 hts gX4_sizeOfHad_X4_dueOf rfl rfl rfl (by decide +kernel) ⟨(Nat.le_trans (Nat.le_of_ble_eq_true rfl) hRf), (Nat.le_trans (Nat.le_of_ble_eq_true rfl) hRl)⟩) rfl hl.1 rfl (Nat.le_of_ble_eq_true rfl) dX4_sizeOfHad_2 (fun H locs hP hS => ?_)
  refine lv_aload_n hx hb dX4_sizeOfHad_5 rfl (lv_at hl 0 rfl) ?_
  refine r_get hx hb hts hown hC hP hinX4 11 (by decide) (ci := 3) rfl (by decide) rfl 9 (by decide) (hts (.fieldLink RX4 27 "LoafParts$Table" "lack" "[I") (by decide +kernel)) (v := .ref (aD g 17)) rfl dX4_sizeOfHad_6 ?_
  refine lv_iload_n hx hb dX4_sizeOfHad_9 rfl (lv_at hl 1 rfl) ?_
  obtain ⟨hi_2, hf⟩ := ix_ex hf
  refine r_ald hx hb hC hP 17 (by decide) rfl hi_2 dX4_sizeOfHad_10 ?_
  refine lv_isub hx hb dX4_sizeOfHad_11 ?_
  obtain rfl := sp1 hf
  exact kret _ _ _ _ dX4_sizeOfHad_12 hP hS trivial
set_option maxHeartbeats 4000000 in
set_option maxRecDepth 100000 in
theorem c_J6_numberOfTrailingZeros_0f7a4 (l : Launch) (g : GG) (u : UU) (x0 : Int32) {r : Int32} (hf : f_J6_numberOfTrailingZeros_0f7a4 x0 = r) : Ci l g 0 55 yJ6_numberOfTrailingZeros_0f7a4 wsJ6_numberOfTrailingZeros_0f7a4 0 0 [.int x0] u r u := by
  refine ct_i (cc := cJ6_numberOfTrailingZeros_0f7a4) (maxL := 2) (by decide) rfl (Nat.le_of_ble_eq_true rfl) ?_
  intro p e s m args below meth c R Q ls hx hb hml hown hts hC hP hl hRf hRl kret hS
  have hown : s.vm.findClass RJ6 = some m.cls := hown
  have hl : lv_has ls 2 [(0, .int x0)] := hl
  have w_62 : ∀ (x0 : Int32) (x1 : Int32) (H : Heap) (locs : List Loc) (ls : Array Slot), Ps g 0 55 u H → va_S (aA g) s.heap H locs → lv_has ls 2 [(0, .int x0), (1, .int x1)] → f_J6_numberOfTrailingZeros_0f7a4_62 x0 x1 = r → W p l e R s m args below meth c H locs 0 0 Q (F0 m 62 ls []) := by
    intro x0 x1 H locs ls hP hS hl hf
    unfold f_J6_numberOfTrailingZeros_0f7a4_62 at hf
    refine lv_iload_n hx hb dJ6_numberOfTrailingZeros_0f7a4_62 rfl (lv_at hl 0 rfl) ?_
    refine lv_iconst (v := (4 : Int32)) hx hb dJ6_numberOfTrailingZeros_0f7a4_63 (by decide) ?_
    refine lv_icmp_le (tgt := 74) hx hb dJ6_numberOfTrailingZeros_0f7a4_64 (by decide) (fun c_6 => ?_) (fun c_6 => ?_)
    · rw [if_pos c_6] at hf
      refine lv_iload_n hx hb dJ6_numberOfTrailingZeros_0f7a4_74 rfl (lv_at hl 1 rfl) ?_
      refine lv_iload_n hx hb dJ6_numberOfTrailingZeros_0f7a4_75 rfl (lv_at hl 0 rfl) ?_
      refine lv_iconst (v := (1 : Int32)) hx hb dJ6_numberOfTrailingZeros_0f7a4_76 (by decide) ?_
      refine lv_iushr hx hb dJ6_numberOfTrailingZeros_0f7a4_77 rfl ?_
      refine lv_iadd hx hb dJ6_numberOfTrailingZeros_0f7a4_78 ?_
      obtain rfl := hf
      exact kret _ _ _ _ dJ6_numberOfTrailingZeros_0f7a4_79 hP hS trivial
    rw [if_neg c_6] at hf
    obtain ⟨x1_7, ex1_7, hf⟩ := lt_ex hf
    refine lv_iinc (v := x1_7) (lv' := [(1, .int x1_7), (0, .int x0)]) hx hb dJ6_numberOfTrailingZeros_0f7a4_67 hl (k := 1) rfl (by rw [ex1_7]; rfl) (by decide) rfl (fun ls hl => ?_)
    refine lv_iload_n hx hb dJ6_numberOfTrailingZeros_0f7a4_70 rfl (lv_at hl 1 rfl) ?_
    refine lv_iconst (v := (2 : Int32)) hx hb dJ6_numberOfTrailingZeros_0f7a4_71 (by decide) ?_
    refine lv_iushr hx hb dJ6_numberOfTrailingZeros_0f7a4_72 rfl ?_
    obtain ⟨x0_8, ex0_8, hf⟩ := lt_ex hf
    refine r_nm ex0_8 ?_
    refine lv_istore_n (lv' := [(0, .int x0_8), (1, .int x1_7)]) hx hb dJ6_numberOfTrailingZeros_0f7a4_73 rfl hl (by decide) rfl (fun ls hl => ?_)
    refine lv_iload_n hx hb dJ6_numberOfTrailingZeros_0f7a4_74 rfl (lv_at hl 1 rfl) ?_
    refine lv_iload_n hx hb dJ6_numberOfTrailingZeros_0f7a4_75 rfl (lv_at hl 0 rfl) ?_
    refine lv_iconst (v := (1 : Int32)) hx hb dJ6_numberOfTrailingZeros_0f7a4_76 (by decide) ?_
    refine lv_iushr hx hb dJ6_numberOfTrailingZeros_0f7a4_77 rfl ?_
    refine lv_iadd hx hb dJ6_numberOfTrailingZeros_0f7a4_78 ?_
    obtain rfl := hf
    exact kret _ _ _ _ dJ6_numberOfTrailingZeros_0f7a4_79 hP hS trivial
  have w_49 : ∀ (x0 : Int32) (x1 : Int32) (H : Heap) (locs : List Loc) (ls : Array Slot), Ps g 0 55 u H → va_S (aA g) s.heap H locs → lv_has ls 2 [(0, .int x0), (1, .int x1)] → f_J6_numberOfTrailingZeros_0f7a4_49 x0 x1 = r → W p l e R s m args below meth c H locs 0 0 Q (F0 m 49 ls []) := by
    intro x0 x1 H locs ls hP hS hl hf
    unfold f_J6_numberOfTrailingZeros_0f7a4_49 at hf
    refine lv_iload_n hx hb dJ6_numberOfTrailingZeros_0f7a4_49 rfl (lv_at hl 0 rfl) ?_
    refine lv_bipush (v := (16 : Int32)) hx hb dJ6_numberOfTrailingZeros_0f7a4_50 (by decide) ?_
    refine lv_icmp_le (tgt := 62) hx hb dJ6_numberOfTrailingZeros_0f7a4_52 (by decide) (fun c_5 => ?_) (fun c_5 => ?_)
    · rw [if_pos c_5] at hf
      exact w_62 x0 x1 _ _ _ hP hS (lv_sub hl [0, 1] rfl) hf
    rw [if_neg c_5] at hf
    obtain ⟨x1_9, ex1_9, hf⟩ := lt_ex hf
    refine lv_iinc (v := x1_9) (lv' := [(1, .int x1_9), (0, .int x0)]) hx hb dJ6_numberOfTrailingZeros_0f7a4_55 hl (k := 1) rfl (by rw [ex1_9]; rfl) (by decide) rfl (fun ls hl => ?_)
    refine lv_iload_n hx hb dJ6_numberOfTrailingZeros_0f7a4_58 rfl (lv_at hl 1 rfl) ?_
    refine lv_iconst (v := (4 : Int32)) hx hb dJ6_numberOfTrailingZeros_0f7a4_59 (by decide) ?_
    refine lv_iushr hx hb dJ6_numberOfTrailingZeros_0f7a4_60 rfl ?_
    obtain ⟨x0_10, ex0_10, hf⟩ := lt_ex hf
    refine r_nm ex0_10 ?_
    refine lv_istore_n (lv' := [(0, .int x0_10), (1, .int x1_9)]) hx hb dJ6_numberOfTrailingZeros_0f7a4_61 rfl hl (by decide) rfl (fun ls hl => ?_)
    exact w_62 x0_10 x1_9 _ _ _ hP hS (lv_sub hl [0, 1] rfl) hf
  have w_34 : ∀ (x0 : Int32) (x1 : Int32) (H : Heap) (locs : List Loc) (ls : Array Slot), Ps g 0 55 u H → va_S (aA g) s.heap H locs → lv_has ls 2 [(0, .int x0), (1, .int x1)] → f_J6_numberOfTrailingZeros_0f7a4_34 x0 x1 = r → W p l e R s m args below meth c H locs 0 0 Q (F0 m 34 ls []) := by
    intro x0 x1 H locs ls hP hS hl hf
    unfold f_J6_numberOfTrailingZeros_0f7a4_34 at hf
    refine lv_iload_n hx hb dJ6_numberOfTrailingZeros_0f7a4_34 rfl (lv_at hl 0 rfl) ?_
    refine lv_sipush (v := (256 : Int32)) hx hb dJ6_numberOfTrailingZeros_0f7a4_35 (by decide) ?_
    refine lv_icmp_le (tgt := 49) hx hb dJ6_numberOfTrailingZeros_0f7a4_38 (by decide) (fun c_4 => ?_) (fun c_4 => ?_)
    · rw [if_pos c_4] at hf
      exact w_49 x0 x1 _ _ _ hP hS (lv_sub hl [0, 1] rfl) hf
    rw [if_neg c_4] at hf
    obtain ⟨x1_11, ex1_11, hf⟩ := lt_ex hf
    refine lv_iinc (v := x1_11) (lv' := [(1, .int x1_11), (0, .int x0)]) hx hb dJ6_numberOfTrailingZeros_0f7a4_41 hl (k := 1) rfl (by rw [ex1_11]; rfl) (by decide) rfl (fun ls hl => ?_)
    refine lv_iload_n hx hb dJ6_numberOfTrailingZeros_0f7a4_44 rfl (lv_at hl 1 rfl) ?_
    refine lv_bipush (v := (8 : Int32)) hx hb dJ6_numberOfTrailingZeros_0f7a4_45 (by decide) ?_
    refine lv_iushr hx hb dJ6_numberOfTrailingZeros_0f7a4_47 rfl ?_
    obtain ⟨x0_12, ex0_12, hf⟩ := lt_ex hf
    refine r_nm ex0_12 ?_
    refine lv_istore_n (lv' := [(0, .int x0_12), (1, .int x1_11)]) hx hb dJ6_numberOfTrailingZeros_0f7a4_48 rfl hl (by decide) rfl (fun ls hl => ?_)
    exact w_49 x0_12 x1_11 _ _ _ hP hS (lv_sub hl [0, 1] rfl) hf
  unfold f_J6_numberOfTrailingZeros_0f7a4 at hf
  refine lv_iload_n hx hb dJ6_numberOfTrailingZeros_0f7a4_0 rfl (lv_at hl 0 rfl) ?_
  refine lv_iconst (v := (-1 : Int32)) hx hb dJ6_numberOfTrailingZeros_0f7a4_1 (by decide) ?_
  refine lv_ixor hx hb dJ6_numberOfTrailingZeros_0f7a4_2 ?_
  refine lv_iload_n hx hb dJ6_numberOfTrailingZeros_0f7a4_3 rfl (lv_at hl 0 rfl) ?_
  refine lv_iconst (v := (1 : Int32)) hx hb dJ6_numberOfTrailingZeros_0f7a4_4 (by decide) ?_
  refine lv_isub hx hb dJ6_numberOfTrailingZeros_0f7a4_5 ?_
  refine lv_iand hx hb dJ6_numberOfTrailingZeros_0f7a4_6 ?_
  obtain ⟨x0_1, ex0_1, hf⟩ := lt_ex hf
  refine r_nm ex0_1 ?_
  refine lv_istore_n (lv' := [(0, .int x0_1)]) hx hb dJ6_numberOfTrailingZeros_0f7a4_7 rfl hl (by decide) rfl (fun ls hl => ?_)
  refine lv_iload_n hx hb dJ6_numberOfTrailingZeros_0f7a4_8 rfl (lv_at hl 0 rfl) ?_
  refine lv_if_gt (tgt := 17) hx hb dJ6_numberOfTrailingZeros_0f7a4_9 (by decide) (fun c_2 => ?_) (fun c_2 => ?_)
  · rw [if_pos c_2] at hf
    refine lv_iconst (v := (1 : Int32)) hx hb dJ6_numberOfTrailingZeros_0f7a4_17 (by decide) ?_
    refine lv_istore_n (lv' := [(1, .int (1 : Int32)), (0, .int x0_1)]) hx hb dJ6_numberOfTrailingZeros_0f7a4_18 rfl hl (by decide) rfl (fun ls hl => ?_)
    refine lv_iload_n hx hb dJ6_numberOfTrailingZeros_0f7a4_19 rfl (lv_at hl 1 rfl) ?_
    refine lv_ldcw (v := (65536 : Int32)) hx hb hown (hts (.constant RJ6 264 (65536)) (by decide +kernel)) dJ6_numberOfTrailingZeros_0f7a4_20 ?_
    refine lv_icmp_le (tgt := 34) hx hb dJ6_numberOfTrailingZeros_0f7a4_23 (by decide) (fun c_3 => ?_) (fun c_3 => ?_)
    · rw [if_pos c_3] at hf
      exact w_34 x0_1 (1 : Int32) _ _ _ hP hS (lv_sub hl [1, 0] rfl) hf
    rw [if_neg c_3] at hf
    obtain ⟨x1_13, ex1_13, hf⟩ := lt_ex hf
    refine lv_iinc (v := x1_13) (lv' := [(1, .int x1_13), (0, .int x0_1)]) hx hb dJ6_numberOfTrailingZeros_0f7a4_26 hl (k := 0) rfl (by rw [ex1_13]; rfl) (by decide) rfl (fun ls hl => ?_)
    refine lv_iload_n hx hb dJ6_numberOfTrailingZeros_0f7a4_29 rfl (lv_at hl 1 rfl) ?_
    refine lv_bipush (v := (16 : Int32)) hx hb dJ6_numberOfTrailingZeros_0f7a4_30 (by decide) ?_
    refine lv_iushr hx hb dJ6_numberOfTrailingZeros_0f7a4_32 rfl ?_
    obtain ⟨x0_14, ex0_14, hf⟩ := lt_ex hf
    refine r_nm ex0_14 ?_
    refine lv_istore_n (lv' := [(0, .int x0_14), (1, .int x1_13)]) hx hb dJ6_numberOfTrailingZeros_0f7a4_33 rfl hl (by decide) rfl (fun ls hl => ?_)
    exact w_34 x0_14 x1_13 _ _ _ hP hS (lv_sub hl [0, 1] rfl) hf
  rw [if_neg c_2] at hf
  refine lv_iload_n hx hb dJ6_numberOfTrailingZeros_0f7a4_12 rfl (lv_at hl 0 rfl) ?_
  refine lv_bipush (v := (32 : Int32)) hx hb dJ6_numberOfTrailingZeros_0f7a4_13 (by decide) ?_
  refine lv_iand hx hb dJ6_numberOfTrailingZeros_0f7a4_15 ?_
  obtain rfl := hf
  exact kret _ _ _ _ dJ6_numberOfTrailingZeros_0f7a4_16 hP hS trivial