set_option maxHeartbeats 4000000 in
set_option maxRecDepth 100000 in
theorem c_X6_writes (l : Launch) (g : GG) (u : UU) (x1 : Int32) (x2 : Int32) {r : Int32} {u' : UU} (hf : f_X6_writes x1 x2 u = some (r, u')) : Ci l g 55 20 yX6_writes wsX6_writes 3 67 [.ref (aD g 55), .int x1, .int x2] u r u' := by
  refine ct_i (cc := cX6_writes) (maxL := 5) (by decide) rfl (Nat.le_of_ble_eq_true rfl) ?_
  intro p e s m args below meth c R Q ls hx hb hml hown hts hC hP hl hRf hRl kret hS
  have hown : s.vm.findClass RX6 = some m.cls := hown
  have hl : lv_has ls 5 [(0, .ref (aD g 55)), (1, .int x1), (2, .int x2)] := hl
  have hinX6 : ∀ w ∈ u_ws RX6 TX6 34, w ∈ wsX6_writes := by decide +kernel
  have w_91 : ∀ (k_56 : Int32 → Int32 → Int32 → UU → Option (Int32 × UU)) (K_56 : ∀ (x2 : Int32) (x3 : Int32) (x4 : Int32) (u : UU) (H : Heap) (locs : List Loc) (ls : Array Slot), Ps g 55 20 u H → va_S (aA g) s.heap H locs → lv_has ls 5 [(0, .ref (aD g 55)), (2, .int x2), (3, .int x3), (4, .int x4)] → k_56 x2 x3 x4 u = some (r, u') → W p l e R s m args below meth c H locs 0 0 Q (F0 m 56 ls [])), ∀ (x2 : Int32) (x3 : Int32) (x4 : Int32) (u : UU) (H : Heap) (locs : List Loc) (ls : Array Slot), Ps g 55 20 u H → va_S (aA g) s.heap H locs → lv_has ls 5 [(0, .ref (aD g 55)), (2, .int x2), (3, .int x3), (4, .int x4)] → f_X6_writes_91 k_56 x2 x3 x4 u = some (r, u') → W p l e R s m args below meth c H locs 0 0 Q (F0 m 91 ls []) := by
    intro k_56 K_56
    intro x2 x3 x4 u H locs ls hP hS hl hf
    unfold f_X6_writes_91 at hf
    obtain ⟨x4_11, ex4_11, hf⟩ := lt_ex hf
    refine lv_iinc (v := x4_11) (lv' := [(4, .int x4_11), (0, .ref (aD g 55)), (2, .int x2), (3, .int x3)]) hx hb dX6_writes_91 hl (k := 3) rfl (by rw [ex4_11]; rfl) (by decide) rfl (fun ls hl => ?_)
    refine lv_goto (tgt := 56) hx hb dX6_writes_94 (by decide) ?_
    exact K_56 x2 x3 x4_11 u _ _ _ hP hS (lv_sub hl [1, 2, 3, 0] rfl) hf
  have w_56 : ∀ (n : Nat), ∀ (x2 : Int32) (x3 : Int32) (x4 : Int32) (u : UU) (H : Heap) (locs : List Loc) (ls : Array Slot), Ps g 55 20 u H → va_S (aA g) s.heap H locs → lv_has ls 5 [(0, .ref (aD g 55)), (2, .int x2), (3, .int x3), (4, .int x4)] → f_X6_writes_56 n x2 x3 x4 u = some (r, u') → W p l e R s m args below meth c H locs 0 0 Q (F0 m 56 ls []) := by
    intro n
    induction n with
    | zero =>
      intro x2 x3 x4 u H locs ls hP hS hl hf
      rw [f_X6_writes_56] at hf
      cases hf
    | succ n ih =>
      intro x2 x3 x4 u H locs ls hP hS hl hf
      rw [f_X6_writes_56] at hf
      refine lv_iload hx hb dX6_writes_56 (lv_at hl 3 rfl) ?_
      refine lv_bipush (v := (16 : Int32)) hx hb dX6_writes_58 (by decide) ?_
      refine lv_icmp_gt (tgt := 97) hx hb dX6_writes_60 (by decide) (fun c_9 => ?_) (fun c_9 => ?_)
      · rw [if_pos c_9] at hf
        refine lv_aload_n hx hb dX6_writes_97 rfl (lv_at hl 0 rfl) ?_
        refine r_get hx hb hts hown hC hP hinX6 55 (by decide) (ci := 5) rfl (by decide) rfl 27 (by decide) (hts (.fieldLink RX6 210 "LoafPartsModel" "setFew" "I") (by decide +kernel)) (v := .int (ui u 55 27)) rfl dX6_writes_98 ?_
        obtain ⟨rfl, rfl⟩ := sp2 hf
        exact kret _ _ _ _ dX6_writes_101 hP hS trivial
      rw [if_neg c_9] at hf
      refine lv_aload_n hx hb dX6_writes_63 rfl (lv_at hl 0 rfl) ?_
      refine r_get hx hb hts hown hC hP hinX6 55 (by decide) (ci := 5) rfl (by decide) rfl 28 (by decide) (hts (.fieldLink RX6 213 "LoafPartsModel" "setBits" "I") (by decide +kernel)) (v := .int (ui u 55 28)) rfl dX6_writes_64 ?_
      refine lv_iload hx hb dX6_writes_67 (lv_at hl 3 rfl) ?_
      refine r_Si (As := [.int (ui u 55 28), .int x4]) (rest := []) ⟨hx, hb, hml, hown, hts⟩ hC hP hS (c_X6_has l g u (ui u 55 28) x4 rfl) (va_cwS 2 hts gX6_writes_X6_has rfl rfl rfl (by decide +kernel) ⟨(Nat.le_trans (Nat.le_of_ble_eq_true rfl) hRf), (Nat.le_trans (Nat.le_of_ble_eq_true rfl) hRl)⟩) rfl hl.1 rfl (Nat.le_of_ble_eq_true rfl) dX6_writes_69 (fun H locs hP hS => ?_)
      refine lv_if_eq (tgt := 91) hx hb dX6_writes_72 (by decide) (fun c_10 => ?_) (fun c_10 => ?_)
      · rw [if_pos c_10] at hf
        exact w_91 (f_X6_writes_56 n) ih x2 x3 x4 u _ _ _ hP hS (lv_sub hl [0, 1, 2, 3] rfl) hf
      rw [if_neg c_10] at hf
      refine lv_aload_n hx hb dX6_writes_75 rfl (lv_at hl 0 rfl) ?_
      refine r_get hx hb hts hown hC hP hinX6 55 (by decide) (ci := 5) rfl (by decide) rfl 6 (by decide) (hts (.fieldLink RX6 20 "LoafPartsModel" "rows" "[I") (by decide +kernel)) (v := .ref (aD g 58)) rfl dX6_writes_76 ?_
      refine lv_bipush (v := (40 : Int32)) hx hb dX6_writes_79 (by decide) ?_
      refine lv_iload_n hx hb dX6_writes_81 rfl (lv_at hl 1 rfl) ?_
      refine lv_imul hx hb dX6_writes_82 ?_
      refine lv_iload_n hx hb dX6_writes_83 rfl (lv_at hl 2 rfl) ?_
      refine lv_iadd hx hb dX6_writes_84 ?_
      refine lv_iload hx hb dX6_writes_85 (lv_at hl 3 rfl) ?_
      obtain ⟨hi_12, hf⟩ := ix_ex hf
      obtain ⟨u_13, eu_13, hf⟩ := lt_ex hf
      refine r_ast hx hb hC hP hS 58 (by decide) rfl hi_12 eu_13 dX6_writes_87 (fun H locs hP hS => ?_)
      obtain ⟨x3_14, ex3_14, hf⟩ := lt_ex hf
      refine lv_iinc (v := x3_14) (lv' := [(3, .int x3_14), (0, .ref (aD g 55)), (2, .int x2), (4, .int x4)]) hx hb dX6_writes_88 hl (k := 2) rfl (by rw [ex3_14]; rfl) (by decide) rfl (fun ls hl => ?_)
      exact w_91 (f_X6_writes_56 n) ih x2 x3_14 x4 u_13 _ _ _ hP hS (lv_sub hl [1, 2, 0, 3] rfl) hf
  unfold f_X6_writes at hf
  refine lv_aload_n hx hb dX6_writes_0 rfl (lv_at hl 0 rfl) ?_
  refine lv_iload_n hx hb dX6_writes_1 rfl (lv_at hl 1 rfl) ?_
  obtain ⟨q_1, hq_1, hf⟩ := bind_ex hf
  refine r_Vi (As := [.int x1]) (rest := []) (k := 55) (ci := 5) ⟨hx, hb, hml, hown, hts⟩ hC hP hS (by decide) rfl (by decide) rfl (c_X6_isWorker l g u x1 hq_1) (cwV 1 hts gX6_writes_X6_isWorker rfl rfl rfl (by decide +kernel) ⟨(Nat.le_trans (Nat.le_of_ble_eq_true rfl) hRf), (Nat.le_trans (Nat.le_of_ble_eq_true rfl) hRl)⟩) rfl hl.1 rfl (Nat.le_of_ble_eq_true rfl) dX6_writes_2 (fun H locs hP hS => ?_)
  refine lv_if_eq (tgt := 15) hx hb dX6_writes_5 (by decide) (fun c_2 => ?_) (fun c_2 => ?_)
  · rw [if_pos c_2] at hf
    refine lv_iconst (v := (-1 : Int32)) hx hb dX6_writes_15 (by decide) ?_
    obtain ⟨rfl, rfl⟩ := sp2 hf
    exact kret _ _ _ _ dX6_writes_16 hP hS trivial
  rw [if_neg c_2] at hf
  refine lv_iload_n hx hb dX6_writes_8 rfl (lv_at hl 2 rfl) ?_
  refine r_Si (As := [.int x2]) (rest := []) ⟨hx, hb, hml, hown, hts⟩ hC hP hS (c_X6_isRow l g u x2 rfl) (va_cwS 1 hts gX6_writes_X6_isRow rfl rfl rfl (by decide +kernel) ⟨(Nat.le_trans (Nat.le_of_ble_eq_true rfl) hRf), (Nat.le_trans (Nat.le_of_ble_eq_true rfl) hRl)⟩) rfl hl.1 rfl (Nat.le_of_ble_eq_true rfl) dX6_writes_9 (fun H locs hP hS => ?_)
  refine lv_if_ne (tgt := 17) hx hb dX6_writes_12 (by decide) (fun c_3 => ?_) (fun c_3 => ?_)
  · rw [if_neg c_3] at hf
    refine lv_aload_n hx hb dX6_writes_17 rfl (lv_at hl 0 rfl) ?_
    refine lv_aload_n hx hb dX6_writes_18 rfl (lv_at hl 0 rfl) ?_
    refine lv_iload_n hx hb dX6_writes_19 rfl (lv_at hl 1 rfl) ?_
    obtain ⟨q_4, hq_4, hf⟩ := bind_ex hf
    refine r_Vi (As := [.int x1]) (rest := [.ref (aD g 55)]) (k := 55) (ci := 5) ⟨hx, hb, hml, hown, hts⟩ hC hP hS (by decide) rfl (by decide) rfl (c_X6_mayTake l g u x1 hq_4) (cwV 1 hts gX6_writes_X6_mayTake rfl rfl rfl (by decide +kernel) ⟨(Nat.le_trans (Nat.le_of_ble_eq_true rfl) hRf), (Nat.le_trans (Nat.le_of_ble_eq_true rfl) hRl)⟩) rfl hl.1 rfl (Nat.le_of_ble_eq_true rfl) dX6_writes_20 (fun H locs hP hS => ?_)
    refine lv_aload_n hx hb dX6_writes_23 rfl (lv_at hl 0 rfl) ?_
    refine lv_iload_n hx hb dX6_writes_24 rfl (lv_at hl 1 rfl) ?_
    obtain ⟨q_5, hq_5, hf⟩ := bind_ex hf
    refine r_Vi (As := [.int x1]) (rest := [.int q_4, .ref (aD g 55)]) (k := 55) (ci := 5) ⟨hx, hb, hml, hown, hts⟩ hC hP hS (by decide) rfl (by decide) rfl (c_X6_lackOf l g u x1 hq_5) (cwV 1 hts gX6_writes_X6_lackOf rfl rfl rfl (by decide +kernel) ⟨(Nat.le_trans (Nat.le_of_ble_eq_true rfl) hRf), (Nat.le_trans (Nat.le_of_ble_eq_true rfl) hRl)⟩) rfl hl.1 rfl (Nat.le_of_ble_eq_true rfl) dX6_writes_25 (fun H locs hP hS => ?_)
    obtain ⟨q_6, hq_6, hf⟩ := bind_ex hf
    refine r_Vv (As := [.int q_4, .int q_5]) (rest := []) (k := 55) (ci := 5) ⟨hx, hb, hml, hown, hts⟩ hC hP hS (by decide) rfl (by decide) rfl (c_X6_laySets l g u q_4 q_5 hq_6) (cwV 2 hts gX6_writes_X6_laySets rfl rfl rfl (by decide +kernel) ⟨(Nat.le_trans (Nat.le_of_ble_eq_true rfl) hRf), (Nat.le_trans (Nat.le_of_ble_eq_true rfl) hRl)⟩) rfl hl.1 rfl (Nat.le_of_ble_eq_true rfl) dX6_writes_28 (fun H locs hP hS => ?_)
    refine lv_aload_n hx hb dX6_writes_31 rfl (lv_at hl 0 rfl) ?_
    refine r_get hx hb hts hown hC hP hinX6 55 (by decide) (ci := 5) rfl (by decide) rfl 26 (by decide) (hts (.fieldLink RX6 207 "LoafPartsModel" "setMany" "I") (by decide +kernel)) (v := .int (ui q_6 55 26)) rfl dX6_writes_32 ?_
    refine lv_if_ne (tgt := 41) hx hb dX6_writes_35 (by decide) (fun c_7 => ?_) (fun c_7 => ?_)
    · rw [if_neg c_7] at hf
      refine lv_aload_n hx hb dX6_writes_41 rfl (lv_at hl 0 rfl) ?_
      refine lv_iload_n hx hb dX6_writes_42 rfl (lv_at hl 2 rfl) ?_
      refine lv_aload_n hx hb dX6_writes_43 rfl (lv_at hl 0 rfl) ?_
      refine r_get hx hb hts hown hC hP hinX6 55 (by decide) (ci := 5) rfl (by decide) rfl 27 (by decide) (hts (.fieldLink RX6 210 "LoafPartsModel" "setFew" "I") (by decide +kernel)) (v := .int (ui q_6 55 27)) rfl dX6_writes_44 ?_
      obtain ⟨q_8, hq_8, hf⟩ := bind_ex hf
      refine r_Vi (r := q_8.1) (u' := q_8.2) (As := [.int x2, .int (ui q_6 55 27)]) (rest := []) (k := 55) (ci := 5) ⟨hx, hb, hml, hown, hts⟩ hC hP hS (by decide) rfl (by decide) rfl (c_X6_row l g q_6 x2 (ui q_6 55 27) hq_8) (cwV 2 hts gX6_writes_X6_row rfl rfl rfl (by decide +kernel) ⟨(Nat.le_trans (Nat.le_of_ble_eq_true rfl) hRf), (Nat.le_trans (Nat.le_of_ble_eq_true rfl) hRl)⟩) rfl hl.1 rfl (Nat.le_of_ble_eq_true rfl) dX6_writes_47 (fun H locs hP hS => ?_)
      refine lv_pop hx hb dX6_writes_50 rfl ?_
      refine lv_iconst (v := (0 : Int32)) hx hb dX6_writes_51 (by decide) ?_
      refine lv_istore_n (lv' := [(3, .int (0 : Int32)), (0, .ref (aD g 55)), (1, .int x1), (2, .int x2)]) hx hb dX6_writes_52 rfl hl (by decide) rfl (fun ls hl => ?_)
      refine lv_iconst (v := (2 : Int32)) hx hb dX6_writes_53 (by decide) ?_
      refine lv_istore (lv' := [(4, .int (2 : Int32)), (3, .int (0 : Int32)), (0, .ref (aD g 55)), (1, .int x1), (2, .int x2)]) hx hb dX6_writes_54 hl (by decide) rfl (fun ls hl => ?_)
      exact w_56 fu x2 (0 : Int32) (2 : Int32) q_8.2 _ _ _ hP hS (lv_sub hl [2, 4, 1, 0] rfl) hf
    rw [if_pos c_7] at hf
    refine lv_bipush (v := (-9 : Int32)) hx hb dX6_writes_38 (by decide) ?_
    obtain ⟨rfl, rfl⟩ := sp2 hf
    exact kret _ _ _ _ dX6_writes_40 hP hS trivial
  rw [if_pos c_3] at hf
  refine lv_iconst (v := (-1 : Int32)) hx hb dX6_writes_15 (by decide) ?_
  obtain ⟨rfl, rfl⟩ := sp2 hf
  exact kret _ _ _ _ dX6_writes_16 hP hS trivial
set_option maxHeartbeats 4000000 in
set_option maxRecDepth 100000 in
theorem c_X6_greedy (l : Launch) (g : GG) (u : UU) (x1 : Int32) {r : Int32} {u' : UU} (hf : f_X6_greedy x1 u = some (r, u')) : Ci l g 55 20 yX6_greedy wsX6_greedy 3 65 [.ref (aD g 55), .int x1] u r u' := by
  refine ct_i (cc := cX6_greedy) (maxL := 6) (by decide) rfl (Nat.le_of_ble_eq_true rfl) ?_
  intro p e s m args below meth c R Q ls hx hb hml hown hts hC hP hl hRf hRl kret hS
  have hown : s.vm.findClass RX6 = some m.cls := hown
  have hl : lv_has ls 6 [(0, .ref (aD g 55)), (1, .int x1)] := hl
  have w_68 : ∀ (k_24 : Int32 → Int32 → Int32 → Int32 → Int32 → UU → Option (Int32 × UU)) (K_24 : ∀ (x1 : Int32) (x2 : Int32) (x3 : Int32) (x4 : Int32) (x5 : Int32) (u : UU) (H : Heap) (locs : List Loc) (ls : Array Slot), Ps g 55 20 u H → va_S (aA g) s.heap H locs → lv_has ls 6 [(0, .ref (aD g 55)), (1, .int x1), (2, .int x2), (3, .int x3), (4, .int x4), (5, .int x5)] → k_24 x1 x2 x3 x4 x5 u = some (r, u') → W p l e R s m args below meth c H locs 0 0 Q (F0 m 24 ls [])), ∀ (x1 : Int32) (x2 : Int32) (x3 : Int32) (x4 : Int32) (x5 : Int32) (u : UU) (H : Heap) (locs : List Loc) (ls : Array Slot), Ps g 55 20 u H → va_S (aA g) s.heap H locs → lv_has ls 6 [(0, .ref (aD g 55)), (1, .int x1), (2, .int x2), (3, .int x3), (4, .int x4), (5, .int x5)] → f_X6_greedy_68 k_24 x1 x2 x3 x4 x5 u = some (r, u') → W p l e R s m args below meth c H locs 0 0 Q (F0 m 68 ls []) := by
    intro k_24 K_24
    intro x1 x2 x3 x4 x5 u H locs ls hP hS hl hf
    unfold f_X6_greedy_68 at hf
    obtain ⟨x5_9, ex5_9, hf⟩ := lt_ex hf
    refine lv_iinc (v := x5_9) (lv' := [(5, .int x5_9), (0, .ref (aD g 55)), (1, .int x1), (2, .int x2), (3, .int x3), (4, .int x4)]) hx hb dX6_greedy_68 hl (k := 5) rfl (by rw [ex5_9]; rfl) (by decide) rfl (fun ls hl => ?_)
    refine lv_goto (tgt := 24) hx hb dX6_greedy_71 (by decide) ?_
    exact K_24 x1 x2 x3 x4 x5_9 u _ _ _ hP hS (lv_sub hl [1, 2, 3, 4, 5, 0] rfl) hf
  have w_24 : ∀ (n : Nat), ∀ (x1 : Int32) (x2 : Int32) (x3 : Int32) (x4 : Int32) (x5 : Int32) (u : UU) (H : Heap) (locs : List Loc) (ls : Array Slot), Ps g 55 20 u H → va_S (aA g) s.heap H locs → lv_has ls 6 [(0, .ref (aD g 55)), (1, .int x1), (2, .int x2), (3, .int x3), (4, .int x4), (5, .int x5)] → f_X6_greedy_24 n x1 x2 x3 x4 x5 u = some (r, u') → W p l e R s m args below meth c H locs 0 0 Q (F0 m 24 ls []) := by
    intro n
    induction n with
    | zero =>
      intro x1 x2 x3 x4 x5 u H locs ls hP hS hl hf
      rw [f_X6_greedy_24] at hf
      cases hf
    | succ n ih =>
      intro x1 x2 x3 x4 x5 u H locs ls hP hS hl hf
      rw [f_X6_greedy_24] at hf
      refine lv_iload hx hb dX6_greedy_24 (lv_at hl 5 rfl) ?_
      refine lv_bipush (v := (16 : Int32)) hx hb dX6_greedy_26 (by decide) ?_
      refine lv_icmp_gt (tgt := 74) hx hb dX6_greedy_28 (by decide) (fun c_4 => ?_) (fun c_4 => ?_)
      · rw [if_pos c_4] at hf
        refine lv_iload_n hx hb dX6_greedy_74 rfl (lv_at hl 2 rfl) ?_
        refine lv_if_le (tgt := 83) hx hb dX6_greedy_75 (by decide) (fun c_5 => ?_) (fun c_5 => ?_)
        · rw [if_pos c_5] at hf
          refine lv_aload_n hx hb dX6_greedy_83 rfl (lv_at hl 0 rfl) ?_
          refine lv_iload hx hb dX6_greedy_84 (lv_at hl 4 rfl) ?_
          refine lv_iload_n hx hb dX6_greedy_86 rfl (lv_at hl 3 rfl) ?_
          obtain ⟨q_6, hq_6, hf⟩ := bind_ex hf
          refine r_Vi (r := q_6.1) (u' := q_6.2) (As := [.int x4, .int x3]) (rest := []) (k := 55) (ci := 5) ⟨hx, hb, hml, hown, hts⟩ hC hP hS (by decide) rfl (by decide) rfl (c_X6_tells l g u x4 x3 hq_6) (cwV 2 hts gX6_greedy_X6_tells rfl rfl rfl (by decide +kernel) ⟨(Nat.le_trans (Nat.le_of_ble_eq_true rfl) hRf), (Nat.le_trans (Nat.le_of_ble_eq_true rfl) hRl)⟩) rfl hl.1 rfl (Nat.le_of_ble_eq_true rfl) dX6_greedy_87 (fun H locs hP hS => ?_)
          obtain ⟨rfl, rfl⟩ := sp2 hf
          exact kret _ _ _ _ dX6_greedy_90 hP hS trivial
        rw [if_neg c_5] at hf
        refine lv_bipush (v := (-9 : Int32)) hx hb dX6_greedy_78 (by decide) ?_
        refine lv_goto (tgt := 90) hx hb dX6_greedy_80 (by decide) ?_
        obtain ⟨rfl, rfl⟩ := sp2 hf
        exact kret _ _ _ _ dX6_greedy_90 hP hS trivial
      rw [if_neg c_4] at hf
      refine lv_aload_n hx hb dX6_greedy_31 rfl (lv_at hl 0 rfl) ?_
      refine lv_iload_n hx hb dX6_greedy_32 rfl (lv_at hl 1 rfl) ?_
      obtain ⟨q_7, hq_7, hf⟩ := bind_ex hf
      refine r_Vi (As := [.int x1]) (rest := []) (k := 55) (ci := 5) ⟨hx, hb, hml, hown, hts⟩ hC hP hS (by decide) rfl (by decide) rfl (c_X6_mayTake l g u x1 hq_7) (cwV 1 hts gX6_greedy_X6_mayTake rfl rfl rfl (by decide +kernel) ⟨(Nat.le_trans (Nat.le_of_ble_eq_true rfl) hRf), (Nat.le_trans (Nat.le_of_ble_eq_true rfl) hRl)⟩) rfl hl.1 rfl (Nat.le_of_ble_eq_true rfl) dX6_greedy_33 (fun H locs hP hS => ?_)
      refine lv_iload hx hb dX6_greedy_36 (lv_at hl 5 rfl) ?_
      refine r_Si (As := [.int q_7, .int x5]) (rest := []) ⟨hx, hb, hml, hown, hts⟩ hC hP hS (c_X6_has l g u q_7 x5 rfl) (va_cwS 2 hts gX6_greedy_X6_has rfl rfl rfl (by decide +kernel) ⟨(Nat.le_trans (Nat.le_of_ble_eq_true rfl) hRf), (Nat.le_trans (Nat.le_of_ble_eq_true rfl) hRl)⟩) rfl hl.1 rfl (Nat.le_of_ble_eq_true rfl) dX6_greedy_38 (fun H locs hP hS => ?_)
      refine lv_if_eq (tgt := 68) hx hb dX6_greedy_41 (by decide) (fun c_8 => ?_) (fun c_8 => ?_)
      · rw [if_pos c_8] at hf
        exact w_68 (f_X6_greedy_24 n) ih x1 x2 x3 x4 x5 u _ _ _ hP hS (lv_sub hl [0, 1, 2, 3, 4, 5] rfl) hf
      rw [if_neg c_8] at hf
      refine lv_iload_n hx hb dX6_greedy_44 rfl (lv_at hl 2 rfl) ?_
      refine lv_ldc (v := (720720 : Int32)) hx hb hown (hts (.constant RX6 149 (720720)) (by decide +kernel)) dX6_greedy_45 ?_
      refine lv_iload hx hb dX6_greedy_47 (lv_at hl 5 rfl) ?_
      obtain ⟨hz_10, hf⟩ := nz_ex hf
      refine lv_idiv hx hb dX6_greedy_49 hz_10 ?_
      refine lv_icmp_lt (tgt := 68) hx hb dX6_greedy_50 (by decide) (fun c_11 => ?_) (fun c_11 => ?_)
      · rw [if_pos c_11] at hf
        exact w_68 (f_X6_greedy_24 n) ih x1 x2 x3 x4 x5 u _ _ _ hP hS (lv_sub hl [0, 1, 2, 3, 4, 5] rfl) hf
      rw [if_neg c_11] at hf
      refine lv_iload_n hx hb dX6_greedy_53 rfl (lv_at hl 2 rfl) ?_
      refine lv_ldc (v := (720720 : Int32)) hx hb hown (hts (.constant RX6 149 (720720)) (by decide +kernel)) dX6_greedy_54 ?_
      refine lv_iload hx hb dX6_greedy_56 (lv_at hl 5 rfl) ?_
      obtain ⟨hz_12, hf⟩ := nz_ex hf
      refine lv_idiv hx hb dX6_greedy_58 hz_12 ?_
      refine lv_isub hx hb dX6_greedy_59 ?_
      obtain ⟨x2_13, ex2_13, hf⟩ := lt_ex hf
      refine r_nm ex2_13 ?_
      refine lv_istore_n (lv' := [(2, .int x2_13), (0, .ref (aD g 55)), (1, .int x1), (3, .int x3), (4, .int x4), (5, .int x5)]) hx hb dX6_greedy_60 rfl hl (by decide) rfl (fun ls hl => ?_)
      obtain ⟨x3_14, ex3_14, hf⟩ := lt_ex hf
      refine lv_iinc (v := x3_14) (lv' := [(3, .int x3_14), (2, .int x2_13), (0, .ref (aD g 55)), (1, .int x1), (4, .int x4), (5, .int x5)]) hx hb dX6_greedy_61 hl (k := 3) rfl (by rw [ex3_14]; rfl) (by decide) rfl (fun ls hl => ?_)
      refine lv_iload hx hb dX6_greedy_64 (lv_at hl 5 rfl) ?_
      refine lv_istore (lv' := [(4, .int x5), (3, .int x3_14), (2, .int x2_13), (0, .ref (aD g 55)), (1, .int x1), (5, .int x5)]) hx hb dX6_greedy_66 hl (by decide) rfl (fun ls hl => ?_)
      exact w_68 (f_X6_greedy_24 n) ih x1 x2_13 x3_14 x5 x5 u _ _ _ hP hS (lv_sub hl [3, 4, 2, 1, 0, 5] rfl) hf
  unfold f_X6_greedy at hf
  refine lv_aload_n hx hb dX6_greedy_0 rfl (lv_at hl 0 rfl) ?_
  refine lv_iload_n hx hb dX6_greedy_1 rfl (lv_at hl 1 rfl) ?_
  obtain ⟨q_1, hq_1, hf⟩ := bind_ex hf
  refine r_Vi (As := [.int x1]) (rest := []) (k := 55) (ci := 5) ⟨hx, hb, hml, hown, hts⟩ hC hP hS (by decide) rfl (by decide) rfl (c_X6_isWorker l g u x1 hq_1) (cwV 1 hts gX6_greedy_X6_isWorker rfl rfl rfl (by decide +kernel) ⟨(Nat.le_trans (Nat.le_of_ble_eq_true rfl) hRf), (Nat.le_trans (Nat.le_of_ble_eq_true rfl) hRl)⟩) rfl hl.1 rfl (Nat.le_of_ble_eq_true rfl) dX6_greedy_2 (fun H locs hP hS => ?_)
  refine lv_if_ne (tgt := 10) hx hb dX6_greedy_5 (by decide) (fun c_2 => ?_) (fun c_2 => ?_)
  · rw [if_neg c_2] at hf
    refine lv_aload_n hx hb dX6_greedy_10 rfl (lv_at hl 0 rfl) ?_
    refine lv_iload_n hx hb dX6_greedy_11 rfl (lv_at hl 1 rfl) ?_
    obtain ⟨q_3, hq_3, hf⟩ := bind_ex hf
    refine r_Vi (As := [.int x1]) (rest := []) (k := 55) (ci := 5) ⟨hx, hb, hml, hown, hts⟩ hC hP hS (by decide) rfl (by decide) rfl (c_X6_lackOf l g u x1 hq_3) (cwV 1 hts gX6_greedy_X6_lackOf rfl rfl rfl (by decide +kernel) ⟨(Nat.le_trans (Nat.le_of_ble_eq_true rfl) hRf), (Nat.le_trans (Nat.le_of_ble_eq_true rfl) hRl)⟩) rfl hl.1 rfl (Nat.le_of_ble_eq_true rfl) dX6_greedy_12 (fun H locs hP hS => ?_)
    refine lv_istore_n (lv' := [(2, .int q_3), (0, .ref (aD g 55)), (1, .int x1)]) hx hb dX6_greedy_15 rfl hl (by decide) rfl (fun ls hl => ?_)
    refine lv_iconst (v := (0 : Int32)) hx hb dX6_greedy_16 (by decide) ?_
    refine lv_istore_n (lv' := [(3, .int (0 : Int32)), (2, .int q_3), (0, .ref (aD g 55)), (1, .int x1)]) hx hb dX6_greedy_17 rfl hl (by decide) rfl (fun ls hl => ?_)
    refine lv_iconst (v := (0 : Int32)) hx hb dX6_greedy_18 (by decide) ?_
    refine lv_istore (lv' := [(4, .int (0 : Int32)), (3, .int (0 : Int32)), (2, .int q_3), (0, .ref (aD g 55)), (1, .int x1)]) hx hb dX6_greedy_19 hl (by decide) rfl (fun ls hl => ?_)
    refine lv_iconst (v := (2 : Int32)) hx hb dX6_greedy_21 (by decide) ?_
    refine lv_istore (lv' := [(5, .int (2 : Int32)), (4, .int (0 : Int32)), (3, .int (0 : Int32)), (2, .int q_3), (0, .ref (aD g 55)), (1, .int x1)]) hx hb dX6_greedy_22 hl (by decide) rfl (fun ls hl => ?_)
    exact w_24 fu x1 q_3 (0 : Int32) (0 : Int32) (2 : Int32) u _ _ _ hP hS (lv_sub hl [4, 5, 3, 2, 1, 0] rfl) hf
  rw [if_pos c_2] at hf
  refine lv_iconst (v := (-1 : Int32)) hx hb dX6_greedy_8 (by decide) ?_
  obtain ⟨rfl, rfl⟩ := sp2 hf
  exact kret _ _ _ _ dX6_greedy_9 hP hS trivial
set_option maxHeartbeats 4000000 in
set_option maxRecDepth 100000 in
theorem c_X6_isServed (l : Launch) (g : GG) (u : UU) (x1 : Int32) (x2 : Int32) {r : Int32} {u' : UU} (hf : f_X6_isServed x1 x2 u = some (r, u')) : Ci l g 55 20 yX6_isServed wsX6_isServed 3 67 [.ref (aD g 55), .int x1, .int x2] u r u' := by
  refine ct_z (cc := cX6_isServed) (maxL := 3) (by decide) rfl (Nat.le_of_ble_eq_true rfl) ?_
  intro p e s m args below meth c R Q ls hx hb hml hown hts hC hP hl hRf hRl kret hS
  have hown : s.vm.findClass RX6 = some m.cls := hown
  have hl : lv_has ls 3 [(0, .ref (aD g 55)), (1, .int x1), (2, .int x2)] := hl
  have hinX6 : ∀ w ∈ u_ws RX6 TX6 34, w ∈ wsX6_isServed := by decide +kernel
  unfold f_X6_isServed at hf
  refine lv_aload_n hx hb dX6_isServed_0 rfl (lv_at hl 0 rfl) ?_
  refine lv_aload_n hx hb dX6_isServed_1 rfl (lv_at hl 0 rfl) ?_
  refine lv_iload_n hx hb dX6_isServed_2 rfl (lv_at hl 1 rfl) ?_
  obtain ⟨q_1, hq_1, hf⟩ := bind_ex hf
  refine r_Vi (As := [.int x1]) (rest := [.ref (aD g 55)]) (k := 55) (ci := 5) ⟨hx, hb, hml, hown, hts⟩ hC hP hS (by decide) rfl (by decide) rfl (c_X6_mayTake l g u x1 hq_1) (cwV 1 hts gX6_isServed_X6_mayTake rfl rfl rfl (by decide +kernel) ⟨(Nat.le_trans (Nat.le_of_ble_eq_true rfl) hRf), (Nat.le_trans (Nat.le_of_ble_eq_true rfl) hRl)⟩) rfl hl.1 rfl (Nat.le_of_ble_eq_true rfl) dX6_isServed_3 (fun H locs hP hS => ?_)
  refine lv_iload_n hx hb dX6_isServed_6 rfl (lv_at hl 2 rfl) ?_
  refine lv_iand hx hb dX6_isServed_7 ?_
  refine lv_aload_n hx hb dX6_isServed_8 rfl (lv_at hl 0 rfl) ?_
  refine lv_iload_n hx hb dX6_isServed_9 rfl (lv_at hl 1 rfl) ?_
  obtain ⟨q_2, hq_2, hf⟩ := bind_ex hf
  refine r_Vi (As := [.int x1]) (rest := [.int (q_1 &&& x2), .ref (aD g 55)]) (k := 55) (ci := 5) ⟨hx, hb, hml, hown, hts⟩ hC hP hS (by decide) rfl (by decide) rfl (c_X6_lackOf l g u x1 hq_2) (cwV 1 hts gX6_isServed_X6_lackOf rfl rfl rfl (by decide +kernel) ⟨(Nat.le_trans (Nat.le_of_ble_eq_true rfl) hRf), (Nat.le_trans (Nat.le_of_ble_eq_true rfl) hRl)⟩) rfl hl.1 rfl (Nat.le_of_ble_eq_true rfl) dX6_isServed_10 (fun H locs hP hS => ?_)
  obtain ⟨q_3, hq_3, hf⟩ := bind_ex hf
  refine r_Vv (As := [.int (q_1 &&& x2), .int q_2]) (rest := []) (k := 55) (ci := 5) ⟨hx, hb, hml, hown, hts⟩ hC hP hS (by decide) rfl (by decide) rfl (c_X6_laySets l g u (q_1 &&& x2) q_2 hq_3) (cwV 2 hts gX6_isServed_X6_laySets rfl rfl rfl (by decide +kernel) ⟨(Nat.le_trans (Nat.le_of_ble_eq_true rfl) hRf), (Nat.le_trans (Nat.le_of_ble_eq_true rfl) hRl)⟩) rfl hl.1 rfl (Nat.le_of_ble_eq_true rfl) dX6_isServed_13 (fun H locs hP hS => ?_)
  refine lv_aload_n hx hb dX6_isServed_16 rfl (lv_at hl 0 rfl) ?_
  refine r_get hx hb hts hown hC hP hinX6 55 (by decide) (ci := 5) rfl (by decide) rfl 26 (by decide) (hts (.fieldLink RX6 207 "LoafPartsModel" "setMany" "I") (by decide +kernel)) (v := .int (ui q_3 55 26)) rfl dX6_isServed_17 ?_
  refine lv_if_le (tgt := 27) hx hb dX6_isServed_20 (by decide) (fun c_4 => ?_) (fun c_4 => ?_)
  · rw [if_pos c_4] at hf
    refine lv_iconst (v := (0 : Int32)) hx hb dX6_isServed_27 (by decide) ?_
    obtain ⟨rfl, rfl⟩ := sp2 hf
    exact kret _ _ _ _ dX6_isServed_28 hP hS rfl
  rw [if_neg c_4] at hf
  refine lv_iconst (v := (1 : Int32)) hx hb dX6_isServed_23 (by decide) ?_
  refine lv_goto (tgt := 28) hx hb dX6_isServed_24 (by decide) ?_
  obtain ⟨rfl, rfl⟩ := sp2 hf
  exact kret _ _ _ _ dX6_isServed_28 hP hS rfl
set_option maxHeartbeats 4000000 in
set_option maxRecDepth 100000 in
theorem c_X6_serve (l : Launch) (g : GG) (u : UU) (x1 : Int32) {r : Int32} {u' : UU} (hf : f_X6_serve x1 u = some (r, u')) : Ci l g 55 20 yX6_serve wsX6_serve 4 89 [.ref (aD g 55), .int x1] u r u' := by
  refine ct_i (cc := cX6_serve) (maxL := 2) (by decide) rfl (Nat.le_of_ble_eq_true rfl) ?_
  intro p e s m args below meth c R Q ls hx hb hml hown hts hC hP hl hRf hRl kret hS
  have hown : s.vm.findClass RX6 = some m.cls := hown
  have hl : lv_has ls 2 [(0, .ref (aD g 55)), (1, .int x1)] := hl
  have hinX6 : ∀ w ∈ u_ws RX6 TX6 34, w ∈ wsX6_serve := by decide +kernel
  unfold f_X6_serve at hf
  refine lv_aload_n hx hb dX6_serve_0 rfl (lv_at hl 0 rfl) ?_
  refine lv_iload_n hx hb dX6_serve_1 rfl (lv_at hl 1 rfl) ?_
  obtain ⟨q_1, hq_1, hf⟩ := bind_ex hf
  refine r_Vi (As := [.int x1]) (rest := []) (k := 55) (ci := 5) ⟨hx, hb, hml, hown, hts⟩ hC hP hS (by decide) rfl (by decide) rfl (c_X6_isWorker l g u x1 hq_1) (cwV 1 hts gX6_serve_X6_isWorker rfl rfl rfl (by decide +kernel) ⟨(Nat.le_trans (Nat.le_of_ble_eq_true rfl) hRf), (Nat.le_trans (Nat.le_of_ble_eq_true rfl) hRl)⟩) rfl hl.1 rfl (Nat.le_of_ble_eq_true rfl) dX6_serve_2 (fun H locs hP hS => ?_)
  refine lv_if_ne (tgt := 10) hx hb dX6_serve_5 (by decide) (fun c_2 => ?_) (fun c_2 => ?_)
  · rw [if_neg c_2] at hf
    refine lv_aload_n hx hb dX6_serve_10 rfl (lv_at hl 0 rfl) ?_
    refine lv_iload_n hx hb dX6_serve_11 rfl (lv_at hl 1 rfl) ?_
    refine lv_aload_n hx hb dX6_serve_12 rfl (lv_at hl 0 rfl) ?_
    obtain ⟨q_3, hq_3, hf⟩ := bind_ex hf
    refine r_Vi (As := []) (rest := [.int x1, .ref (aD g 55)]) (k := 55) (ci := 5) ⟨hx, hb, hml, hown, hts⟩ hC hP hS (by decide) rfl (by decide) rfl (c_X6_lying l g u hq_3) (cwV 0 hts gX6_serve_X6_lying rfl rfl rfl (by decide +kernel) ⟨(Nat.le_trans (Nat.le_of_ble_eq_true rfl) hRf), (Nat.le_trans (Nat.le_of_ble_eq_true rfl) hRl)⟩) rfl hl.1 rfl (Nat.le_of_ble_eq_true rfl) dX6_serve_13 (fun H locs hP hS => ?_)
    obtain ⟨q_4, hq_4, hf⟩ := bind_ex hf
    refine r_Vi (r := q_4.1) (u' := q_4.2) (As := [.int x1, .int q_3]) (rest := []) (k := 55) (ci := 5) ⟨hx, hb, hml, hown, hts⟩ hC hP hS (by decide) rfl (by decide) rfl (c_X6_isServed l g u x1 q_3 hq_4) (cwV 2 hts gX6_serve_X6_isServed rfl rfl rfl (by decide +kernel) ⟨(Nat.le_trans (Nat.le_of_ble_eq_true rfl) hRf), (Nat.le_trans (Nat.le_of_ble_eq_true rfl) hRl)⟩) rfl hl.1 rfl (Nat.le_of_ble_eq_true rfl) dX6_serve_16 (fun H locs hP hS => ?_)
    refine lv_if_eq (tgt := 37) hx hb dX6_serve_19 (by decide) (fun c_5 => ?_) (fun c_5 => ?_)
    · rw [if_pos c_5] at hf
      refine lv_bipush (v := (-9 : Int32)) hx hb dX6_serve_37 (by decide) ?_
      obtain ⟨rfl, rfl⟩ := sp2 hf
      exact kret _ _ _ _ dX6_serve_39 hP hS trivial
    rw [if_neg c_5] at hf
    refine lv_aload_n hx hb dX6_serve_22 rfl (lv_at hl 0 rfl) ?_
    refine lv_aload_n hx hb dX6_serve_23 rfl (lv_at hl 0 rfl) ?_
    refine r_get hx hb hts hown hC hP hinX6 55 (by decide) (ci := 5) rfl (by decide) rfl 27 (by decide) (hts (.fieldLink RX6 210 "LoafPartsModel" "setFew" "I") (by decide +kernel)) (v := .int (ui q_4.2 55 27)) rfl dX6_serve_24 ?_
    refine lv_aload_n hx hb dX6_serve_27 rfl (lv_at hl 0 rfl) ?_
    refine r_get hx hb hts hown hC hP hinX6 55 (by decide) (ci := 5) rfl (by decide) rfl 28 (by decide) (hts (.fieldLink RX6 213 "LoafPartsModel" "setBits" "I") (by decide +kernel)) (v := .int (ui q_4.2 55 28)) rfl dX6_serve_28 ?_
    obtain ⟨q_6, hq_6, hf⟩ := bind_ex hf
    refine r_Vi (r := q_6.1) (u' := q_6.2) (As := [.int (ui q_4.2 55 27), .int (ui q_4.2 55 28)]) (rest := []) (k := 55) (ci := 5) ⟨hx, hb, hml, hown, hts⟩ hC hP hS (by decide) rfl (by decide) rfl (c_X6_tells l g q_4.2 (ui q_4.2 55 27) (ui q_4.2 55 28) hq_6) (cwV 2 hts gX6_serve_X6_tells rfl rfl rfl (by decide +kernel) ⟨(Nat.le_trans (Nat.le_of_ble_eq_true rfl) hRf), (Nat.le_trans (Nat.le_of_ble_eq_true rfl) hRl)⟩) rfl hl.1 rfl (Nat.le_of_ble_eq_true rfl) dX6_serve_31 (fun H locs hP hS => ?_)
    refine lv_goto (tgt := 39) hx hb dX6_serve_34 (by decide) ?_
    obtain ⟨rfl, rfl⟩ := sp2 hf
    exact kret _ _ _ _ dX6_serve_39 hP hS trivial
  rw [if_pos c_2] at hf
  refine lv_iconst (v := (-1 : Int32)) hx hb dX6_serve_8 (by decide) ?_
  obtain ⟨rfl, rfl⟩ := sp2 hf
  exact kret _ _ _ _ dX6_serve_9 hP hS trivial
set_option maxHeartbeats 4000000 in
set_option maxRecDepth 100000 in
theorem c_X6_need (l : Launch) (g : GG) (u : UU) {r : Int32} {u' : UU} (hf : f_X6_need u = some (r, u')) : Ci l g 55 20 yX6_need wsX6_need 4 89 [.ref (aD g 55)] u r u' := by
  refine ct_i (cc := cX6_need) (maxL := 5) (by decide) rfl (Nat.le_of_ble_eq_true rfl) ?_
  intro p e s m args below meth c R Q ls hx hb hml hown hts hC hP hl hRf hRl kret hS
  have hown : s.vm.findClass RX6 = some m.cls := hown
  have hl : lv_has ls 5 [(0, .ref (aD g 55))] := hl
  have hinX6 : ∀ w ∈ u_ws RX6 TX6 34, w ∈ wsX6_need := by decide +kernel
  have w_161 : ∀ (k_120 : Int32 → Int32 → Int32 → UU → Option (Int32 × UU)) (K_120 : ∀ (x1 : Int32) (x2 : Int32) (x3 : Int32) (u : UU) (H : Heap) (locs : List Loc) (ls : Array Slot), Ps g 55 20 u H → va_S (aA g) s.heap H locs → lv_has ls 5 [(0, .ref (aD g 55)), (1, .int x1), (2, .int x2), (3, .int x3)] → k_120 x1 x2 x3 u = some (r, u') → W p l e R s m args below meth c H locs 0 0 Q (F0 m 120 ls [])), ∀ (x1 : Int32) (x3 : Int32) (t0 : Int32) (t1 : Int32) (u : UU) (H : Heap) (locs : List Loc) (ls : Array Slot), Ps g 55 20 u H → va_S (aA g) s.heap H locs → lv_has ls 5 [(0, .ref (aD g 55)), (1, .int x1), (3, .int x3)] → f_X6_need_161 k_120 x1 x3 t0 t1 u = some (r, u') → W p l e R s m args below meth c H locs 0 0 Q (F0 m 161 ls [.int t0, .int t1]) := by
    intro k_120 K_120
    intro x1 x3 t0 t1 u H locs ls hP hS hl hf
    unfold f_X6_need_161 at hf
    refine lv_iadd hx hb dX6_need_161 ?_
    obtain ⟨x2_10, ex2_10, hf⟩ := lt_ex hf
    refine r_nm ex2_10 ?_
    refine lv_istore_n (lv' := [(2, .int x2_10), (0, .ref (aD g 55)), (1, .int x1), (3, .int x3)]) hx hb dX6_need_162 rfl hl (by decide) rfl (fun ls hl => ?_)
    obtain ⟨x3_11, ex3_11, hf⟩ := lt_ex hf
    refine lv_iinc (v := x3_11) (lv' := [(3, .int x3_11), (2, .int x2_10), (0, .ref (aD g 55)), (1, .int x1)]) hx hb dX6_need_163 hl (k := 3) rfl (by rw [ex3_11]; rfl) (by decide) rfl (fun ls hl => ?_)
    refine lv_goto (tgt := 120) hx hb dX6_need_166 (by decide) ?_
    exact K_120 x1 x2_10 x3_11 u _ _ _ hP hS (lv_sub hl [2, 3, 1, 0] rfl) hf
  have w_120 : ∀ (n : Nat), ∀ (x1 : Int32) (x2 : Int32) (x3 : Int32) (u : UU) (H : Heap) (locs : List Loc) (ls : Array Slot), Ps g 55 20 u H → va_S (aA g) s.heap H locs → lv_has ls 5 [(0, .ref (aD g 55)), (1, .int x1), (2, .int x2), (3, .int x3)] → f_X6_need_120 n x1 x2 x3 u = some (r, u') → W p l e R s m args below meth c H locs 0 0 Q (F0 m 120 ls []) := by
    intro n
    induction n with
    | zero =>
      intro x1 x2 x3 u H locs ls hP hS hl hf
      rw [f_X6_need_120] at hf
      cases hf
    | succ n ih =>
      intro x1 x2 x3 u H locs ls hP hS hl hf
      rw [f_X6_need_120] at hf
      refine lv_iload_n hx hb dX6_need_120 rfl (lv_at hl 3 rfl) ?_
      refine lv_bipush (v := (16 : Int32)) hx hb dX6_need_121 (by decide) ?_
      refine lv_icmp_gt (tgt := 169) hx hb dX6_need_123 (by decide) (fun c_4 => ?_) (fun c_4 => ?_)
      · rw [if_pos c_4] at hf
        refine lv_aload_n hx hb dX6_need_169 rfl (lv_at hl 0 rfl) ?_
        refine lv_iload_n hx hb dX6_need_170 rfl (lv_at hl 1 rfl) ?_
        refine lv_iload_n hx hb dX6_need_171 rfl (lv_at hl 2 rfl) ?_
        obtain ⟨q_5, hq_5, hf⟩ := bind_ex hf
        refine r_Vi (r := q_5.1) (u' := q_5.2) (As := [.int x1, .int x2]) (rest := []) (k := 55) (ci := 5) ⟨hx, hb, hml, hown, hts⟩ hC hP hS (by decide) rfl (by decide) rfl (c_X6_tells l g u x1 x2 hq_5) (cwV 2 hts gX6_need_X6_tells rfl rfl rfl (by decide +kernel) ⟨(Nat.le_trans (Nat.le_of_ble_eq_true rfl) hRf), (Nat.le_trans (Nat.le_of_ble_eq_true rfl) hRl)⟩) rfl hl.1 rfl (Nat.le_of_ble_eq_true rfl) dX6_need_172 (fun H locs hP hS => ?_)
        obtain ⟨rfl, rfl⟩ := sp2 hf
        exact kret _ _ _ _ dX6_need_175 hP hS trivial
      rw [if_neg c_4] at hf
      refine lv_aload_n hx hb dX6_need_126 rfl (lv_at hl 0 rfl) ?_
      refine r_get hx hb hts hown hC hP hinX6 55 (by decide) (ci := 5) rfl (by decide) rfl 30 (by decide) (hts (.fieldLink RX6 63 "LoafPartsModel" "wanted" "[I") (by decide +kernel)) (v := .ref (aD g 72)) rfl dX6_need_127 ?_
      refine lv_iload_n hx hb dX6_need_130 rfl (lv_at hl 3 rfl) ?_
      obtain ⟨hi_6, hf⟩ := ix_ex hf
      refine r_ald hx hb hC hP 72 (by decide) rfl hi_6 dX6_need_131 ?_
      refine lv_aload_n hx hb dX6_need_132 rfl (lv_at hl 0 rfl) ?_
      refine r_get hx hb hts hown hC hP hinX6 55 (by decide) (ci := 5) rfl (by decide) rfl 21 (by decide) (hts (.fieldLink RX6 51 "LoafPartsModel" "now" "[I") (by decide +kernel)) (v := .ref (aD g 68)) rfl dX6_need_133 ?_
      refine lv_iconst (v := (1 : Int32)) hx hb dX6_need_136 (by decide) ?_
      refine lv_iload_n hx hb dX6_need_137 rfl (lv_at hl 3 rfl) ?_
      refine lv_iadd hx hb dX6_need_138 ?_
      obtain ⟨hi_7, hf⟩ := ix_ex hf
      refine r_ald hx hb hC hP 68 (by decide) rfl hi_7 dX6_need_139 ?_
      refine lv_isub hx hb dX6_need_140 ?_
      obtain ⟨x4_8, ex4_8, hf⟩ := lt_ex hf
      refine r_nm ex4_8 ?_
      refine lv_istore (lv' := [(4, .int x4_8), (0, .ref (aD g 55)), (1, .int x1), (2, .int x2), (3, .int x3)]) hx hb dX6_need_141 hl (by decide) rfl (fun ls hl => ?_)
      refine lv_iload_n hx hb dX6_need_143 rfl (lv_at hl 3 rfl) ?_
      refine lv_iload hx hb dX6_need_144 (lv_at hl 0 rfl) ?_
      refine lv_if_le (tgt := 160) hx hb dX6_need_146 (by decide) (fun c_9 => ?_) (fun c_9 => ?_)
      · rw [if_pos c_9] at hf
        refine lv_iconst (v := (0 : Int32)) hx hb dX6_need_160 (by decide) ?_
        exact w_161 (f_X6_need_120 n) ih x1 x3 (0 : Int32) x2 u _ _ _ hP hS (lv_sub hl [1, 2, 4] rfl) hf
      rw [if_neg c_9] at hf
      refine lv_iload hx hb dX6_need_149 (lv_at hl 0 rfl) ?_
      refine lv_iload_n hx hb dX6_need_151 rfl (lv_at hl 4 rfl) ?_
      refine lv_iadd hx hb dX6_need_152 ?_
      refine lv_iconst (v := (1 : Int32)) hx hb dX6_need_153 (by decide) ?_
      refine lv_isub hx hb dX6_need_154 ?_
      refine lv_iload_n hx hb dX6_need_155 rfl (lv_at hl 4 rfl) ?_
      obtain ⟨hz_12, hf⟩ := nz_ex hf
      refine lv_idiv hx hb dX6_need_156 hz_12 ?_
      refine lv_goto (tgt := 161) hx hb dX6_need_157 (by decide) ?_
      exact w_161 (f_X6_need_120 n) ih x1 x3 (((x4_8 + x3) - (1 : Int32)) / x3) x2 u _ _ _ hP hS (lv_sub hl [1, 2, 4] rfl) hf
  have w_110 : ∀ (k_35 : Int32 → Int32 → UU → Option (Int32 × UU)) (K_35 : ∀ (x1 : Int32) (x2 : Int32) (u : UU) (H : Heap) (locs : List Loc) (ls : Array Slot), Ps g 55 20 u H → va_S (aA g) s.heap H locs → lv_has ls 5 [(0, .ref (aD g 55)), (1, .int x1), (2, .int x2)] → k_35 x1 x2 u = some (r, u') → W p l e R s m args below meth c H locs 0 0 Q (F0 m 35 ls [])), ∀ (x1 : Int32) (x2 : Int32) (u : UU) (H : Heap) (locs : List Loc) (ls : Array Slot), Ps g 55 20 u H → va_S (aA g) s.heap H locs → lv_has ls 5 [(0, .ref (aD g 55)), (1, .int x1), (2, .int x2)] → f_X6_need_110 k_35 x1 x2 u = some (r, u') → W p l e R s m args below meth c H locs 0 0 Q (F0 m 110 ls []) := by
    intro k_35 K_35
    intro x1 x2 u H locs ls hP hS hl hf
    unfold f_X6_need_110 at hf
    obtain ⟨x2_17, ex2_17, hf⟩ := lt_ex hf
    refine lv_iinc (v := x2_17) (lv' := [(2, .int x2_17), (0, .ref (aD g 55)), (1, .int x1)]) hx hb dX6_need_110 hl (k := 2) rfl (by rw [ex2_17]; rfl) (by decide) rfl (fun ls hl => ?_)
    refine lv_goto (tgt := 35) hx hb dX6_need_113 (by decide) ?_
    exact K_35 x1 x2_17 u _ _ _ hP hS (lv_sub hl [1, 2, 0] rfl) hf
  have w_102 : ∀ (k_35 : Int32 → Int32 → UU → Option (Int32 × UU)) (K_35 : ∀ (x1 : Int32) (x2 : Int32) (u : UU) (H : Heap) (locs : List Loc) (ls : Array Slot), Ps g 55 20 u H → va_S (aA g) s.heap H locs → lv_has ls 5 [(0, .ref (aD g 55)), (1, .int x1), (2, .int x2)] → k_35 x1 x2 u = some (r, u') → W p l e R s m args below meth c H locs 0 0 Q (F0 m 35 ls [])) (k_66 : Int32 → Int32 → Int32 → Int32 → UU → Option (Int32 × UU)) (K_66 : ∀ (x1 : Int32) (x2 : Int32) (x3 : Int32) (x4 : Int32) (u : UU) (H : Heap) (locs : List Loc) (ls : Array Slot), Ps g 55 20 u H → va_S (aA g) s.heap H locs → lv_has ls 5 [(0, .ref (aD g 55)), (1, .int x1), (2, .int x2), (3, .int x3), (4, .int x4)] → k_66 x1 x2 x3 x4 u = some (r, u') → W p l e R s m args below meth c H locs 0 0 Q (F0 m 66 ls [])), ∀ (x1 : Int32) (x2 : Int32) (x3 : Int32) (x4 : Int32) (t0 : Int32) (t1 : Int32) (t2 : Int32) (u : UU) (H : Heap) (locs : List Loc) (ls : Array Slot), Ps g 55 20 u H → va_S (aA g) s.heap H locs → lv_has ls 5 [(0, .ref (aD g 55)), (1, .int x1), (2, .int x2), (3, .int x3), (4, .int x4)] → f_X6_need_102 k_35 k_66 x1 x2 x3 x4 t0 t1 t2 u = some (r, u') → W p l e R s m args below meth c H locs 0 0 Q (F0 m 102 ls [.int t0, .int t1, .int t2, .ref (aD g 72)]) := by
    intro k_35 K_35 k_66 K_66
    intro x1 x2 x3 x4 t0 t1 t2 u H locs ls hP hS hl hf
    unfold f_X6_need_102 at hf
    refine lv_iadd hx hb dX6_need_102 ?_
    obtain ⟨hi_21, hf⟩ := ix_ex hf
    obtain ⟨u_22, eu_22, hf⟩ := lt_ex hf
    refine r_ast hx hb hC hP hS 72 (by decide) rfl hi_21 eu_22 dX6_need_103 (fun H locs hP hS => ?_)
    obtain ⟨x4_23, ex4_23, hf⟩ := lt_ex hf
    refine lv_iinc (v := x4_23) (lv' := [(4, .int x4_23), (0, .ref (aD g 55)), (1, .int x1), (2, .int x2), (3, .int x3)]) hx hb dX6_need_104 hl (k := 4) rfl (by rw [ex4_23]; rfl) (by decide) rfl (fun ls hl => ?_)
    refine lv_goto (tgt := 66) hx hb dX6_need_107 (by decide) ?_
    exact K_66 x1 x2 x3 x4_23 u_22 _ _ _ hP hS (lv_sub hl [1, 2, 3, 4, 0] rfl) hf
  have w_66 : ∀ (k_35 : Int32 → Int32 → UU → Option (Int32 × UU)) (K_35 : ∀ (x1 : Int32) (x2 : Int32) (u : UU) (H : Heap) (locs : List Loc) (ls : Array Slot), Ps g 55 20 u H → va_S (aA g) s.heap H locs → lv_has ls 5 [(0, .ref (aD g 55)), (1, .int x1), (2, .int x2)] → k_35 x1 x2 u = some (r, u') → W p l e R s m args below meth c H locs 0 0 Q (F0 m 35 ls [])) (n : Nat), ∀ (x1 : Int32) (x2 : Int32) (x3 : Int32) (x4 : Int32) (u : UU) (H : Heap) (locs : List Loc) (ls : Array Slot), Ps g 55 20 u H → va_S (aA g) s.heap H locs → lv_has ls 5 [(0, .ref (aD g 55)), (1, .int x1), (2, .int x2), (3, .int x3), (4, .int x4)] → f_X6_need_66 k_35 n x1 x2 x3 x4 u = some (r, u') → W p l e R s m args below meth c H locs 0 0 Q (F0 m 66 ls []) := by
    intro k_35 K_35 n
    induction n with
    | zero =>
      intro x1 x2 x3 x4 u H locs ls hP hS hl hf
      rw [f_X6_need_66] at hf
      cases hf
    | succ n ih =>
      intro x1 x2 x3 x4 u H locs ls hP hS hl hf
      rw [f_X6_need_66] at hf
      refine lv_iload hx hb dX6_need_66 (lv_at hl 4 rfl) ?_
      refine lv_bipush (v := (16 : Int32)) hx hb dX6_need_68 (by decide) ?_
      refine lv_icmp_gt (tgt := 110) hx hb dX6_need_70 (by decide) (fun c_16 => ?_) (fun c_16 => ?_)
      · rw [if_pos c_16] at hf
        exact w_110 (k_35) K_35 x1 x2 u _ _ _ hP hS (lv_sub hl [0, 1, 2] rfl) hf
      rw [if_neg c_16] at hf
      refine lv_iload_n hx hb dX6_need_73 rfl (lv_at hl 3 rfl) ?_
      refine lv_if_eq (tgt := 110) hx hb dX6_need_74 (by decide) (fun c_18 => ?_) (fun c_18 => ?_)
      · rw [if_pos c_18] at hf
        exact w_110 (k_35) K_35 x1 x2 u _ _ _ hP hS (lv_sub hl [0, 1, 2] rfl) hf
      rw [if_neg c_18] at hf
      refine lv_aload_n hx hb dX6_need_77 rfl (lv_at hl 0 rfl) ?_
      refine r_get hx hb hts hown hC hP hinX6 55 (by decide) (ci := 5) rfl (by decide) rfl 30 (by decide) (hts (.fieldLink RX6 63 "LoafPartsModel" "wanted" "[I") (by decide +kernel)) (v := .ref (aD g 72)) rfl dX6_need_78 ?_
      refine lv_iload hx hb dX6_need_81 (lv_at hl 4 rfl) ?_
      refine lv_dup2_11 hx hb dX6_need_83 rfl rfl ?_
      obtain ⟨hi_19, hf⟩ := ix_ex hf
      refine r_ald hx hb hC hP 72 (by decide) rfl hi_19 dX6_need_84 ?_
      refine lv_aload_n hx hb dX6_need_85 rfl (lv_at hl 0 rfl) ?_
      refine r_get hx hb hts hown hC hP hinX6 55 (by decide) (ci := 5) rfl (by decide) rfl 28 (by decide) (hts (.fieldLink RX6 213 "LoafPartsModel" "setBits" "I") (by decide +kernel)) (v := .int (ui u 55 28)) rfl dX6_need_86 ?_
      refine lv_iload hx hb dX6_need_89 (lv_at hl 4 rfl) ?_
      refine r_Si (As := [.int (ui u 55 28), .int x4]) (rest := [.int (ui u 72 (x4 : Int32).toNatClampNeg), .int x4, .ref (aD g 72)]) ⟨hx, hb, hml, hown, hts⟩ hC hP hS (c_X6_has l g u (ui u 55 28) x4 rfl) (va_cwS 2 hts gX6_need_X6_has rfl rfl rfl (by decide +kernel) ⟨(Nat.le_trans (Nat.le_of_ble_eq_true rfl) hRf), (Nat.le_trans (Nat.le_of_ble_eq_true rfl) hRl)⟩) rfl hl.1 rfl (Nat.le_of_ble_eq_true rfl) dX6_need_91 (fun H locs hP hS => ?_)
      refine lv_if_eq (tgt := 101) hx hb dX6_need_94 (by decide) (fun c_20 => ?_) (fun c_20 => ?_)
      · rw [if_pos c_20] at hf
        refine lv_iconst (v := (0 : Int32)) hx hb dX6_need_101 (by decide) ?_
        exact w_102 (k_35) K_35 (f_X6_need_66 k_35 n) ih x1 x2 x3 x4 (0 : Int32) (ui u 72 (x4 : Int32).toNatClampNeg) x4 u _ _ _ hP hS (lv_sub hl [0, 1, 2, 3, 4] rfl) hf
      rw [if_neg c_20] at hf
      refine lv_iconst (v := (1 : Int32)) hx hb dX6_need_97 (by decide) ?_
      refine lv_goto (tgt := 102) hx hb dX6_need_98 (by decide) ?_
      exact w_102 (k_35) K_35 (f_X6_need_66 k_35 n) ih x1 x2 x3 x4 (1 : Int32) (ui u 72 (x4 : Int32).toNatClampNeg) x4 u _ _ _ hP hS (lv_sub hl [0, 1, 2, 3, 4] rfl) hf
  have w_61 : ∀ (k_35 : Int32 → Int32 → UU → Option (Int32 × UU)) (K_35 : ∀ (x1 : Int32) (x2 : Int32) (u : UU) (H : Heap) (locs : List Loc) (ls : Array Slot), Ps g 55 20 u H → va_S (aA g) s.heap H locs → lv_has ls 5 [(0, .ref (aD g 55)), (1, .int x1), (2, .int x2)] → k_35 x1 x2 u = some (r, u') → W p l e R s m args below meth c H locs 0 0 Q (F0 m 35 ls [])), ∀ (x2 : Int32) (x3 : Int32) (t0 : Int32) (t1 : Int32) (u : UU) (H : Heap) (locs : List Loc) (ls : Array Slot), Ps g 55 20 u H → va_S (aA g) s.heap H locs → lv_has ls 5 [(0, .ref (aD g 55)), (2, .int x2), (3, .int x3)] → f_X6_need_61 k_35 x2 x3 t0 t1 u = some (r, u') → W p l e R s m args below meth c H locs 0 0 Q (F0 m 61 ls [.int t0, .int t1]) := by
    intro k_35 K_35
    intro x2 x3 t0 t1 u H locs ls hP hS hl hf
    unfold f_X6_need_61 at hf
    refine lv_iadd hx hb dX6_need_61 ?_
    obtain ⟨x1_15, ex1_15, hf⟩ := lt_ex hf
    refine r_nm ex1_15 ?_
    refine lv_istore_n (lv' := [(1, .int x1_15), (0, .ref (aD g 55)), (2, .int x2), (3, .int x3)]) hx hb dX6_need_62 rfl hl (by decide) rfl (fun ls hl => ?_)
    refine lv_iconst (v := (2 : Int32)) hx hb dX6_need_63 (by decide) ?_
    refine lv_istore (lv' := [(4, .int (2 : Int32)), (1, .int x1_15), (0, .ref (aD g 55)), (2, .int x2), (3, .int x3)]) hx hb dX6_need_64 hl (by decide) rfl (fun ls hl => ?_)
    exact w_66 (k_35) K_35 fu x1_15 x2 x3 (2 : Int32) u _ _ _ hP hS (lv_sub hl [2, 1, 3, 4, 0] rfl) hf
  have w_35 : ∀ (n : Nat), ∀ (x1 : Int32) (x2 : Int32) (u : UU) (H : Heap) (locs : List Loc) (ls : Array Slot), Ps g 55 20 u H → va_S (aA g) s.heap H locs → lv_has ls 5 [(0, .ref (aD g 55)), (1, .int x1), (2, .int x2)] → f_X6_need_35 n x1 x2 u = some (r, u') → W p l e R s m args below meth c H locs 0 0 Q (F0 m 35 ls []) := by
    intro n
    induction n with
    | zero =>
      intro x1 x2 u H locs ls hP hS hl hf
      rw [f_X6_need_35] at hf
      cases hf
    | succ n ih =>
      intro x1 x2 u H locs ls hP hS hl hf
      rw [f_X6_need_35] at hf
      refine lv_iload_n hx hb dX6_need_35 rfl (lv_at hl 2 rfl) ?_
      refine lv_aload_n hx hb dX6_need_36 rfl (lv_at hl 0 rfl) ?_
      refine r_get hx hb hts hown hC hP hinX6 55 (by decide) (ci := 5) rfl (by decide) rfl 17 (by decide) (hts (.fieldLink RX6 136 "LoafPartsModel" "n" "I") (by decide +kernel)) (v := .int (ui u 55 17)) rfl dX6_need_37 ?_
      refine lv_icmp_ge (tgt := 116) hx hb dX6_need_40 (by decide) (fun c_3 => ?_) (fun c_3 => ?_)
      · rw [if_pos c_3] at hf
        refine lv_iconst (v := (0 : Int32)) hx hb dX6_need_116 (by decide) ?_
        refine lv_istore_n (lv' := [(2, .int (0 : Int32)), (0, .ref (aD g 55)), (1, .int x1)]) hx hb dX6_need_117 rfl hl (by decide) rfl (fun ls hl => ?_)
        refine lv_iconst (v := (2 : Int32)) hx hb dX6_need_118 (by decide) ?_
        refine lv_istore_n (lv' := [(3, .int (2 : Int32)), (2, .int (0 : Int32)), (0, .ref (aD g 55)), (1, .int x1)]) hx hb dX6_need_119 rfl hl (by decide) rfl (fun ls hl => ?_)
        exact w_120 fu x1 (0 : Int32) (2 : Int32) u _ _ _ hP hS (lv_sub hl [2, 3, 1, 0] rfl) hf
      rw [if_neg c_3] at hf
      refine lv_aload_n hx hb dX6_need_43 rfl (lv_at hl 0 rfl) ?_
      refine lv_iload_n hx hb dX6_need_44 rfl (lv_at hl 2 rfl) ?_
      refine lv_ldc (v := (131068 : Int32)) hx hb hown (hts (.constant RX6 231 (131068)) (by decide +kernel)) dX6_need_45 ?_
      obtain ⟨q_13, hq_13, hf⟩ := bind_ex hf
      refine r_Vi (r := q_13.1) (u' := q_13.2) (As := [.int x2, .int (131068 : Int32)]) (rest := []) (k := 55) (ci := 5) ⟨hx, hb, hml, hown, hts⟩ hC hP hS (by decide) rfl (by decide) rfl (c_X6_isServed l g u x2 (131068 : Int32) hq_13) (cwV 2 hts gX6_need_X6_isServed rfl rfl rfl (by decide +kernel) ⟨(Nat.le_trans (Nat.le_of_ble_eq_true rfl) hRf), (Nat.le_trans (Nat.le_of_ble_eq_true rfl) hRl)⟩) rfl hl.1 rfl (Nat.le_of_ble_eq_true rfl) dX6_need_47 (fun H locs hP hS => ?_)
      refine lv_istore_n (lv' := [(3, .int q_13.1), (0, .ref (aD g 55)), (1, .int x1), (2, .int x2)]) hx hb dX6_need_50 rfl hl (by decide) rfl (fun ls hl => ?_)
      refine lv_iload_n hx hb dX6_need_51 rfl (lv_at hl 2 rfl) ?_
      refine lv_iload_n hx hb dX6_need_52 rfl (lv_at hl 0 rfl) ?_
      refine lv_if_eq (tgt := 60) hx hb dX6_need_53 (by decide) (fun c_14 => ?_) (fun c_14 => ?_)
      · rw [if_pos c_14] at hf
        refine lv_iconst (v := (0 : Int32)) hx hb dX6_need_60 (by decide) ?_
        exact w_61 (f_X6_need_35 n) ih x2 q_13.1 (0 : Int32) x1 q_13.2 _ _ _ hP hS (lv_sub hl [1, 3, 0] rfl) hf
      rw [if_neg c_14] at hf
      refine lv_iconst (v := (1 : Int32)) hx hb dX6_need_56 (by decide) ?_
      refine lv_goto (tgt := 61) hx hb dX6_need_57 (by decide) ?_
      exact w_61 (f_X6_need_35 n) ih x2 q_13.1 (1 : Int32) x1 q_13.2 _ _ _ hP hS (lv_sub hl [1, 3, 0] rfl) hf
  have w_12 : ∀ (n : Nat), ∀ (x1 : Int32) (u : UU) (H : Heap) (locs : List Loc) (ls : Array Slot), Ps g 55 20 u H → va_S (aA g) s.heap H locs → lv_has ls 5 [(0, .ref (aD g 55)), (1, .int x1)] → f_X6_need_12 n x1 u = some (r, u') → W p l e R s m args below meth c H locs 0 0 Q (F0 m 12 ls []) := by
    intro n
    induction n with
    | zero =>
      intro x1 u H locs ls hP hS hl hf
      rw [f_X6_need_12] at hf
      cases hf
    | succ n ih =>
      intro x1 u H locs ls hP hS hl hf
      rw [f_X6_need_12] at hf
      refine lv_iload_n hx hb dX6_need_12 rfl (lv_at hl 1 rfl) ?_
      refine lv_bipush (v := (16 : Int32)) hx hb dX6_need_13 (by decide) ?_
      refine lv_icmp_gt (tgt := 31) hx hb dX6_need_15 (by decide) (fun c_2 => ?_) (fun c_2 => ?_)
      · rw [if_pos c_2] at hf
        refine lv_iconst (v := (0 : Int32)) hx hb dX6_need_31 (by decide) ?_
        refine lv_istore_n (lv' := [(1, .int (0 : Int32)), (0, .ref (aD g 55))]) hx hb dX6_need_32 rfl hl (by decide) rfl (fun ls hl => ?_)
        refine lv_iconst (v := (0 : Int32)) hx hb dX6_need_33 (by decide) ?_
        refine lv_istore_n (lv' := [(2, .int (0 : Int32)), (1, .int (0 : Int32)), (0, .ref (aD g 55))]) hx hb dX6_need_34 rfl hl (by decide) rfl (fun ls hl => ?_)
        exact w_35 fu (0 : Int32) (0 : Int32) u _ _ _ hP hS (lv_sub hl [2, 1, 0] rfl) hf
      rw [if_neg c_2] at hf
      refine lv_aload_n hx hb dX6_need_18 rfl (lv_at hl 0 rfl) ?_
      refine r_get hx hb hts hown hC hP hinX6 55 (by decide) (ci := 5) rfl (by decide) rfl 30 (by decide) (hts (.fieldLink RX6 63 "LoafPartsModel" "wanted" "[I") (by decide +kernel)) (v := .ref (aD g 72)) rfl dX6_need_19 ?_
      refine lv_iload_n hx hb dX6_need_22 rfl (lv_at hl 1 rfl) ?_
      refine lv_iconst (v := (0 : Int32)) hx hb dX6_need_23 (by decide) ?_
      obtain ⟨hi_24, hf⟩ := ix_ex hf
      obtain ⟨u_25, eu_25, hf⟩ := lt_ex hf
      refine r_ast hx hb hC hP hS 72 (by decide) rfl hi_24 eu_25 dX6_need_24 (fun H locs hP hS => ?_)
      obtain ⟨x1_26, ex1_26, hf⟩ := lt_ex hf
      refine lv_iinc (v := x1_26) (lv' := [(1, .int x1_26), (0, .ref (aD g 55))]) hx hb dX6_need_25 hl (k := 1) rfl (by rw [ex1_26]; rfl) (by decide) rfl (fun ls hl => ?_)
      refine lv_goto (tgt := 12) hx hb dX6_need_28 (by decide) ?_
      exact ih x1_26 u_25 _ _ _ hP hS (lv_sub hl [1, 0] rfl) hf
  unfold f_X6_need at hf
  refine lv_aload_n hx hb dX6_need_0 rfl (lv_at hl 0 rfl) ?_
  refine r_get hx hb hts hown hC hP hinX6 55 (by decide) (ci := 5) rfl (by decide) rfl 17 (by decide) (hts (.fieldLink RX6 136 "LoafPartsModel" "n" "I") (by decide +kernel)) (v := .int (ui u 55 17)) rfl dX6_need_1 ?_
  refine lv_if_ne (tgt := 10) hx hb dX6_need_4 (by decide) (fun c_1 => ?_) (fun c_1 => ?_)
  · rw [if_neg c_1] at hf
    refine lv_iconst (v := (0 : Int32)) hx hb dX6_need_10 (by decide) ?_
    refine lv_istore_n (lv' := [(1, .int (0 : Int32)), (0, .ref (aD g 55))]) hx hb dX6_need_11 rfl hl (by decide) rfl (fun ls hl => ?_)
    exact w_12 fu (0 : Int32) u _ _ _ hP hS (lv_sub hl [1, 0] rfl) hf
  rw [if_pos c_1] at hf
  refine lv_bipush (v := (-4 : Int32)) hx hb dX6_need_7 (by decide) ?_
  obtain ⟨rfl, rfl⟩ := sp2 hf
  exact kret _ _ _ _ dX6_need_9 hP hS trivial
set_option maxHeartbeats 4000000 in
set_option maxRecDepth 100000 in
theorem c_X6_poor (l : Launch) (g : GG) (u : UU) {r : Int32} {u' : UU} (hf : f_X6_poor u = some (r, u')) : Ci l g 55 20 yX6_poor wsX6_poor 3 64 [.ref (aD g 55)] u r u' := by
  refine ct_i (cc := cX6_poor) (maxL := 3) (by decide) rfl (Nat.le_of_ble_eq_true rfl) ?_
  intro p e s m args below meth c R Q ls hx hb hml hown hts hC hP hl hRf hRl kret hS
  have hown : s.vm.findClass RX6 = some m.cls := hown
  have hl : lv_has ls 3 [(0, .ref (aD g 55))] := hl
  have hinX6 : ∀ w ∈ u_ws RX6 TX6 34, w ∈ wsX6_poor := by decide +kernel
  have w_40 : ∀ (k_14 : Int32 → Int32 → UU → Option (Int32 × UU)) (K_14 : ∀ (x1 : Int32) (x2 : Int32) (u : UU) (H : Heap) (locs : List Loc) (ls : Array Slot), Ps g 55 20 u H → va_S (aA g) s.heap H locs → lv_has ls 3 [(0, .ref (aD g 55)), (1, .int x1), (2, .int x2)] → k_14 x1 x2 u = some (r, u') → W p l e R s m args below meth c H locs 0 0 Q (F0 m 14 ls [])), ∀ (x2 : Int32) (t0 : Int32) (u : UU) (H : Heap) (locs : List Loc) (ls : Array Slot), Ps g 55 20 u H → va_S (aA g) s.heap H locs → lv_has ls 3 [(0, .ref (aD g 55)), (2, .int x2)] → f_X6_poor_40 k_14 x2 t0 u = some (r, u') → W p l e R s m args below meth c H locs 0 0 Q (F0 m 40 ls [.int t0]) := by
    intro k_14 K_14
    intro x2 t0 u H locs ls hP hS hl hf
    unfold f_X6_poor_40 at hf
    refine lv_istore_n (lv' := [(1, .int t0), (0, .ref (aD g 55)), (2, .int x2)]) hx hb dX6_poor_40 rfl hl (by decide) rfl (fun ls hl => ?_)
    obtain ⟨x2_8, ex2_8, hf⟩ := lt_ex hf
    refine lv_iinc (v := x2_8) (lv' := [(2, .int x2_8), (1, .int t0), (0, .ref (aD g 55))]) hx hb dX6_poor_41 hl (k := 2) rfl (by rw [ex2_8]; rfl) (by decide) rfl (fun ls hl => ?_)
    refine lv_goto (tgt := 14) hx hb dX6_poor_44 (by decide) ?_
    exact K_14 t0 x2_8 u _ _ _ hP hS (lv_sub hl [2, 1, 0] rfl) hf
  have w_14 : ∀ (n : Nat), ∀ (x1 : Int32) (x2 : Int32) (u : UU) (H : Heap) (locs : List Loc) (ls : Array Slot), Ps g 55 20 u H → va_S (aA g) s.heap H locs → lv_has ls 3 [(0, .ref (aD g 55)), (1, .int x1), (2, .int x2)] → f_X6_poor_14 n x1 x2 u = some (r, u') → W p l e R s m args below meth c H locs 0 0 Q (F0 m 14 ls []) := by
    intro n
    induction n with
    | zero =>
      intro x1 x2 u H locs ls hP hS hl hf
      rw [f_X6_poor_14] at hf
      cases hf
    | succ n ih =>
      intro x1 x2 u H locs ls hP hS hl hf
      rw [f_X6_poor_14] at hf
      refine lv_iload_n hx hb dX6_poor_14 rfl (lv_at hl 2 rfl) ?_
      refine lv_aload_n hx hb dX6_poor_15 rfl (lv_at hl 0 rfl) ?_
      refine r_get hx hb hts hown hC hP hinX6 55 (by decide) (ci := 5) rfl (by decide) rfl 17 (by decide) (hts (.fieldLink RX6 136 "LoafPartsModel" "n" "I") (by decide +kernel)) (v := .int (ui u 55 17)) rfl dX6_poor_16 ?_
      refine lv_icmp_ge (tgt := 47) hx hb dX6_poor_19 (by decide) (fun c_2 => ?_) (fun c_2 => ?_)
      · rw [if_pos c_2] at hf
        refine lv_aload_n hx hb dX6_poor_47 rfl (lv_at hl 0 rfl) ?_
        refine lv_aload_n hx hb dX6_poor_48 rfl (lv_at hl 0 rfl) ?_
        refine lv_iload_n hx hb dX6_poor_49 rfl (lv_at hl 1 rfl) ?_
        obtain ⟨q_3, hq_3, hf⟩ := bind_ex hf
        refine r_Vi (As := [.int x1]) (rest := [.ref (aD g 55)]) (k := 55) (ci := 5) ⟨hx, hb, hml, hown, hts⟩ hC hP hS (by decide) rfl (by decide) rfl (c_X6_lackOf l g u x1 hq_3) (cwV 1 hts gX6_poor_X6_lackOf rfl rfl rfl (by decide +kernel) ⟨(Nat.le_trans (Nat.le_of_ble_eq_true rfl) hRf), (Nat.le_trans (Nat.le_of_ble_eq_true rfl) hRl)⟩) rfl hl.1 rfl (Nat.le_of_ble_eq_true rfl) dX6_poor_50 (fun H locs hP hS => ?_)
        refine lv_i2l hx hb dX6_poor_53 rfl ?_
        refine lv_ldc2 (v := (720720 : Int64)) hx hb hown (hts (.constantLong RX6 201 (720720)) (by decide +kernel)) dX6_poor_54 ?_
        refine lv_iload_n hx hb dX6_poor_57 rfl (lv_at hl 1 rfl) ?_
        obtain ⟨q_4, hq_4, hf⟩ := bind_ex hf
        refine r_Vi (r := q_4.1) (u' := q_4.2) (As := [.long ((q_3 : Int32).toInt64), .long (720720 : Int64), .int x1]) (rest := []) (k := 55) (ci := 5) ⟨hx, hb, hml, hown, hts⟩ hC hP hS (by decide) rfl (by decide) rfl (c_X6_lowest l g u ((q_3 : Int32).toInt64) (720720 : Int64) x1 hq_4) (cwV 3 hts gX6_poor_X6_lowest rfl rfl rfl (by decide +kernel) ⟨(Nat.le_trans (Nat.le_of_ble_eq_true rfl) hRf), (Nat.le_trans (Nat.le_of_ble_eq_true rfl) hRl)⟩) rfl hl.1 rfl (Nat.le_of_ble_eq_true rfl) dX6_poor_58 (fun H locs hP hS => ?_)
        obtain ⟨rfl, rfl⟩ := sp2 hf
        exact kret _ _ _ _ dX6_poor_61 hP hS trivial
      rw [if_neg c_2] at hf
      refine lv_aload_n hx hb dX6_poor_22 rfl (lv_at hl 0 rfl) ?_
      refine lv_iload_n hx hb dX6_poor_23 rfl (lv_at hl 2 rfl) ?_
      obtain ⟨q_5, hq_5, hf⟩ := bind_ex hf
      refine r_Vi (As := [.int x2]) (rest := []) (k := 55) (ci := 5) ⟨hx, hb, hml, hown, hts⟩ hC hP hS (by decide) rfl (by decide) rfl (c_X6_lackOf l g u x2 hq_5) (cwV 1 hts gX6_poor_X6_lackOf rfl rfl rfl (by decide +kernel) ⟨(Nat.le_trans (Nat.le_of_ble_eq_true rfl) hRf), (Nat.le_trans (Nat.le_of_ble_eq_true rfl) hRl)⟩) rfl hl.1 rfl (Nat.le_of_ble_eq_true rfl) dX6_poor_24 (fun H locs hP hS => ?_)
      refine lv_aload_n hx hb dX6_poor_27 rfl (lv_at hl 0 rfl) ?_
      refine lv_iload_n hx hb dX6_poor_28 rfl (lv_at hl 1 rfl) ?_
      obtain ⟨q_6, hq_6, hf⟩ := bind_ex hf
      refine r_Vi (As := [.int x1]) (rest := [.int q_5]) (k := 55) (ci := 5) ⟨hx, hb, hml, hown, hts⟩ hC hP hS (by decide) rfl (by decide) rfl (c_X6_lackOf l g u x1 hq_6) (cwV 1 hts gX6_poor_X6_lackOf rfl rfl rfl (by decide +kernel) ⟨(Nat.le_trans (Nat.le_of_ble_eq_true rfl) hRf), (Nat.le_trans (Nat.le_of_ble_eq_true rfl) hRl)⟩) rfl hl.1 rfl (Nat.le_of_ble_eq_true rfl) dX6_poor_29 (fun H locs hP hS => ?_)
      refine lv_icmp_le (tgt := 39) hx hb dX6_poor_32 (by decide) (fun c_7 => ?_) (fun c_7 => ?_)
      · rw [if_pos c_7] at hf
        refine lv_iload_n hx hb dX6_poor_39 rfl (lv_at hl 1 rfl) ?_
        exact w_40 (f_X6_poor_14 n) ih x2 x1 u _ _ _ hP hS (lv_sub hl [0, 2] rfl) hf
      rw [if_neg c_7] at hf
      refine lv_iload_n hx hb dX6_poor_35 rfl (lv_at hl 2 rfl) ?_
      refine lv_goto (tgt := 40) hx hb dX6_poor_36 (by decide) ?_
      exact w_40 (f_X6_poor_14 n) ih x2 x2 u _ _ _ hP hS (lv_sub hl [0, 2] rfl) hf
  unfold f_X6_poor at hf
  refine lv_aload_n hx hb dX6_poor_0 rfl (lv_at hl 0 rfl) ?_
  refine r_get hx hb hts hown hC hP hinX6 55 (by decide) (ci := 5) rfl (by decide) rfl 17 (by decide) (hts (.fieldLink RX6 136 "LoafPartsModel" "n" "I") (by decide +kernel)) (v := .int (ui u 55 17)) rfl dX6_poor_1 ?_
  refine lv_if_ne (tgt := 10) hx hb dX6_poor_4 (by decide) (fun c_1 => ?_) (fun c_1 => ?_)
  · rw [if_neg c_1] at hf
    refine lv_iconst (v := (0 : Int32)) hx hb dX6_poor_10 (by decide) ?_
    refine lv_istore_n (lv' := [(1, .int (0 : Int32)), (0, .ref (aD g 55))]) hx hb dX6_poor_11 rfl hl (by decide) rfl (fun ls hl => ?_)
    refine lv_iconst (v := (0 : Int32)) hx hb dX6_poor_12 (by decide) ?_
    refine lv_istore_n (lv' := [(2, .int (0 : Int32)), (1, .int (0 : Int32)), (0, .ref (aD g 55))]) hx hb dX6_poor_13 rfl hl (by decide) rfl (fun ls hl => ?_)
    exact w_14 fu (0 : Int32) (0 : Int32) u _ _ _ hP hS (lv_sub hl [2, 1, 0] rfl) hf
  rw [if_pos c_1] at hf
  refine lv_bipush (v := (-4 : Int32)) hx hb dX6_poor_7 (by decide) ?_
  obtain ⟨rfl, rfl⟩ := sp2 hf
  exact kret _ _ _ _ dX6_poor_9 hP hS trivial
set_option maxHeartbeats 4000000 in
set_option maxRecDepth 100000 in
theorem c_X6_served (l : Launch) (g : GG) (u : UU) (x1 : Int32) {r : Int32} {u' : UU} (hf : f_X6_served x1 u = some (r, u')) : Ci l g 55 20 yX6_served wsX6_served 4 89 [.ref (aD g 55), .int x1] u r u' := by
  refine ct_i (cc := cX6_served) (maxL := 4) (by decide) rfl (Nat.le_of_ble_eq_true rfl) ?_
  intro p e s m args below meth c R Q ls hx hb hml hown hts hC hP hl hRf hRl kret hS
  have hown : s.vm.findClass RX6 = some m.cls := hown
  have hl : lv_has ls 4 [(0, .ref (aD g 55)), (1, .int x1)] := hl
  have hinX6 : ∀ w ∈ u_ws RX6 TX6 34, w ∈ wsX6_served := by decide +kernel
  have w_29 : ∀ (k_4 : Int32 → Int32 → Int32 → UU → Option (Int32 × UU)) (K_4 : ∀ (x1 : Int32) (x2 : Int32) (x3 : Int32) (u : UU) (H : Heap) (locs : List Loc) (ls : Array Slot), Ps g 55 20 u H → va_S (aA g) s.heap H locs → lv_has ls 4 [(0, .ref (aD g 55)), (1, .int x1), (2, .int x2), (3, .int x3)] → k_4 x1 x2 x3 u = some (r, u') → W p l e R s m args below meth c H locs 0 0 Q (F0 m 4 ls [])), ∀ (x1 : Int32) (x3 : Int32) (t0 : Int32) (t1 : Int32) (u : UU) (H : Heap) (locs : List Loc) (ls : Array Slot), Ps g 55 20 u H → va_S (aA g) s.heap H locs → lv_has ls 4 [(0, .ref (aD g 55)), (1, .int x1), (3, .int x3)] → f_X6_served_29 k_4 x1 x3 t0 t1 u = some (r, u') → W p l e R s m args below meth c H locs 0 0 Q (F0 m 29 ls [.int t0, .int t1]) := by
    intro k_4 K_4
    intro x1 x3 t0 t1 u H locs ls hP hS hl hf
    unfold f_X6_served_29 at hf
    refine lv_ior hx hb dX6_served_29 ?_
    obtain ⟨x2_4, ex2_4, hf⟩ := lt_ex hf
    refine r_nm ex2_4 ?_
    refine lv_istore_n (lv' := [(2, .int x2_4), (0, .ref (aD g 55)), (1, .int x1), (3, .int x3)]) hx hb dX6_served_30 rfl hl (by decide) rfl (fun ls hl => ?_)
    obtain ⟨x3_5, ex3_5, hf⟩ := lt_ex hf
    refine lv_iinc (v := x3_5) (lv' := [(3, .int x3_5), (2, .int x2_4), (0, .ref (aD g 55)), (1, .int x1)]) hx hb dX6_served_31 hl (k := 3) rfl (by rw [ex3_5]; rfl) (by decide) rfl (fun ls hl => ?_)
    refine lv_goto (tgt := 4) hx hb dX6_served_34 (by decide) ?_
    exact K_4 x1 x2_4 x3_5 u _ _ _ hP hS (lv_sub hl [2, 3, 1, 0] rfl) hf
  have w_4 : ∀ (n : Nat), ∀ (x1 : Int32) (x2 : Int32) (x3 : Int32) (u : UU) (H : Heap) (locs : List Loc) (ls : Array Slot), Ps g 55 20 u H → va_S (aA g) s.heap H locs → lv_has ls 4 [(0, .ref (aD g 55)), (1, .int x1), (2, .int x2), (3, .int x3)] → f_X6_served_4 n x1 x2 x3 u = some (r, u') → W p l e R s m args below meth c H locs 0 0 Q (F0 m 4 ls []) := by
    intro n
    induction n with
    | zero =>
      intro x1 x2 x3 u H locs ls hP hS hl hf
      rw [f_X6_served_4] at hf
      cases hf
    | succ n ih =>
      intro x1 x2 x3 u H locs ls hP hS hl hf
      rw [f_X6_served_4] at hf
      refine lv_iload_n hx hb dX6_served_4 rfl (lv_at hl 3 rfl) ?_
      refine lv_aload_n hx hb dX6_served_5 rfl (lv_at hl 0 rfl) ?_
      refine r_get hx hb hts hown hC hP hinX6 55 (by decide) (ci := 5) rfl (by decide) rfl 17 (by decide) (hts (.fieldLink RX6 136 "LoafPartsModel" "n" "I") (by decide +kernel)) (v := .int (ui u 55 17)) rfl dX6_served_6 ?_
      refine lv_icmp_ge (tgt := 37) hx hb dX6_served_9 (by decide) (fun c_1 => ?_) (fun c_1 => ?_)
      · rw [if_pos c_1] at hf
        refine lv_iload_n hx hb dX6_served_37 rfl (lv_at hl 2 rfl) ?_
        obtain ⟨rfl, rfl⟩ := sp2 hf
        exact kret _ _ _ _ dX6_served_38 hP hS trivial
      rw [if_neg c_1] at hf
      refine lv_iload_n hx hb dX6_served_12 rfl (lv_at hl 2 rfl) ?_
      refine lv_aload_n hx hb dX6_served_13 rfl (lv_at hl 0 rfl) ?_
      refine lv_iload_n hx hb dX6_served_14 rfl (lv_at hl 3 rfl) ?_
      refine lv_iload_n hx hb dX6_served_15 rfl (lv_at hl 1 rfl) ?_
      obtain ⟨q_2, hq_2, hf⟩ := bind_ex hf
      refine r_Vi (r := q_2.1) (u' := q_2.2) (As := [.int x3, .int x1]) (rest := [.int x2]) (k := 55) (ci := 5) ⟨hx, hb, hml, hown, hts⟩ hC hP hS (by decide) rfl (by decide) rfl (c_X6_isServed l g u x3 x1 hq_2) (cwV 2 hts gX6_served_X6_isServed rfl rfl rfl (by decide +kernel) ⟨(Nat.le_trans (Nat.le_of_ble_eq_true rfl) hRf), (Nat.le_trans (Nat.le_of_ble_eq_true rfl) hRl)⟩) rfl hl.1 rfl (Nat.le_of_ble_eq_true rfl) dX6_served_16 (fun H locs hP hS => ?_)
      refine lv_if_eq (tgt := 28) hx hb dX6_served_19 (by decide) (fun c_3 => ?_) (fun c_3 => ?_)
      · rw [if_pos c_3] at hf
        refine lv_iconst (v := (0 : Int32)) hx hb dX6_served_28 (by decide) ?_
        exact w_29 (f_X6_served_4 n) ih x1 x3 (0 : Int32) x2 q_2.2 _ _ _ hP hS (lv_sub hl [0, 1, 3] rfl) hf
      rw [if_neg c_3] at hf
      refine lv_iconst (v := (1 : Int32)) hx hb dX6_served_22 (by decide) ?_
      refine lv_iload_n hx hb dX6_served_23 rfl (lv_at hl 3 rfl) ?_
      refine lv_ishl hx hb dX6_served_24 ?_
      refine lv_goto (tgt := 29) hx hb dX6_served_25 (by decide) ?_
      exact w_29 (f_X6_served_4 n) ih x1 x3 ((1 : Int32) <<< (x3 &&& (31 : Int32))) x2 q_2.2 _ _ _ hP hS (lv_sub hl [0, 1, 3] rfl) hf
  unfold f_X6_served at hf
  refine lv_iconst (v := (0 : Int32)) hx hb dX6_served_0 (by decide) ?_
  refine lv_istore_n (lv' := [(2, .int (0 : Int32)), (0, .ref (aD g 55)), (1, .int x1)]) hx hb dX6_served_1 rfl hl (by decide) rfl (fun ls hl => ?_)
  refine lv_iconst (v := (0 : Int32)) hx hb dX6_served_2 (by decide) ?_
  refine lv_istore_n (lv' := [(3, .int (0 : Int32)), (2, .int (0 : Int32)), (0, .ref (aD g 55)), (1, .int x1)]) hx hb dX6_served_3 rfl hl (by decide) rfl (fun ls hl => ?_)
  exact w_4 fu x1 (0 : Int32) (0 : Int32) u _ _ _ hP hS (lv_sub hl [2, 3, 1, 0] rfl) hf
set_option maxHeartbeats 4000000 in
set_option maxRecDepth 100000 in
theorem c_X6_ready (l : Launch) (g : GG) (u : UU) {r : Int32} {u' : UU} (hf : f_X6_ready u = some (r, u')) : Ci l g 55 20 yX6_ready wsX6_ready 5 112 [.ref (aD g 55)] u r u' := by
  refine ct_i (cc := cX6_ready) (maxL := 2) (by decide) rfl (Nat.le_of_ble_eq_true rfl) ?_
  intro p e s m args below meth c R Q ls hx hb hml hown hts hC hP hl hRf hRl kret hS
  have hown : s.vm.findClass RX6 = some m.cls := hown
  have hl : lv_has ls 2 [(0, .ref (aD g 55))] := hl
  have hinX6 : ∀ w ∈ u_ws RX6 TX6 34, w ∈ wsX6_ready := by decide +kernel
  unfold f_X6_ready at hf
  refine lv_aload_n hx hb dX6_ready_0 rfl (lv_at hl 0 rfl) ?_
  refine r_get hx hb hts hown hC hP hinX6 55 (by decide) (ci := 5) rfl (by decide) rfl 17 (by decide) (hts (.fieldLink RX6 136 "LoafPartsModel" "n" "I") (by decide +kernel)) (v := .int (ui u 55 17)) rfl dX6_ready_1 ?_
  refine lv_if_ne (tgt := 10) hx hb dX6_ready_4 (by decide) (fun c_1 => ?_) (fun c_1 => ?_)
  · rw [if_neg c_1] at hf
    refine lv_aload_n hx hb dX6_ready_10 rfl (lv_at hl 0 rfl) ?_
    refine lv_aload_n hx hb dX6_ready_11 rfl (lv_at hl 0 rfl) ?_
    obtain ⟨q_2, hq_2, hf⟩ := bind_ex hf
    refine r_Vi (As := []) (rest := [.ref (aD g 55)]) (k := 55) (ci := 5) ⟨hx, hb, hml, hown, hts⟩ hC hP hS (by decide) rfl (by decide) rfl (c_X6_lying l g u hq_2) (cwV 0 hts gX6_ready_X6_lying rfl rfl rfl (by decide +kernel) ⟨(Nat.le_trans (Nat.le_of_ble_eq_true rfl) hRf), (Nat.le_trans (Nat.le_of_ble_eq_true rfl) hRl)⟩) rfl hl.1 rfl (Nat.le_of_ble_eq_true rfl) dX6_ready_12 (fun H locs hP hS => ?_)
    obtain ⟨q_3, hq_3, hf⟩ := bind_ex hf
    refine r_Vi (r := q_3.1) (u' := q_3.2) (As := [.int q_2]) (rest := []) (k := 55) (ci := 5) ⟨hx, hb, hml, hown, hts⟩ hC hP hS (by decide) rfl (by decide) rfl (c_X6_served l g u q_2 hq_3) (cwV 1 hts gX6_ready_X6_served rfl rfl rfl (by decide +kernel) ⟨(Nat.le_trans (Nat.le_of_ble_eq_true rfl) hRf), (Nat.le_trans (Nat.le_of_ble_eq_true rfl) hRl)⟩) rfl hl.1 rfl (Nat.le_of_ble_eq_true rfl) dX6_ready_15 (fun H locs hP hS => ?_)
    refine lv_istore_n (lv' := [(1, .int q_3.1), (0, .ref (aD g 55))]) hx hb dX6_ready_18 rfl hl (by decide) rfl (fun ls hl => ?_)
    refine lv_aload_n hx hb dX6_ready_19 rfl (lv_at hl 1 rfl) ?_
    refine lv_iload_n hx hb dX6_ready_20 rfl (lv_at hl 0 rfl) ?_
    obtain ⟨q_4, hq_4, hf⟩ := bind_ex hf
    refine r_Si (As := [.int q_3.1]) (rest := [.ref (aD g 55)]) ⟨hx, hb, hml, hown, hts⟩ hC hP hS (c_X6_bits l g q_3.2 q_3.1 hq_4) (va_cwS 1 hts gX6_ready_X6_bits rfl rfl rfl (by decide +kernel) ⟨(Nat.le_trans (Nat.le_of_ble_eq_true rfl) hRf), (Nat.le_trans (Nat.le_of_ble_eq_true rfl) hRl)⟩) rfl hl.1 rfl (Nat.le_of_ble_eq_true rfl) dX6_ready_21 (fun H locs hP hS => ?_)
    refine lv_iload_n hx hb dX6_ready_24 rfl (lv_at hl 0 rfl) ?_
    obtain ⟨q_5, hq_5, hf⟩ := bind_ex hf
    refine r_Vi (r := q_5.1) (u' := q_5.2) (As := [.int q_4, .int q_3.1]) (rest := []) (k := 55) (ci := 5) ⟨hx, hb, hml, hown, hts⟩ hC hP hS (by decide) rfl (by decide) rfl (c_X6_tells l g q_3.2 q_4 q_3.1 hq_5) (cwV 2 hts gX6_ready_X6_tells rfl rfl rfl (by decide +kernel) ⟨(Nat.le_trans (Nat.le_of_ble_eq_true rfl) hRf), (Nat.le_trans (Nat.le_of_ble_eq_true rfl) hRl)⟩) rfl hl.1 rfl (Nat.le_of_ble_eq_true rfl) dX6_ready_25 (fun H locs hP hS => ?_)
    obtain ⟨rfl, rfl⟩ := sp2 hf
    exact kret _ _ _ _ dX6_ready_28 hP hS trivial
  rw [if_pos c_1] at hf
  refine lv_bipush (v := (-4 : Int32)) hx hb dX6_ready_7 (by decide) ?_
  obtain ⟨rfl, rfl⟩ := sp2 hf
  exact kret _ _ _ _ dX6_ready_9 hP hS trivial
set_option maxHeartbeats 4000000 in
set_option maxRecDepth 100000 in
theorem c_X6_best (l : Launch) (g : GG) (u : UU) {r : Int32} {u' : UU} (hf : f_X6_best u = some (r, u')) : Ci l g 55 20 yX6_best wsX6_best 5 112 [.ref (aD g 55)] u r u' := by
  refine ct_i (cc := cX6_best) (maxL := 6) (by decide) rfl (Nat.le_of_ble_eq_true rfl) ?_
  intro p e s m args below meth c R Q ls hx hb hml hown hts hC hP hl hRf hRl kret hS
  have hown : s.vm.findClass RX6 = some m.cls := hown
  have hl : lv_has ls 6 [(0, .ref (aD g 55))] := hl
  have hinX6 : ∀ w ∈ u_ws RX6 TX6 34, w ∈ wsX6_best := by decide +kernel
  have w_92 : ∀ (k_32 : Int32 → Int32 → Int32 → Int32 → UU → Option (Int32 × UU)) (K_32 : ∀ (x1 : Int32) (x2 : Int32) (x3 : Int32) (x4 : Int32) (u : UU) (H : Heap) (locs : List Loc) (ls : Array Slot), Ps g 55 20 u H → va_S (aA g) s.heap H locs → lv_has ls 6 [(0, .ref (aD g 55)), (1, .int x1), (2, .int x2), (3, .int x3), (4, .int x4)] → k_32 x1 x2 x3 x4 u = some (r, u') → W p l e R s m args below meth c H locs 0 0 Q (F0 m 32 ls [])), ∀ (x1 : Int32) (x2 : Int32) (x4 : Int32) (t0 : Int32) (u : UU) (H : Heap) (locs : List Loc) (ls : Array Slot), Ps g 55 20 u H → va_S (aA g) s.heap H locs → lv_has ls 6 [(0, .ref (aD g 55)), (1, .int x1), (2, .int x2), (4, .int x4)] → f_X6_best_92 k_32 x1 x2 x4 t0 u = some (r, u') → W p l e R s m args below meth c H locs 0 0 Q (F0 m 92 ls [.int t0]) := by
    intro k_32 K_32
    intro x1 x2 x4 t0 u H locs ls hP hS hl hf
    unfold f_X6_best_92 at hf
    refine lv_istore_n (lv' := [(3, .int t0), (0, .ref (aD g 55)), (1, .int x1), (2, .int x2), (4, .int x4)]) hx hb dX6_best_92 rfl hl (by decide) rfl (fun ls hl => ?_)
    obtain ⟨x4_14, ex4_14, hf⟩ := lt_ex hf
    refine lv_iinc (v := x4_14) (lv' := [(4, .int x4_14), (3, .int t0), (0, .ref (aD g 55)), (1, .int x1), (2, .int x2)]) hx hb dX6_best_93 hl (k := 4) rfl (by rw [ex4_14]; rfl) (by decide) rfl (fun ls hl => ?_)
    refine lv_goto (tgt := 32) hx hb dX6_best_96 (by decide) ?_
    exact K_32 x1 x2 t0 x4_14 u _ _ _ hP hS (lv_sub hl [2, 3, 4, 1, 0] rfl) hf
  have w_79 : ∀ (k_32 : Int32 → Int32 → Int32 → Int32 → UU → Option (Int32 × UU)) (K_32 : ∀ (x1 : Int32) (x2 : Int32) (x3 : Int32) (x4 : Int32) (u : UU) (H : Heap) (locs : List Loc) (ls : Array Slot), Ps g 55 20 u H → va_S (aA g) s.heap H locs → lv_has ls 6 [(0, .ref (aD g 55)), (1, .int x1), (2, .int x2), (3, .int x3), (4, .int x4)] → k_32 x1 x2 x3 x4 u = some (r, u') → W p l e R s m args below meth c H locs 0 0 Q (F0 m 32 ls [])), ∀ (x1 : Int32) (x3 : Int32) (x4 : Int32) (x5 : Int32) (t0 : Int32) (u : UU) (H : Heap) (locs : List Loc) (ls : Array Slot), Ps g 55 20 u H → va_S (aA g) s.heap H locs → lv_has ls 6 [(0, .ref (aD g 55)), (1, .int x1), (3, .int x3), (4, .int x4), (5, .int x5)] → f_X6_best_79 k_32 x1 x3 x4 x5 t0 u = some (r, u') → W p l e R s m args below meth c H locs 0 0 Q (F0 m 79 ls [.int t0]) := by
    intro k_32 K_32
    intro x1 x3 x4 x5 t0 u H locs ls hP hS hl hf
    unfold f_X6_best_79 at hf
    refine lv_istore_n (lv' := [(2, .int t0), (0, .ref (aD g 55)), (1, .int x1), (3, .int x3), (4, .int x4), (5, .int x5)]) hx hb dX6_best_79 rfl hl (by decide) rfl (fun ls hl => ?_)
    refine lv_iload hx hb dX6_best_80 (lv_at hl 5 rfl) ?_
    refine lv_iload_n hx hb dX6_best_82 rfl (lv_at hl 3 rfl) ?_
    refine lv_icmp_le (tgt := 91) hx hb dX6_best_83 (by decide) (fun c_13 => ?_) (fun c_13 => ?_)
    · rw [if_pos c_13] at hf
      refine lv_iload_n hx hb dX6_best_91 rfl (lv_at hl 3 rfl) ?_
      exact w_92 (k_32) K_32 x1 t0 x4 x3 u _ _ _ hP hS (lv_sub hl [1, 2, 0, 4] rfl) hf
    rw [if_neg c_13] at hf
    refine lv_iload hx hb dX6_best_86 (lv_at hl 5 rfl) ?_
    refine lv_goto (tgt := 92) hx hb dX6_best_88 (by decide) ?_
    exact w_92 (k_32) K_32 x1 t0 x4 x5 u _ _ _ hP hS (lv_sub hl [1, 2, 0, 4] rfl) hf
  have w_65 : ∀ (k_32 : Int32 → Int32 → Int32 → Int32 → UU → Option (Int32 × UU)) (K_32 : ∀ (x1 : Int32) (x2 : Int32) (x3 : Int32) (x4 : Int32) (u : UU) (H : Heap) (locs : List Loc) (ls : Array Slot), Ps g 55 20 u H → va_S (aA g) s.heap H locs → lv_has ls 6 [(0, .ref (aD g 55)), (1, .int x1), (2, .int x2), (3, .int x3), (4, .int x4)] → k_32 x1 x2 x3 x4 u = some (r, u') → W p l e R s m args below meth c H locs 0 0 Q (F0 m 32 ls [])), ∀ (x1 : Int32) (x2 : Int32) (x3 : Int32) (x4 : Int32) (t0 : Int32) (u : UU) (H : Heap) (locs : List Loc) (ls : Array Slot), Ps g 55 20 u H → va_S (aA g) s.heap H locs → lv_has ls 6 [(0, .ref (aD g 55)), (1, .int x1), (2, .int x2), (3, .int x3), (4, .int x4)] → f_X6_best_65 k_32 x1 x2 x3 x4 t0 u = some (r, u') → W p l e R s m args below meth c H locs 0 0 Q (F0 m 65 ls [.int t0]) := by
    intro k_32 K_32
    intro x1 x2 x3 x4 t0 u H locs ls hP hS hl hf
    unfold f_X6_best_65 at hf
    refine lv_istore (lv' := [(5, .int t0), (0, .ref (aD g 55)), (1, .int x1), (2, .int x2), (3, .int x3), (4, .int x4)]) hx hb dX6_best_65 hl (by decide) rfl (fun ls hl => ?_)
    refine lv_iload hx hb dX6_best_67 (lv_at hl 0 rfl) ?_
    refine lv_iload_n hx hb dX6_best_69 rfl (lv_at hl 4 rfl) ?_
    refine lv_icmp_le (tgt := 78) hx hb dX6_best_70 (by decide) (fun c_12 => ?_) (fun c_12 => ?_)
    · rw [if_pos c_12] at hf
      refine lv_iload_n hx hb dX6_best_78 rfl (lv_at hl 3 rfl) ?_
      exact w_79 (k_32) K_32 x1 x3 x4 t0 x2 u _ _ _ hP hS (lv_sub hl [1, 2, 4, 5, 0] rfl) hf
    rw [if_neg c_12] at hf
    refine lv_iload hx hb dX6_best_73 (lv_at hl 5 rfl) ?_
    refine lv_goto (tgt := 79) hx hb dX6_best_75 (by decide) ?_
    exact w_79 (k_32) K_32 x1 x3 x4 t0 x4 u _ _ _ hP hS (lv_sub hl [1, 2, 4, 5, 0] rfl) hf
  have w_32 : ∀ (n : Nat), ∀ (x1 : Int32) (x2 : Int32) (x3 : Int32) (x4 : Int32) (u : UU) (H : Heap) (locs : List Loc) (ls : Array Slot), Ps g 55 20 u H → va_S (aA g) s.heap H locs → lv_has ls 6 [(0, .ref (aD g 55)), (1, .int x1), (2, .int x2), (3, .int x3), (4, .int x4)] → f_X6_best_32 n x1 x2 x3 x4 u = some (r, u') → W p l e R s m args below meth c H locs 0 0 Q (F0 m 32 ls []) := by
    intro n
    induction n with
    | zero =>
      intro x1 x2 x3 x4 u H locs ls hP hS hl hf
      rw [f_X6_best_32] at hf
      cases hf
    | succ n ih =>
      intro x1 x2 x3 x4 u H locs ls hP hS hl hf
      rw [f_X6_best_32] at hf
      refine lv_iload hx hb dX6_best_32 (lv_at hl 4 rfl) ?_
      refine lv_bipush (v := (16 : Int32)) hx hb dX6_best_34 (by decide) ?_
      refine lv_icmp_gt (tgt := 99) hx hb dX6_best_36 (by decide) (fun c_6 => ?_) (fun c_6 => ?_)
      · rw [if_pos c_6] at hf
        refine lv_iload_n hx hb dX6_best_99 rfl (lv_at hl 2 rfl) ?_
        refine lv_bipush (v := (-9 : Int32)) hx hb dX6_best_100 (by decide) ?_
        refine lv_icmp_ne (tgt := 110) hx hb dX6_best_102 (by decide) (fun c_7 => ?_) (fun c_7 => ?_)
        · rw [if_neg c_7] at hf
          refine lv_aload_n hx hb dX6_best_110 rfl (lv_at hl 0 rfl) ?_
          refine lv_iload_n hx hb dX6_best_111 rfl (lv_at hl 3 rfl) ?_
          refine lv_iload_n hx hb dX6_best_112 rfl (lv_at hl 2 rfl) ?_
          obtain ⟨q_8, hq_8, hf⟩ := bind_ex hf
          refine r_Vi (r := q_8.1) (u' := q_8.2) (As := [.int x3, .int x2]) (rest := []) (k := 55) (ci := 5) ⟨hx, hb, hml, hown, hts⟩ hC hP hS (by decide) rfl (by decide) rfl (c_X6_tells l g u x3 x2 hq_8) (cwV 2 hts gX6_best_X6_tells rfl rfl rfl (by decide +kernel) ⟨(Nat.le_trans (Nat.le_of_ble_eq_true rfl) hRf), (Nat.le_trans (Nat.le_of_ble_eq_true rfl) hRl)⟩) rfl hl.1 rfl (Nat.le_of_ble_eq_true rfl) dX6_best_113 (fun H locs hP hS => ?_)
          obtain ⟨rfl, rfl⟩ := sp2 hf
          exact kret _ _ _ _ dX6_best_116 hP hS trivial
        rw [if_pos c_7] at hf
        refine lv_bipush (v := (-9 : Int32)) hx hb dX6_best_105 (by decide) ?_
        refine lv_goto (tgt := 116) hx hb dX6_best_107 (by decide) ?_
        obtain ⟨rfl, rfl⟩ := sp2 hf
        exact kret _ _ _ _ dX6_best_116 hP hS trivial
      rw [if_neg c_6] at hf
      refine lv_iload_n hx hb dX6_best_39 rfl (lv_at hl 1 rfl) ?_
      refine lv_iload hx hb dX6_best_40 (lv_at hl 4 rfl) ?_
      refine r_Si (As := [.int x1, .int x4]) (rest := []) ⟨hx, hb, hml, hown, hts⟩ hC hP hS (c_X6_has l g u x1 x4 rfl) (va_cwS 2 hts gX6_best_X6_has rfl rfl rfl (by decide +kernel) ⟨(Nat.le_trans (Nat.le_of_ble_eq_true rfl) hRf), (Nat.le_trans (Nat.le_of_ble_eq_true rfl) hRl)⟩) rfl hl.1 rfl (Nat.le_of_ble_eq_true rfl) dX6_best_42 (fun H locs hP hS => ?_)
      refine lv_if_eq (tgt := 52) hx hb dX6_best_45 (by decide) (fun c_9 => ?_) (fun c_9 => ?_)
      · rw [if_pos c_9] at hf
        refine lv_aload_n hx hb dX6_best_52 rfl (lv_at hl 0 rfl) ?_
        refine lv_iload_n hx hb dX6_best_53 rfl (lv_at hl 1 rfl) ?_
        refine lv_iconst (v := (1 : Int32)) hx hb dX6_best_54 (by decide) ?_
        refine lv_iload hx hb dX6_best_55 (lv_at hl 4 rfl) ?_
        refine lv_ishl hx hb dX6_best_57 ?_
        refine lv_ior hx hb dX6_best_58 ?_
        obtain ⟨q_10, hq_10, hf⟩ := bind_ex hf
        refine r_Vi (r := q_10.1) (u' := q_10.2) (As := [.int (x1 ||| ((1 : Int32) <<< (x4 &&& (31 : Int32))))]) (rest := []) (k := 55) (ci := 5) ⟨hx, hb, hml, hown, hts⟩ hC hP hS (by decide) rfl (by decide) rfl (c_X6_served l g u (x1 ||| ((1 : Int32) <<< (x4 &&& (31 : Int32)))) hq_10) (cwV 1 hts gX6_best_X6_served rfl rfl rfl (by decide +kernel) ⟨(Nat.le_trans (Nat.le_of_ble_eq_true rfl) hRf), (Nat.le_trans (Nat.le_of_ble_eq_true rfl) hRl)⟩) rfl hl.1 rfl (Nat.le_of_ble_eq_true rfl) dX6_best_59 (fun H locs hP hS => ?_)
        obtain ⟨q_11, hq_11, hf⟩ := bind_ex hf
        refine r_Si (As := [.int q_10.1]) (rest := []) ⟨hx, hb, hml, hown, hts⟩ hC hP hS (c_X6_bits l g q_10.2 q_10.1 hq_11) (va_cwS 1 hts gX6_best_X6_bits rfl rfl rfl (by decide +kernel) ⟨(Nat.le_trans (Nat.le_of_ble_eq_true rfl) hRf), (Nat.le_trans (Nat.le_of_ble_eq_true rfl) hRl)⟩) rfl hl.1 rfl (Nat.le_of_ble_eq_true rfl) dX6_best_62 (fun H locs hP hS => ?_)
        exact w_65 (f_X6_best_32 n) ih x1 x2 x3 x4 q_11 q_10.2 _ _ _ hP hS (lv_sub hl [0, 1, 2, 3, 4] rfl) hf
      rw [if_neg c_9] at hf
      refine lv_iconst (v := (0 : Int32)) hx hb dX6_best_48 (by decide) ?_
      refine lv_goto (tgt := 65) hx hb dX6_best_49 (by decide) ?_
      exact w_65 (f_X6_best_32 n) ih x1 x2 x3 x4 (0 : Int32) u _ _ _ hP hS (lv_sub hl [0, 1, 2, 3, 4] rfl) hf
  unfold f_X6_best at hf
  refine lv_aload_n hx hb dX6_best_0 rfl (lv_at hl 0 rfl) ?_
  refine r_get hx hb hts hown hC hP hinX6 55 (by decide) (ci := 5) rfl (by decide) rfl 21 (by decide) (hts (.fieldLink RX6 51 "LoafPartsModel" "now" "[I") (by decide +kernel)) (v := .ref (aD g 68)) rfl dX6_best_1 ?_
  refine lv_iconst (v := (0 : Int32)) hx hb dX6_best_4 (by decide) ?_
  obtain ⟨hi_1, hf⟩ := ix_ex hf
  refine r_ald hx hb hC hP 68 (by decide) rfl hi_1 dX6_best_5 ?_
  refine lv_if_ne (tgt := 12) hx hb dX6_best_6 (by decide) (fun c_2 => ?_) (fun c_2 => ?_)
  · rw [if_neg c_2] at hf
    refine lv_aload_n hx hb dX6_best_12 rfl (lv_at hl 0 rfl) ?_
    obtain ⟨q_3, hq_3, hf⟩ := bind_ex hf
    refine r_Vi (As := []) (rest := []) (k := 55) (ci := 5) ⟨hx, hb, hml, hown, hts⟩ hC hP hS (by decide) rfl (by decide) rfl (c_X6_lying l g u hq_3) (cwV 0 hts gX6_best_X6_lying rfl rfl rfl (by decide +kernel) ⟨(Nat.le_trans (Nat.le_of_ble_eq_true rfl) hRf), (Nat.le_trans (Nat.le_of_ble_eq_true rfl) hRl)⟩) rfl hl.1 rfl (Nat.le_of_ble_eq_true rfl) dX6_best_13 (fun H locs hP hS => ?_)
    refine lv_istore_n (lv' := [(1, .int q_3), (0, .ref (aD g 55))]) hx hb dX6_best_16 rfl hl (by decide) rfl (fun ls hl => ?_)
    refine lv_bipush (v := (-9 : Int32)) hx hb dX6_best_17 (by decide) ?_
    refine lv_istore_n (lv' := [(2, .int (-9 : Int32)), (1, .int q_3), (0, .ref (aD g 55))]) hx hb dX6_best_19 rfl hl (by decide) rfl (fun ls hl => ?_)
    refine lv_aload_n hx hb dX6_best_20 rfl (lv_at hl 2 rfl) ?_
    refine lv_iload_n hx hb dX6_best_21 rfl (lv_at hl 1 rfl) ?_
    obtain ⟨q_4, hq_4, hf⟩ := bind_ex hf
    refine r_Vi (r := q_4.1) (u' := q_4.2) (As := [.int q_3]) (rest := []) (k := 55) (ci := 5) ⟨hx, hb, hml, hown, hts⟩ hC hP hS (by decide) rfl (by decide) rfl (c_X6_served l g u q_3 hq_4) (cwV 1 hts gX6_best_X6_served rfl rfl rfl (by decide +kernel) ⟨(Nat.le_trans (Nat.le_of_ble_eq_true rfl) hRf), (Nat.le_trans (Nat.le_of_ble_eq_true rfl) hRl)⟩) rfl hl.1 rfl (Nat.le_of_ble_eq_true rfl) dX6_best_22 (fun H locs hP hS => ?_)
    obtain ⟨q_5, hq_5, hf⟩ := bind_ex hf
    refine r_Si (As := [.int q_4.1]) (rest := []) ⟨hx, hb, hml, hown, hts⟩ hC hP hS (c_X6_bits l g q_4.2 q_4.1 hq_5) (va_cwS 1 hts gX6_best_X6_bits rfl rfl rfl (by decide +kernel) ⟨(Nat.le_trans (Nat.le_of_ble_eq_true rfl) hRf), (Nat.le_trans (Nat.le_of_ble_eq_true rfl) hRl)⟩) rfl hl.1 rfl (Nat.le_of_ble_eq_true rfl) dX6_best_25 (fun H locs hP hS => ?_)
    refine lv_istore_n (lv' := [(3, .int q_5), (2, .int (-9 : Int32)), (1, .int q_3), (0, .ref (aD g 55))]) hx hb dX6_best_28 rfl hl (by decide) rfl (fun ls hl => ?_)
    refine lv_iconst (v := (2 : Int32)) hx hb dX6_best_29 (by decide) ?_
    refine lv_istore (lv' := [(4, .int (2 : Int32)), (3, .int q_5), (2, .int (-9 : Int32)), (1, .int q_3), (0, .ref (aD g 55))]) hx hb dX6_best_30 hl (by decide) rfl (fun ls hl => ?_)
    exact w_32 fu q_3 (-9 : Int32) q_5 (2 : Int32) q_4.2 _ _ _ hP hS (lv_sub hl [4, 3, 2, 1, 0] rfl) hf
  rw [if_pos c_2] at hf
  refine lv_bipush (v := (-4 : Int32)) hx hb dX6_best_9 (by decide) ?_
  obtain ⟨rfl, rfl⟩ := sp2 hf
  exact kret _ _ _ _ dX6_best_11 hP hS trivial