set_option maxHeartbeats 4000000 in
set_option maxRecDepth 100000 in
theorem c_X6_allOf (l : Launch) (g : GG) (u : UU) (x0 : Int32) {r : Int32} (hf : f_X6_allOf x0 u = some r) : Ci l g 55 20 yX6_allOf wsX6_allOf 1 22 [.int x0] u r u := by
  refine ct_i (cc := cX6_allOf) (maxL := 3) (by decide) rfl (Nat.le_of_ble_eq_true rfl) ?_
  intro p e s m args below meth c R Q ls hx hb hml hown hts hC hP hl hRf hRl kret hS
  have hown : s.vm.findClass RX6 = some m.cls := hown
  have hl : lv_has ls 3 [(0, .int x0)] := hl
  have w_26 : ∀ (k_4 : Int32 → Int32 → Int32 → UU → Option Int32) (K_4 : ∀ (x0 : Int32) (x1 : Int32) (x2 : Int32) (H : Heap) (locs : List Loc) (ls : Array Slot), Ps g 55 20 u H → va_S (aA g) s.heap H locs → lv_has ls 3 [(0, .int x0), (1, .int x1), (2, .int x2)] → k_4 x0 x1 x2 u = some r → W p l e R s m args below meth c H locs 0 0 Q (F0 m 4 ls [])), ∀ (x0 : Int32) (x2 : Int32) (t0 : Int32) (t1 : Int32) (H : Heap) (locs : List Loc) (ls : Array Slot), Ps g 55 20 u H → va_S (aA g) s.heap H locs → lv_has ls 3 [(0, .int x0), (2, .int x2)] → f_X6_allOf_26 k_4 x0 x2 t0 t1 u = some r → W p l e R s m args below meth c H locs 0 0 Q (F0 m 26 ls [.int t0, .int t1]) := by
    intro k_4 K_4
    intro x0 x2 t0 t1 H locs ls hP hS hl hf
    unfold f_X6_allOf_26 at hf
    refine lv_ior hx hb dX6_allOf_26 ?_
    obtain ⟨x1_4, ex1_4, hf⟩ := lt_ex hf
    refine r_nm ex1_4 ?_
    refine lv_istore_n (lv' := [(1, .int x1_4), (0, .int x0), (2, .int x2)]) hx hb dX6_allOf_27 rfl hl (by decide) rfl (fun ls hl => ?_)
    obtain ⟨x2_5, ex2_5, hf⟩ := lt_ex hf
    refine lv_iinc (v := x2_5) (lv' := [(2, .int x2_5), (1, .int x1_4), (0, .int x0)]) hx hb dX6_allOf_28 hl (k := 2) rfl (by rw [ex2_5]; rfl) (by decide) rfl (fun ls hl => ?_)
    refine lv_goto (tgt := 4) hx hb dX6_allOf_31 (by decide) ?_
    exact K_4 x0 x1_4 x2_5 _ _ _ hP hS (lv_sub hl [2, 1, 0] rfl) hf
  have w_4 : ∀ (n : Nat), ∀ (x0 : Int32) (x1 : Int32) (x2 : Int32) (H : Heap) (locs : List Loc) (ls : Array Slot), Ps g 55 20 u H → va_S (aA g) s.heap H locs → lv_has ls 3 [(0, .int x0), (1, .int x1), (2, .int x2)] → f_X6_allOf_4 n x0 x1 x2 u = some r → W p l e R s m args below meth c H locs 0 0 Q (F0 m 4 ls []) := by
    intro n
    induction n with
    | zero =>
      intro x0 x1 x2 H locs ls hP hS hl hf
      rw [f_X6_allOf_4] at hf
      cases hf
    | succ n ih =>
      intro x0 x1 x2 H locs ls hP hS hl hf
      rw [f_X6_allOf_4] at hf
      refine lv_iload_n hx hb dX6_allOf_4 rfl (lv_at hl 2 rfl) ?_
      refine lv_bipush (v := (16 : Int32)) hx hb dX6_allOf_5 (by decide) ?_
      refine lv_icmp_gt (tgt := 34) hx hb dX6_allOf_7 (by decide) (fun c_1 => ?_) (fun c_1 => ?_)
      · rw [if_pos c_1] at hf
        refine lv_iload_n hx hb dX6_allOf_34 rfl (lv_at hl 1 rfl) ?_
        obtain rfl := sp1 hf
        exact kret _ _ _ _ dX6_allOf_35 hP hS trivial
      rw [if_neg c_1] at hf
      refine lv_iload_n hx hb dX6_allOf_10 rfl (lv_at hl 1 rfl) ?_
      refine lv_iload_n hx hb dX6_allOf_11 rfl (lv_at hl 0 rfl) ?_
      refine lv_iload_n hx hb dX6_allOf_12 rfl (lv_at hl 2 rfl) ?_
      obtain ⟨q_2, hq_2, hf⟩ := bind_ex hf
      refine r_Si (As := [.int x0, .int x2]) (rest := [.int x1]) ⟨hx, hb, hml, hown, hts⟩ hC hP hS (c_X6_takesAs l g u x0 x2 hq_2) (va_cwS 2 hts gX6_allOf_X6_takesAs rfl rfl rfl (by decide +kernel) ⟨(Nat.le_trans (Nat.le_of_ble_eq_true rfl) hRf), (Nat.le_trans (Nat.le_of_ble_eq_true rfl) hRl)⟩) rfl hl.1 rfl (Nat.le_of_ble_eq_true rfl) dX6_allOf_13 (fun H locs hP hS => ?_)
      refine lv_if_eq (tgt := 25) hx hb dX6_allOf_16 (by decide) (fun c_3 => ?_) (fun c_3 => ?_)
      · rw [if_pos c_3] at hf
        refine lv_iconst (v := (0 : Int32)) hx hb dX6_allOf_25 (by decide) ?_
        exact w_26 (f_X6_allOf_4 n) ih x0 x2 (0 : Int32) x1 _ _ _ hP hS (lv_sub hl [0, 2] rfl) hf
      rw [if_neg c_3] at hf
      refine lv_iconst (v := (1 : Int32)) hx hb dX6_allOf_19 (by decide) ?_
      refine lv_iload_n hx hb dX6_allOf_20 rfl (lv_at hl 2 rfl) ?_
      refine lv_ishl hx hb dX6_allOf_21 ?_
      refine lv_goto (tgt := 26) hx hb dX6_allOf_22 (by decide) ?_
      exact w_26 (f_X6_allOf_4 n) ih x0 x2 ((1 : Int32) <<< (x2 &&& (31 : Int32))) x1 _ _ _ hP hS (lv_sub hl [0, 2] rfl) hf
  unfold f_X6_allOf at hf
  refine lv_iconst (v := (0 : Int32)) hx hb dX6_allOf_0 (by decide) ?_
  refine lv_istore_n (lv' := [(1, .int (0 : Int32)), (0, .int x0)]) hx hb dX6_allOf_1 rfl hl (by decide) rfl (fun ls hl => ?_)
  refine lv_iconst (v := (2 : Int32)) hx hb dX6_allOf_2 (by decide) ?_
  refine lv_istore_n (lv' := [(2, .int (2 : Int32)), (1, .int (0 : Int32)), (0, .int x0)]) hx hb dX6_allOf_3 rfl hl (by decide) rfl (fun ls hl => ?_)
  exact w_4 fu x0 (0 : Int32) (2 : Int32) _ _ _ hP hS (lv_sub hl [2, 1, 0] rfl) hf
set_option maxHeartbeats 4000000 in
set_option maxRecDepth 100000 in
theorem c_X6_sumOf (l : Launch) (g : GG) (u : UU) (x0 : Int32) {r : Int32} (hf : f_X6_sumOf x0 u = some r) : Ci l g 55 20 yX6_sumOf wsX6_sumOf 1 21 [.int x0] u r u := by
  refine ct_i (cc := cX6_sumOf) (maxL := 3) (by decide) rfl (Nat.le_of_ble_eq_true rfl) ?_
  intro p e s m args below meth c R Q ls hx hb hml hown hts hC hP hl hRf hRl kret hS
  have hown : s.vm.findClass RX6 = some m.cls := hown
  have hl : lv_has ls 3 [(0, .int x0)] := hl
  have w_27 : ∀ (k_4 : Int32 → Int32 → Int32 → UU → Option Int32) (K_4 : ∀ (x0 : Int32) (x1 : Int32) (x2 : Int32) (H : Heap) (locs : List Loc) (ls : Array Slot), Ps g 55 20 u H → va_S (aA g) s.heap H locs → lv_has ls 3 [(0, .int x0), (1, .int x1), (2, .int x2)] → k_4 x0 x1 x2 u = some r → W p l e R s m args below meth c H locs 0 0 Q (F0 m 4 ls [])), ∀ (x0 : Int32) (x2 : Int32) (t0 : Int32) (t1 : Int32) (H : Heap) (locs : List Loc) (ls : Array Slot), Ps g 55 20 u H → va_S (aA g) s.heap H locs → lv_has ls 3 [(0, .int x0), (2, .int x2)] → f_X6_sumOf_27 k_4 x0 x2 t0 t1 u = some r → W p l e R s m args below meth c H locs 0 0 Q (F0 m 27 ls [.int t0, .int t1]) := by
    intro k_4 K_4
    intro x0 x2 t0 t1 H locs ls hP hS hl hf
    unfold f_X6_sumOf_27 at hf
    refine lv_iadd hx hb dX6_sumOf_27 ?_
    obtain ⟨x1_3, ex1_3, hf⟩ := lt_ex hf
    refine r_nm ex1_3 ?_
    refine lv_istore_n (lv' := [(1, .int x1_3), (0, .int x0), (2, .int x2)]) hx hb dX6_sumOf_28 rfl hl (by decide) rfl (fun ls hl => ?_)
    obtain ⟨x2_4, ex2_4, hf⟩ := lt_ex hf
    refine lv_iinc (v := x2_4) (lv' := [(2, .int x2_4), (1, .int x1_3), (0, .int x0)]) hx hb dX6_sumOf_29 hl (k := 2) rfl (by rw [ex2_4]; rfl) (by decide) rfl (fun ls hl => ?_)
    refine lv_goto (tgt := 4) hx hb dX6_sumOf_32 (by decide) ?_
    exact K_4 x0 x1_3 x2_4 _ _ _ hP hS (lv_sub hl [2, 1, 0] rfl) hf
  have w_4 : ∀ (n : Nat), ∀ (x0 : Int32) (x1 : Int32) (x2 : Int32) (H : Heap) (locs : List Loc) (ls : Array Slot), Ps g 55 20 u H → va_S (aA g) s.heap H locs → lv_has ls 3 [(0, .int x0), (1, .int x1), (2, .int x2)] → f_X6_sumOf_4 n x0 x1 x2 u = some r → W p l e R s m args below meth c H locs 0 0 Q (F0 m 4 ls []) := by
    intro n
    induction n with
    | zero =>
      intro x0 x1 x2 H locs ls hP hS hl hf
      rw [f_X6_sumOf_4] at hf
      cases hf
    | succ n ih =>
      intro x0 x1 x2 H locs ls hP hS hl hf
      rw [f_X6_sumOf_4] at hf
      refine lv_iload_n hx hb dX6_sumOf_4 rfl (lv_at hl 2 rfl) ?_
      refine lv_bipush (v := (16 : Int32)) hx hb dX6_sumOf_5 (by decide) ?_
      refine lv_icmp_gt (tgt := 35) hx hb dX6_sumOf_7 (by decide) (fun c_1 => ?_) (fun c_1 => ?_)
      · rw [if_pos c_1] at hf
        refine lv_iload_n hx hb dX6_sumOf_35 rfl (lv_at hl 1 rfl) ?_
        obtain rfl := sp1 hf
        exact kret _ _ _ _ dX6_sumOf_36 hP hS trivial
      rw [if_neg c_1] at hf
      refine lv_iload_n hx hb dX6_sumOf_10 rfl (lv_at hl 1 rfl) ?_
      refine lv_iload_n hx hb dX6_sumOf_11 rfl (lv_at hl 0 rfl) ?_
      refine lv_iload_n hx hb dX6_sumOf_12 rfl (lv_at hl 2 rfl) ?_
      refine r_Si (As := [.int x0, .int x2]) (rest := [.int x1]) ⟨hx, hb, hml, hown, hts⟩ hC hP hS (c_X6_has l g u x0 x2 rfl) (va_cwS 2 hts gX6_sumOf_X6_has rfl rfl rfl (by decide +kernel) ⟨(Nat.le_trans (Nat.le_of_ble_eq_true rfl) hRf), (Nat.le_trans (Nat.le_of_ble_eq_true rfl) hRl)⟩) rfl hl.1 rfl (Nat.le_of_ble_eq_true rfl) dX6_sumOf_13 (fun H locs hP hS => ?_)
      refine lv_if_eq (tgt := 26) hx hb dX6_sumOf_16 (by decide) (fun c_2 => ?_) (fun c_2 => ?_)
      · rw [if_pos c_2] at hf
        refine lv_iconst (v := (0 : Int32)) hx hb dX6_sumOf_26 (by decide) ?_
        exact w_27 (f_X6_sumOf_4 n) ih x0 x2 (0 : Int32) x1 _ _ _ hP hS (lv_sub hl [0, 2] rfl) hf
      rw [if_neg c_2] at hf
      refine lv_ldc (v := (720720 : Int32)) hx hb hown (hts (.constant RX6 149 (720720)) (by decide +kernel)) dX6_sumOf_19 ?_
      refine lv_iload_n hx hb dX6_sumOf_21 rfl (lv_at hl 2 rfl) ?_
      obtain ⟨hz_5, hf⟩ := nz_ex hf
      refine lv_idiv hx hb dX6_sumOf_22 hz_5 ?_
      refine lv_goto (tgt := 27) hx hb dX6_sumOf_23 (by decide) ?_
      exact w_27 (f_X6_sumOf_4 n) ih x0 x2 ((720720 : Int32) / x2) x1 _ _ _ hP hS (lv_sub hl [0, 2] rfl) hf
  unfold f_X6_sumOf at hf
  refine lv_iconst (v := (0 : Int32)) hx hb dX6_sumOf_0 (by decide) ?_
  refine lv_istore_n (lv' := [(1, .int (0 : Int32)), (0, .int x0)]) hx hb dX6_sumOf_1 rfl hl (by decide) rfl (fun ls hl => ?_)
  refine lv_iconst (v := (2 : Int32)) hx hb dX6_sumOf_2 (by decide) ?_
  refine lv_istore_n (lv' := [(2, .int (2 : Int32)), (1, .int (0 : Int32)), (0, .int x0)]) hx hb dX6_sumOf_3 rfl hl (by decide) rfl (fun ls hl => ?_)
  exact w_4 fu x0 (0 : Int32) (2 : Int32) _ _ _ hP hS (lv_sub hl [2, 1, 0] rfl) hf
set_option maxHeartbeats 4000000 in
set_option maxRecDepth 100000 in
theorem c_X6_due (l : Launch) (g : GG) (u : UU) (x1 : Int32) {r : Int32} (hf : f_X6_due x1 u = some r) : Ci l g 55 20 yX6_due wsX6_due 0 0 [.ref (aD g 55), .int x1] u r u := by
  refine ct_i (cc := cX6_due) (maxL := 2) (by decide) rfl (Nat.le_of_ble_eq_true rfl) ?_
  intro p e s m args below meth c R Q ls hx hb hml hown hts hC hP hl hRf hRl kret hS
  have hown : s.vm.findClass RX6 = some m.cls := hown
  have hl : lv_has ls 2 [(0, .ref (aD g 55)), (1, .int x1)] := hl
  have hinX6 : ∀ w ∈ u_ws RX6 TX6 34, w ∈ wsX6_due := by decide +kernel
  unfold f_X6_due at hf
  refine lv_ldc (v := (720720 : Int32)) hx hb hown (hts (.constant RX6 149 (720720)) (by decide +kernel)) dX6_due_0 ?_
  refine lv_aload_n hx hb dX6_due_2 rfl (lv_at hl 0 rfl) ?_
  refine r_get hx hb hts hown hC hP hinX6 55 (by decide) (ci := 5) rfl (by decide) rfl 20 (by decide) (hts (.fieldLink RX6 48 "LoafPartsModel" "lows" "[I") (by decide +kernel)) (v := .ref (aD g 67)) rfl dX6_due_3 ?_
  refine lv_iload_n hx hb dX6_due_6 rfl (lv_at hl 1 rfl) ?_
  obtain ⟨hi_1, hf⟩ := ix_ex hf
  refine r_ald hx hb hC hP 67 (by decide) rfl hi_1 dX6_due_7 ?_
  obtain ⟨hz_2, hf⟩ := nz_ex hf
  refine lv_idiv hx hb dX6_due_8 hz_2 ?_
  refine lv_aload_n hx hb dX6_due_9 rfl (lv_at hl 0 rfl) ?_
  refine r_get hx hb hts hown hC hP hinX6 55 (by decide) (ci := 5) rfl (by decide) rfl 19 (by decide) (hts (.fieldLink RX6 45 "LoafPartsModel" "ups" "[I") (by decide +kernel)) (v := .ref (aD g 66)) rfl dX6_due_10 ?_
  refine lv_iload_n hx hb dX6_due_13 rfl (lv_at hl 1 rfl) ?_
  obtain ⟨hi_3, hf⟩ := ix_ex hf
  refine r_ald hx hb hC hP 66 (by decide) rfl hi_3 dX6_due_14 ?_
  refine lv_imul hx hb dX6_due_15 ?_
  obtain rfl := sp1 hf
  exact kret _ _ _ _ dX6_due_16 hP hS trivial
set_option maxHeartbeats 4000000 in
set_option maxRecDepth 100000 in
theorem c_X6_lackOf (l : Launch) (g : GG) (u : UU) (x1 : Int32) {r : Int32} (hf : f_X6_lackOf x1 u = some r) : Ci l g 55 20 yX6_lackOf wsX6_lackOf 2 43 [.ref (aD g 55), .int x1] u r u := by
  refine ct_i (cc := cX6_lackOf) (maxL := 2) (by decide) rfl (Nat.le_of_ble_eq_true rfl) ?_
  intro p e s m args below meth c R Q ls hx hb hml hown hts hC hP hl hRf hRl kret hS
  have hown : s.vm.findClass RX6 = some m.cls := hown
  have hl : lv_has ls 2 [(0, .ref (aD g 55)), (1, .int x1)] := hl
  have hinX6 : ∀ w ∈ u_ws RX6 TX6 34, w ∈ wsX6_lackOf := by decide +kernel
  unfold f_X6_lackOf at hf
  refine lv_aload_n hx hb dX6_lackOf_0 rfl (lv_at hl 0 rfl) ?_
  refine lv_iload_n hx hb dX6_lackOf_1 rfl (lv_at hl 1 rfl) ?_
  obtain ⟨q_1, hq_1, hf⟩ := bind_ex hf
  refine r_Vi (As := [.int x1]) (rest := []) (k := 55) (ci := 5) ⟨hx, hb, hml, hown, hts⟩ hC hP hS (by decide) rfl (by decide) rfl (c_X6_due l g u x1 hq_1) (cwV 1 hts gX6_lackOf_X6_due rfl rfl rfl (by decide +kernel) ⟨(Nat.le_trans (Nat.le_of_ble_eq_true rfl) hRf), (Nat.le_trans (Nat.le_of_ble_eq_true rfl) hRl)⟩) rfl hl.1 rfl (Nat.le_of_ble_eq_true rfl) dX6_lackOf_2 (fun H locs hP hS => ?_)
  refine lv_aload_n hx hb dX6_lackOf_5 rfl (lv_at hl 0 rfl) ?_
  refine r_get hx hb hts hown hC hP hinX6 55 (by decide) (ci := 5) rfl (by decide) rfl 21 (by decide) (hts (.fieldLink RX6 51 "LoafPartsModel" "now" "[I") (by decide +kernel)) (v := .ref (aD g 68)) rfl dX6_lackOf_6 ?_
  refine lv_bipush (v := (18 : Int32)) hx hb dX6_lackOf_9 (by decide) ?_
  refine lv_iload_n hx hb dX6_lackOf_11 rfl (lv_at hl 1 rfl) ?_
  refine lv_iadd hx hb dX6_lackOf_12 ?_
  obtain ⟨hi_2, hf⟩ := ix_ex hf
  refine r_ald hx hb hC hP 68 (by decide) rfl hi_2 dX6_lackOf_13 ?_
  obtain ⟨q_3, hq_3, hf⟩ := bind_ex hf
  refine r_Si (As := [.int (ui u 68 (((18 : Int32) + x1) : Int32).toNatClampNeg)]) (rest := [.int q_1]) ⟨hx, hb, hml, hown, hts⟩ hC hP hS (c_X6_sumOf l g u (ui u 68 (((18 : Int32) + x1) : Int32).toNatClampNeg) hq_3) (va_cwS 1 hts gX6_lackOf_X6_sumOf rfl rfl rfl (by decide +kernel) ⟨(Nat.le_trans (Nat.le_of_ble_eq_true rfl) hRf), (Nat.le_trans (Nat.le_of_ble_eq_true rfl) hRl)⟩) rfl hl.1 rfl (Nat.le_of_ble_eq_true rfl) dX6_lackOf_14 (fun H locs hP hS => ?_)
  refine lv_isub hx hb dX6_lackOf_17 ?_
  obtain rfl := sp1 hf
  exact kret _ _ _ _ dX6_lackOf_18 hP hS trivial
set_option maxHeartbeats 4000000 in
set_option maxRecDepth 100000 in
theorem c_X6_lying (l : Launch) (g : GG) (u : UU) {r : Int32} (hf : f_X6_lying u = some r) : Ci l g 55 20 yX6_lying wsX6_lying 0 0 [.ref (aD g 55)] u r u := by
  refine ct_i (cc := cX6_lying) (maxL := 3) (by decide) rfl (Nat.le_of_ble_eq_true rfl) ?_
  intro p e s m args below meth c R Q ls hx hb hml hown hts hC hP hl hRf hRl kret hS
  have hown : s.vm.findClass RX6 = some m.cls := hown
  have hl : lv_has ls 3 [(0, .ref (aD g 55))] := hl
  have hinX6 : ∀ w ∈ u_ws RX6 TX6 34, w ∈ wsX6_lying := by decide +kernel
  have w_29 : ∀ (k_4 : Int32 → Int32 → UU → Option Int32) (K_4 : ∀ (x1 : Int32) (x2 : Int32) (H : Heap) (locs : List Loc) (ls : Array Slot), Ps g 55 20 u H → va_S (aA g) s.heap H locs → lv_has ls 3 [(0, .ref (aD g 55)), (1, .int x1), (2, .int x2)] → k_4 x1 x2 u = some r → W p l e R s m args below meth c H locs 0 0 Q (F0 m 4 ls [])), ∀ (x2 : Int32) (t0 : Int32) (t1 : Int32) (H : Heap) (locs : List Loc) (ls : Array Slot), Ps g 55 20 u H → va_S (aA g) s.heap H locs → lv_has ls 3 [(0, .ref (aD g 55)), (2, .int x2)] → f_X6_lying_29 k_4 x2 t0 t1 u = some r → W p l e R s m args below meth c H locs 0 0 Q (F0 m 29 ls [.int t0, .int t1]) := by
    intro k_4 K_4
    intro x2 t0 t1 H locs ls hP hS hl hf
    unfold f_X6_lying_29 at hf
    refine lv_ior hx hb dX6_lying_29 ?_
    obtain ⟨x1_4, ex1_4, hf⟩ := lt_ex hf
    refine r_nm ex1_4 ?_
    refine lv_istore_n (lv' := [(1, .int x1_4), (0, .ref (aD g 55)), (2, .int x2)]) hx hb dX6_lying_30 rfl hl (by decide) rfl (fun ls hl => ?_)
    obtain ⟨x2_5, ex2_5, hf⟩ := lt_ex hf
    refine lv_iinc (v := x2_5) (lv' := [(2, .int x2_5), (1, .int x1_4), (0, .ref (aD g 55))]) hx hb dX6_lying_31 hl (k := 2) rfl (by rw [ex2_5]; rfl) (by decide) rfl (fun ls hl => ?_)
    refine lv_goto (tgt := 4) hx hb dX6_lying_34 (by decide) ?_
    exact K_4 x1_4 x2_5 _ _ _ hP hS (lv_sub hl [2, 1, 0] rfl) hf
  have w_4 : ∀ (n : Nat), ∀ (x1 : Int32) (x2 : Int32) (H : Heap) (locs : List Loc) (ls : Array Slot), Ps g 55 20 u H → va_S (aA g) s.heap H locs → lv_has ls 3 [(0, .ref (aD g 55)), (1, .int x1), (2, .int x2)] → f_X6_lying_4 n x1 x2 u = some r → W p l e R s m args below meth c H locs 0 0 Q (F0 m 4 ls []) := by
    intro n
    induction n with
    | zero =>
      intro x1 x2 H locs ls hP hS hl hf
      rw [f_X6_lying_4] at hf
      cases hf
    | succ n ih =>
      intro x1 x2 H locs ls hP hS hl hf
      rw [f_X6_lying_4] at hf
      refine lv_iload_n hx hb dX6_lying_4 rfl (lv_at hl 2 rfl) ?_
      refine lv_bipush (v := (16 : Int32)) hx hb dX6_lying_5 (by decide) ?_
      refine lv_icmp_gt (tgt := 37) hx hb dX6_lying_7 (by decide) (fun c_1 => ?_) (fun c_1 => ?_)
      · rw [if_pos c_1] at hf
        refine lv_iload_n hx hb dX6_lying_37 rfl (lv_at hl 1 rfl) ?_
        obtain rfl := sp1 hf
        exact kret _ _ _ _ dX6_lying_38 hP hS trivial
      rw [if_neg c_1] at hf
      refine lv_iload_n hx hb dX6_lying_10 rfl (lv_at hl 1 rfl) ?_
      refine lv_aload_n hx hb dX6_lying_11 rfl (lv_at hl 0 rfl) ?_
      refine r_get hx hb hts hown hC hP hinX6 55 (by decide) (ci := 5) rfl (by decide) rfl 21 (by decide) (hts (.fieldLink RX6 51 "LoafPartsModel" "now" "[I") (by decide +kernel)) (v := .ref (aD g 68)) rfl dX6_lying_12 ?_
      refine lv_iconst (v := (1 : Int32)) hx hb dX6_lying_15 (by decide) ?_
      refine lv_iload_n hx hb dX6_lying_16 rfl (lv_at hl 2 rfl) ?_
      refine lv_iadd hx hb dX6_lying_17 ?_
      obtain ⟨hi_2, hf⟩ := ix_ex hf
      refine r_ald hx hb hC hP 68 (by decide) rfl hi_2 dX6_lying_18 ?_
      refine lv_if_le (tgt := 28) hx hb dX6_lying_19 (by decide) (fun c_3 => ?_) (fun c_3 => ?_)
      · rw [if_pos c_3] at hf
        refine lv_iconst (v := (0 : Int32)) hx hb dX6_lying_28 (by decide) ?_
        exact w_29 (f_X6_lying_4 n) ih x2 (0 : Int32) x1 _ _ _ hP hS (lv_sub hl [0, 2] rfl) hf
      rw [if_neg c_3] at hf
      refine lv_iconst (v := (1 : Int32)) hx hb dX6_lying_22 (by decide) ?_
      refine lv_iload_n hx hb dX6_lying_23 rfl (lv_at hl 2 rfl) ?_
      refine lv_ishl hx hb dX6_lying_24 ?_
      refine lv_goto (tgt := 29) hx hb dX6_lying_25 (by decide) ?_
      exact w_29 (f_X6_lying_4 n) ih x2 ((1 : Int32) <<< (x2 &&& (31 : Int32))) x1 _ _ _ hP hS (lv_sub hl [0, 2] rfl) hf
  unfold f_X6_lying at hf
  refine lv_iconst (v := (0 : Int32)) hx hb dX6_lying_0 (by decide) ?_
  refine lv_istore_n (lv' := [(1, .int (0 : Int32)), (0, .ref (aD g 55))]) hx hb dX6_lying_1 rfl hl (by decide) rfl (fun ls hl => ?_)
  refine lv_iconst (v := (2 : Int32)) hx hb dX6_lying_2 (by decide) ?_
  refine lv_istore_n (lv' := [(2, .int (2 : Int32)), (1, .int (0 : Int32)), (0, .ref (aD g 55))]) hx hb dX6_lying_3 rfl hl (by decide) rfl (fun ls hl => ?_)
  exact w_4 fu (0 : Int32) (2 : Int32) _ _ _ hP hS (lv_sub hl [2, 1, 0] rfl) hf
set_option maxHeartbeats 4000000 in
set_option maxRecDepth 100000 in
theorem c_X6_isFit (l : Launch) (g : GG) (u : UU) (x1 : Int32) (x2 : Int32) {r : Int32} (hf : f_X6_isFit x1 x2 u = some r) : Ci l g 55 20 yX6_isFit wsX6_isFit 3 64 [.ref (aD g 55), .int x1, .int x2] u r u := by
  refine ct_z (cc := cX6_isFit) (maxL := 3) (by decide) rfl (Nat.le_of_ble_eq_true rfl) ?_
  intro p e s m args below meth c R Q ls hx hb hml hown hts hC hP hl hRf hRl kret hS
  have hown : s.vm.findClass RX6 = some m.cls := hown
  have hl : lv_has ls 3 [(0, .ref (aD g 55)), (1, .int x1), (2, .int x2)] := hl
  have hinX6 : ∀ w ∈ u_ws RX6 TX6 34, w ∈ wsX6_isFit := by decide +kernel
  unfold f_X6_isFit at hf
  refine lv_aload_n hx hb dX6_isFit_0 rfl (lv_at hl 0 rfl) ?_
  refine r_get hx hb hts hown hC hP hinX6 55 (by decide) (ci := 5) rfl (by decide) rfl 18 (by decide) (hts (.fieldLink RX6 42 "LoafPartsModel" "kind" "[I") (by decide +kernel)) (v := .ref (aD g 65)) rfl dX6_isFit_1 ?_
  refine lv_iload_n hx hb dX6_isFit_4 rfl (lv_at hl 1 rfl) ?_
  obtain ⟨hi_1, hf⟩ := ix_ex hf
  refine r_ald hx hb hC hP 65 (by decide) rfl hi_1 dX6_isFit_5 ?_
  refine lv_iload_n hx hb dX6_isFit_6 rfl (lv_at hl 2 rfl) ?_
  obtain ⟨q_2, hq_2, hf⟩ := bind_ex hf
  refine r_Si (As := [.int (ui u 65 (x1 : Int32).toNatClampNeg), .int x2]) (rest := []) ⟨hx, hb, hml, hown, hts⟩ hC hP hS (c_X6_takesAs l g u (ui u 65 (x1 : Int32).toNatClampNeg) x2 hq_2) (va_cwS 2 hts gX6_isFit_X6_takesAs rfl rfl rfl (by decide +kernel) ⟨(Nat.le_trans (Nat.le_of_ble_eq_true rfl) hRf), (Nat.le_trans (Nat.le_of_ble_eq_true rfl) hRl)⟩) rfl hl.1 rfl (Nat.le_of_ble_eq_true rfl) dX6_isFit_7 (fun H locs hP hS => ?_)
  refine lv_if_eq (tgt := 45) hx hb dX6_isFit_10 (by decide) (fun c_3 => ?_) (fun c_3 => ?_)
  · rw [if_pos c_3] at hf
    refine lv_iconst (v := (0 : Int32)) hx hb dX6_isFit_45 (by decide) ?_
    obtain rfl := sp1 hf
    exact kret _ _ _ _ dX6_isFit_46 hP hS rfl
  rw [if_neg c_3] at hf
  refine lv_aload_n hx hb dX6_isFit_13 rfl (lv_at hl 0 rfl) ?_
  refine r_get hx hb hts hown hC hP hinX6 55 (by decide) (ci := 5) rfl (by decide) rfl 21 (by decide) (hts (.fieldLink RX6 51 "LoafPartsModel" "now" "[I") (by decide +kernel)) (v := .ref (aD g 68)) rfl dX6_isFit_14 ?_
  refine lv_bipush (v := (18 : Int32)) hx hb dX6_isFit_17 (by decide) ?_
  refine lv_iload_n hx hb dX6_isFit_19 rfl (lv_at hl 1 rfl) ?_
  refine lv_iadd hx hb dX6_isFit_20 ?_
  obtain ⟨hi_4, hf⟩ := ix_ex hf
  refine r_ald hx hb hC hP 68 (by decide) rfl hi_4 dX6_isFit_21 ?_
  refine lv_iload_n hx hb dX6_isFit_22 rfl (lv_at hl 2 rfl) ?_
  refine r_Si (As := [.int (ui u 68 (((18 : Int32) + x1) : Int32).toNatClampNeg), .int x2]) (rest := []) ⟨hx, hb, hml, hown, hts⟩ hC hP hS (c_X6_has l g u (ui u 68 (((18 : Int32) + x1) : Int32).toNatClampNeg) x2 rfl) (va_cwS 2 hts gX6_isFit_X6_has rfl rfl rfl (by decide +kernel) ⟨(Nat.le_trans (Nat.le_of_ble_eq_true rfl) hRf), (Nat.le_trans (Nat.le_of_ble_eq_true rfl) hRl)⟩) rfl hl.1 rfl (Nat.le_of_ble_eq_true rfl) dX6_isFit_23 (fun H locs hP hS => ?_)
  refine lv_if_ne (tgt := 45) hx hb dX6_isFit_26 (by decide) (fun c_5 => ?_) (fun c_5 => ?_)
  · rw [if_neg c_5] at hf
    refine lv_iconst (v := (0 : Int32)) hx hb dX6_isFit_45 (by decide) ?_
    obtain rfl := sp1 hf
    exact kret _ _ _ _ dX6_isFit_46 hP hS rfl
  rw [if_pos c_5] at hf
  refine lv_aload_n hx hb dX6_isFit_29 rfl (lv_at hl 0 rfl) ?_
  refine lv_iload_n hx hb dX6_isFit_30 rfl (lv_at hl 1 rfl) ?_
  obtain ⟨q_6, hq_6, hf⟩ := bind_ex hf
  refine r_Vi (As := [.int x1]) (rest := []) (k := 55) (ci := 5) ⟨hx, hb, hml, hown, hts⟩ hC hP hS (by decide) rfl (by decide) rfl (c_X6_lackOf l g u x1 hq_6) (cwV 1 hts gX6_isFit_X6_lackOf rfl rfl rfl (by decide +kernel) ⟨(Nat.le_trans (Nat.le_of_ble_eq_true rfl) hRf), (Nat.le_trans (Nat.le_of_ble_eq_true rfl) hRl)⟩) rfl hl.1 rfl (Nat.le_of_ble_eq_true rfl) dX6_isFit_31 (fun H locs hP hS => ?_)
  refine lv_ldc (v := (720720 : Int32)) hx hb hown (hts (.constant RX6 149 (720720)) (by decide +kernel)) dX6_isFit_34 ?_
  refine lv_iload_n hx hb dX6_isFit_36 rfl (lv_at hl 2 rfl) ?_
  obtain ⟨hz_7, hf⟩ := nz_ex hf
  refine lv_idiv hx hb dX6_isFit_37 hz_7 ?_
  refine lv_icmp_lt (tgt := 45) hx hb dX6_isFit_38 (by decide) (fun c_8 => ?_) (fun c_8 => ?_)
  · rw [if_pos c_8] at hf
    refine lv_iconst (v := (0 : Int32)) hx hb dX6_isFit_45 (by decide) ?_
    obtain rfl := sp1 hf
    exact kret _ _ _ _ dX6_isFit_46 hP hS rfl
  rw [if_neg c_8] at hf
  refine lv_iconst (v := (1 : Int32)) hx hb dX6_isFit_41 (by decide) ?_
  refine lv_goto (tgt := 46) hx hb dX6_isFit_42 (by decide) ?_
  obtain rfl := sp1 hf
  exact kret _ _ _ _ dX6_isFit_46 hP hS rfl
set_option maxHeartbeats 4000000 in
set_option maxRecDepth 100000 in
theorem c_X6_fits (l : Launch) (g : GG) (u : UU) (x1 : Int32) {r : Int32} (hf : f_X6_fits x1 u = some r) : Ci l g 55 20 yX6_fits wsX6_fits 4 86 [.ref (aD g 55), .int x1] u r u := by
  refine ct_i (cc := cX6_fits) (maxL := 4) (by decide) rfl (Nat.le_of_ble_eq_true rfl) ?_
  intro p e s m args below meth c R Q ls hx hb hml hown hts hC hP hl hRf hRl kret hS
  have hown : s.vm.findClass RX6 = some m.cls := hown
  have hl : lv_has ls 4 [(0, .ref (aD g 55)), (1, .int x1)] := hl
  have hinX6 : ∀ w ∈ u_ws RX6 TX6 34, w ∈ wsX6_fits := by decide +kernel
  have w_38 : ∀ (k_4 : Int32 → Int32 → Int32 → UU → Option Int32) (K_4 : ∀ (x1 : Int32) (x2 : Int32) (x3 : Int32) (H : Heap) (locs : List Loc) (ls : Array Slot), Ps g 55 20 u H → va_S (aA g) s.heap H locs → lv_has ls 4 [(0, .ref (aD g 55)), (1, .int x1), (2, .int x2), (3, .int x3)] → k_4 x1 x2 x3 u = some r → W p l e R s m args below meth c H locs 0 0 Q (F0 m 4 ls [])), ∀ (x1 : Int32) (x3 : Int32) (t0 : Int32) (t1 : Int32) (H : Heap) (locs : List Loc) (ls : Array Slot), Ps g 55 20 u H → va_S (aA g) s.heap H locs → lv_has ls 4 [(0, .ref (aD g 55)), (1, .int x1), (3, .int x3)] → f_X6_fits_38 k_4 x1 x3 t0 t1 u = some r → W p l e R s m args below meth c H locs 0 0 Q (F0 m 38 ls [.int t0, .int t1]) := by
    intro k_4 K_4
    intro x1 x3 t0 t1 H locs ls hP hS hl hf
    unfold f_X6_fits_38 at hf
    refine lv_ior hx hb dX6_fits_38 ?_
    obtain ⟨x2_4, ex2_4, hf⟩ := lt_ex hf
    refine r_nm ex2_4 ?_
    refine lv_istore_n (lv' := [(2, .int x2_4), (0, .ref (aD g 55)), (1, .int x1), (3, .int x3)]) hx hb dX6_fits_39 rfl hl (by decide) rfl (fun ls hl => ?_)
    obtain ⟨x3_5, ex3_5, hf⟩ := lt_ex hf
    refine lv_iinc (v := x3_5) (lv' := [(3, .int x3_5), (2, .int x2_4), (0, .ref (aD g 55)), (1, .int x1)]) hx hb dX6_fits_40 hl (k := 3) rfl (by rw [ex3_5]; rfl) (by decide) rfl (fun ls hl => ?_)
    refine lv_goto (tgt := 4) hx hb dX6_fits_43 (by decide) ?_
    exact K_4 x1 x2_4 x3_5 _ _ _ hP hS (lv_sub hl [2, 3, 1, 0] rfl) hf
  have w_37 : ∀ (k_4 : Int32 → Int32 → Int32 → UU → Option Int32) (K_4 : ∀ (x1 : Int32) (x2 : Int32) (x3 : Int32) (H : Heap) (locs : List Loc) (ls : Array Slot), Ps g 55 20 u H → va_S (aA g) s.heap H locs → lv_has ls 4 [(0, .ref (aD g 55)), (1, .int x1), (2, .int x2), (3, .int x3)] → k_4 x1 x2 x3 u = some r → W p l e R s m args below meth c H locs 0 0 Q (F0 m 4 ls [])), ∀ (x1 : Int32) (x3 : Int32) (t0 : Int32) (H : Heap) (locs : List Loc) (ls : Array Slot), Ps g 55 20 u H → va_S (aA g) s.heap H locs → lv_has ls 4 [(0, .ref (aD g 55)), (1, .int x1), (3, .int x3)] → f_X6_fits_37 k_4 x1 x3 t0 u = some r → W p l e R s m args below meth c H locs 0 0 Q (F0 m 37 ls [.int t0]) := by
    intro k_4 K_4
    intro x1 x3 t0 H locs ls hP hS hl hf
    unfold f_X6_fits_37 at hf
    refine lv_iconst (v := (0 : Int32)) hx hb dX6_fits_37 (by decide) ?_
    exact w_38 (k_4) K_4 x1 x3 (0 : Int32) t0 _ _ _ hP hS (lv_sub hl [0, 1, 2] rfl) hf
  have w_4 : ∀ (n : Nat), ∀ (x1 : Int32) (x2 : Int32) (x3 : Int32) (H : Heap) (locs : List Loc) (ls : Array Slot), Ps g 55 20 u H → va_S (aA g) s.heap H locs → lv_has ls 4 [(0, .ref (aD g 55)), (1, .int x1), (2, .int x2), (3, .int x3)] → f_X6_fits_4 n x1 x2 x3 u = some r → W p l e R s m args below meth c H locs 0 0 Q (F0 m 4 ls []) := by
    intro n
    induction n with
    | zero =>
      intro x1 x2 x3 H locs ls hP hS hl hf
      rw [f_X6_fits_4] at hf
      cases hf
    | succ n ih =>
      intro x1 x2 x3 H locs ls hP hS hl hf
      rw [f_X6_fits_4] at hf
      refine lv_iload_n hx hb dX6_fits_4 rfl (lv_at hl 3 rfl) ?_
      refine lv_bipush (v := (16 : Int32)) hx hb dX6_fits_5 (by decide) ?_
      refine lv_icmp_gt (tgt := 46) hx hb dX6_fits_7 (by decide) (fun c_1 => ?_) (fun c_1 => ?_)
      · rw [if_pos c_1] at hf
        refine lv_iload_n hx hb dX6_fits_46 rfl (lv_at hl 2 rfl) ?_
        obtain rfl := sp1 hf
        exact kret _ _ _ _ dX6_fits_47 hP hS trivial
      rw [if_neg c_1] at hf
      refine lv_iload_n hx hb dX6_fits_10 rfl (lv_at hl 2 rfl) ?_
      refine lv_aload_n hx hb dX6_fits_11 rfl (lv_at hl 0 rfl) ?_
      refine r_get hx hb hts hown hC hP hinX6 55 (by decide) (ci := 5) rfl (by decide) rfl 21 (by decide) (hts (.fieldLink RX6 51 "LoafPartsModel" "now" "[I") (by decide +kernel)) (v := .ref (aD g 68)) rfl dX6_fits_12 ?_
      refine lv_iconst (v := (1 : Int32)) hx hb dX6_fits_15 (by decide) ?_
      refine lv_iload_n hx hb dX6_fits_16 rfl (lv_at hl 3 rfl) ?_
      refine lv_iadd hx hb dX6_fits_17 ?_
      obtain ⟨hi_2, hf⟩ := ix_ex hf
      refine r_ald hx hb hC hP 68 (by decide) rfl hi_2 dX6_fits_18 ?_
      refine lv_if_le (tgt := 37) hx hb dX6_fits_19 (by decide) (fun c_3 => ?_) (fun c_3 => ?_)
      · rw [if_pos c_3] at hf
        exact w_37 (f_X6_fits_4 n) ih x1 x3 x2 _ _ _ hP hS (lv_sub hl [0, 1, 3] rfl) hf
      rw [if_neg c_3] at hf
      refine lv_aload_n hx hb dX6_fits_22 rfl (lv_at hl 0 rfl) ?_
      refine lv_iload_n hx hb dX6_fits_23 rfl (lv_at hl 1 rfl) ?_
      refine lv_iload_n hx hb dX6_fits_24 rfl (lv_at hl 3 rfl) ?_
      obtain ⟨q_6, hq_6, hf⟩ := bind_ex hf
      refine r_Vi (As := [.int x1, .int x3]) (rest := [.int x2]) (k := 55) (ci := 5) ⟨hx, hb, hml, hown, hts⟩ hC hP hS (by decide) rfl (by decide) rfl (c_X6_isFit l g u x1 x3 hq_6) (cwV 2 hts gX6_fits_X6_isFit rfl rfl rfl (by decide +kernel) ⟨(Nat.le_trans (Nat.le_of_ble_eq_true rfl) hRf), (Nat.le_trans (Nat.le_of_ble_eq_true rfl) hRl)⟩) rfl hl.1 rfl (Nat.le_of_ble_eq_true rfl) dX6_fits_25 (fun H locs hP hS => ?_)
      refine lv_if_eq (tgt := 37) hx hb dX6_fits_28 (by decide) (fun c_7 => ?_) (fun c_7 => ?_)
      · rw [if_pos c_7] at hf
        exact w_37 (f_X6_fits_4 n) ih x1 x3 x2 _ _ _ hP hS (lv_sub hl [0, 1, 3] rfl) hf
      rw [if_neg c_7] at hf
      refine lv_iconst (v := (1 : Int32)) hx hb dX6_fits_31 (by decide) ?_
      refine lv_iload_n hx hb dX6_fits_32 rfl (lv_at hl 3 rfl) ?_
      refine lv_ishl hx hb dX6_fits_33 ?_
      refine lv_goto (tgt := 38) hx hb dX6_fits_34 (by decide) ?_
      exact w_38 (f_X6_fits_4 n) ih x1 x3 ((1 : Int32) <<< (x3 &&& (31 : Int32))) x2 _ _ _ hP hS (lv_sub hl [0, 1, 3] rfl) hf
  unfold f_X6_fits at hf
  refine lv_iconst (v := (0 : Int32)) hx hb dX6_fits_0 (by decide) ?_
  refine lv_istore_n (lv' := [(2, .int (0 : Int32)), (0, .ref (aD g 55)), (1, .int x1)]) hx hb dX6_fits_1 rfl hl (by decide) rfl (fun ls hl => ?_)
  refine lv_iconst (v := (2 : Int32)) hx hb dX6_fits_2 (by decide) ?_
  refine lv_istore_n (lv' := [(3, .int (2 : Int32)), (2, .int (0 : Int32)), (0, .ref (aD g 55)), (1, .int x1)]) hx hb dX6_fits_3 rfl hl (by decide) rfl (fun ls hl => ?_)
  exact w_4 fu x1 (0 : Int32) (2 : Int32) _ _ _ hP hS (lv_sub hl [2, 3, 1, 0] rfl) hf
set_option maxHeartbeats 4000000 in
set_option maxRecDepth 100000 in
theorem c_X6_workerTells (l : Launch) (g : GG) (u : UU) (x1 : Int32) (x2 : Int32) {r : Int32} (hf : f_X6_workerTells x1 x2 u = some r) : Ci l g 55 20 yX6_workerTells wsX6_workerTells 5 109 [.ref (aD g 55), .int x1, .int x2] u r u := by
  refine ct_i (cc := cX6_workerTells) (maxL := 3) (by decide) rfl (Nat.le_of_ble_eq_true rfl) ?_
  intro p e s m args below meth c R Q ls hx hb hml hown hts hC hP hl hRf hRl kret hS
  have hown : s.vm.findClass RX6 = some m.cls := hown
  have hl : lv_has ls 3 [(0, .ref (aD g 55)), (1, .int x1), (2, .int x2)] := hl
  have hinX6 : ∀ w ∈ u_ws RX6 TX6 34, w ∈ wsX6_workerTells := by decide +kernel
  unfold f_X6_workerTells at hf
  refine lv_iload_n hx hb dX6_workerTells_0 rfl (lv_at hl 2 rfl) ?_
  by_cases s_1 : x2 = (0 : Int32)
  · rw [if_pos s_1] at hf
    refine r_tin (tgt := 36) hx hb (0 : Int32) 35 s_1 dX6_workerTells_1 (by decide) ?_
    refine lv_aload_n hx hb dX6_workerTells_36 rfl (lv_at hl 0 rfl) ?_
    refine r_get hx hb hts hown hC hP hinX6 55 (by decide) (ci := 5) rfl (by decide) rfl 18 (by decide) (hts (.fieldLink RX6 42 "LoafPartsModel" "kind" "[I") (by decide +kernel)) (v := .ref (aD g 65)) rfl dX6_workerTells_37 ?_
    refine lv_iload_n hx hb dX6_workerTells_40 rfl (lv_at hl 1 rfl) ?_
    obtain ⟨hi_2, hf⟩ := ix_ex hf
    refine r_ald hx hb hC hP 65 (by decide) rfl hi_2 dX6_workerTells_41 ?_
    obtain rfl := sp1 hf
    exact kret _ _ _ _ dX6_workerTells_42 hP hS trivial
  rw [if_neg s_1] at hf
  by_cases s_3 : x2 = (1 : Int32)
  · rw [if_pos s_3] at hf
    refine r_tin (tgt := 43) hx hb (1 : Int32) 42 s_3 dX6_workerTells_1 (by decide) ?_
    refine lv_aload_n hx hb dX6_workerTells_43 rfl (lv_at hl 0 rfl) ?_
    refine r_get hx hb hts hown hC hP hinX6 55 (by decide) (ci := 5) rfl (by decide) rfl 19 (by decide) (hts (.fieldLink RX6 45 "LoafPartsModel" "ups" "[I") (by decide +kernel)) (v := .ref (aD g 66)) rfl dX6_workerTells_44 ?_
    refine lv_iload_n hx hb dX6_workerTells_47 rfl (lv_at hl 1 rfl) ?_
    obtain ⟨hi_4, hf⟩ := ix_ex hf
    refine r_ald hx hb hC hP 66 (by decide) rfl hi_4 dX6_workerTells_48 ?_
    obtain rfl := sp1 hf
    exact kret _ _ _ _ dX6_workerTells_49 hP hS trivial
  rw [if_neg s_3] at hf
  by_cases s_5 : x2 = (2 : Int32)
  · rw [if_pos s_5] at hf
    refine r_tin (tgt := 50) hx hb (2 : Int32) 49 s_5 dX6_workerTells_1 (by decide) ?_
    refine lv_aload_n hx hb dX6_workerTells_50 rfl (lv_at hl 0 rfl) ?_
    refine r_get hx hb hts hown hC hP hinX6 55 (by decide) (ci := 5) rfl (by decide) rfl 20 (by decide) (hts (.fieldLink RX6 48 "LoafPartsModel" "lows" "[I") (by decide +kernel)) (v := .ref (aD g 67)) rfl dX6_workerTells_51 ?_
    refine lv_iload_n hx hb dX6_workerTells_54 rfl (lv_at hl 1 rfl) ?_
    obtain ⟨hi_6, hf⟩ := ix_ex hf
    refine r_ald hx hb hC hP 67 (by decide) rfl hi_6 dX6_workerTells_55 ?_
    obtain rfl := sp1 hf
    exact kret _ _ _ _ dX6_workerTells_56 hP hS trivial
  rw [if_neg s_5] at hf
  by_cases s_7 : x2 = (3 : Int32)
  · rw [if_pos s_7] at hf
    refine r_tin (tgt := 57) hx hb (3 : Int32) 56 s_7 dX6_workerTells_1 (by decide) ?_
    refine lv_aload_n hx hb dX6_workerTells_57 rfl (lv_at hl 0 rfl) ?_
    refine r_get hx hb hts hown hC hP hinX6 55 (by decide) (ci := 5) rfl (by decide) rfl 21 (by decide) (hts (.fieldLink RX6 51 "LoafPartsModel" "now" "[I") (by decide +kernel)) (v := .ref (aD g 68)) rfl dX6_workerTells_58 ?_
    refine lv_bipush (v := (18 : Int32)) hx hb dX6_workerTells_61 (by decide) ?_
    refine lv_iload_n hx hb dX6_workerTells_63 rfl (lv_at hl 1 rfl) ?_
    refine lv_iadd hx hb dX6_workerTells_64 ?_
    obtain ⟨hi_8, hf⟩ := ix_ex hf
    refine r_ald hx hb hC hP 68 (by decide) rfl hi_8 dX6_workerTells_65 ?_
    obtain rfl := sp1 hf
    exact kret _ _ _ _ dX6_workerTells_66 hP hS trivial
  rw [if_neg s_7] at hf
  by_cases s_9 : x2 = (4 : Int32)
  · rw [if_pos s_9] at hf
    refine r_tin (tgt := 67) hx hb (4 : Int32) 66 s_9 dX6_workerTells_1 (by decide) ?_
    refine lv_aload_n hx hb dX6_workerTells_67 rfl (lv_at hl 0 rfl) ?_
    refine lv_iload_n hx hb dX6_workerTells_68 rfl (lv_at hl 1 rfl) ?_
    obtain ⟨q_10, hq_10, hf⟩ := bind_ex hf
    refine r_Vi (As := [.int x1]) (rest := []) (k := 55) (ci := 5) ⟨hx, hb, hml, hown, hts⟩ hC hP hS (by decide) rfl (by decide) rfl (c_X6_fits l g u x1 hq_10) (cwV 1 hts gX6_workerTells_X6_fits rfl rfl rfl (by decide +kernel) ⟨(Nat.le_trans (Nat.le_of_ble_eq_true rfl) hRf), (Nat.le_trans (Nat.le_of_ble_eq_true rfl) hRl)⟩) rfl hl.1 rfl (Nat.le_of_ble_eq_true rfl) dX6_workerTells_69 (fun H locs hP hS => ?_)
    obtain rfl := sp1 hf
    exact kret _ _ _ _ dX6_workerTells_72 hP hS trivial
  rw [if_neg s_9] at hf
  refine lv_tableOut (tgt := 73) hx hb dX6_workerTells_1 (tsw_out 0 4 5 [(0 : Int32), (1 : Int32), (2 : Int32), (3 : Int32), (4 : Int32)] (by decide) (by decide) (by decide) (List.forall_mem_cons.mpr ⟨s_1, (List.forall_mem_cons.mpr ⟨s_3, (List.forall_mem_cons.mpr ⟨s_5, (List.forall_mem_cons.mpr ⟨s_7, (List.forall_mem_cons.mpr ⟨s_9, (fun _ h => absurd h List.not_mem_nil)⟩)⟩)⟩)⟩)⟩)) (by decide) ?_
  refine lv_aload_n hx hb dX6_workerTells_73 rfl (lv_at hl 0 rfl) ?_
  refine lv_iload_n hx hb dX6_workerTells_74 rfl (lv_at hl 1 rfl) ?_
  obtain ⟨q_11, hq_11, hf⟩ := bind_ex hf
  refine r_Vi (As := [.int x1]) (rest := []) (k := 55) (ci := 5) ⟨hx, hb, hml, hown, hts⟩ hC hP hS (by decide) rfl (by decide) rfl (c_X6_lackOf l g u x1 hq_11) (cwV 1 hts gX6_workerTells_X6_lackOf rfl rfl rfl (by decide +kernel) ⟨(Nat.le_trans (Nat.le_of_ble_eq_true rfl) hRf), (Nat.le_trans (Nat.le_of_ble_eq_true rfl) hRl)⟩) rfl hl.1 rfl (Nat.le_of_ble_eq_true rfl) dX6_workerTells_75 (fun H locs hP hS => ?_)
  refine lv_if_ne (tgt := 85) hx hb dX6_workerTells_78 (by decide) (fun c_12 => ?_) (fun c_12 => ?_)
  · rw [if_neg c_12] at hf
    refine lv_iconst (v := (0 : Int32)) hx hb dX6_workerTells_85 (by decide) ?_
    obtain rfl := sp1 hf
    exact kret _ _ _ _ dX6_workerTells_86 hP hS trivial
  rw [if_pos c_12] at hf
  refine lv_iconst (v := (1 : Int32)) hx hb dX6_workerTells_81 (by decide) ?_
  refine lv_goto (tgt := 86) hx hb dX6_workerTells_82 (by decide) ?_
  obtain rfl := sp1 hf
  exact kret _ _ _ _ dX6_workerTells_86 hP hS trivial
set_option maxHeartbeats 4000000 in
set_option maxRecDepth 100000 in
theorem c_X6_worker (l : Launch) (g : GG) (u : UU) (x1 : Int32) (x2 : Int32) {r : Int32} {u' : UU} (hf : f_X6_worker x1 x2 u = some (r, u')) : Ci l g 55 20 yX6_worker wsX6_worker 6 131 [.ref (aD g 55), .int x1, .int x2] u r u' := by
  refine ct_i (cc := cX6_worker) (maxL := 3) (by decide) rfl (Nat.le_of_ble_eq_true rfl) ?_
  intro p e s m args below meth c R Q ls hx hb hml hown hts hC hP hl hRf hRl kret hS
  have hown : s.vm.findClass RX6 = some m.cls := hown
  have hl : lv_has ls 3 [(0, .ref (aD g 55)), (1, .int x1), (2, .int x2)] := hl
  unfold f_X6_worker at hf
  refine lv_aload_n hx hb dX6_worker_0 rfl (lv_at hl 0 rfl) ?_
  refine lv_iload_n hx hb dX6_worker_1 rfl (lv_at hl 1 rfl) ?_
  obtain ⟨q_1, hq_1, hf⟩ := bind_ex hf
  refine r_Vi (As := [.int x1]) (rest := []) (k := 55) (ci := 5) ⟨hx, hb, hml, hown, hts⟩ hC hP hS (by decide) rfl (by decide) rfl (c_X6_isWorker l g u x1 hq_1) (cwV 1 hts gX6_worker_X6_isWorker rfl rfl rfl (by decide +kernel) ⟨(Nat.le_trans (Nat.le_of_ble_eq_true rfl) hRf), (Nat.le_trans (Nat.le_of_ble_eq_true rfl) hRl)⟩) rfl hl.1 rfl (Nat.le_of_ble_eq_true rfl) dX6_worker_2 (fun H locs hP hS => ?_)
  refine lv_if_eq (tgt := 31) hx hb dX6_worker_5 (by decide) (fun c_2 => ?_) (fun c_2 => ?_)
  · rw [if_pos c_2] at hf
    refine lv_iconst (v := (-1 : Int32)) hx hb dX6_worker_31 (by decide) ?_
    obtain ⟨rfl, rfl⟩ := sp2 hf
    exact kret _ _ _ _ dX6_worker_32 hP hS trivial
  rw [if_neg c_2] at hf
  refine lv_iload_n hx hb dX6_worker_8 rfl (lv_at hl 2 rfl) ?_
  refine lv_iconst (v := (0 : Int32)) hx hb dX6_worker_9 (by decide) ?_
  refine lv_iconst (v := (5 : Int32)) hx hb dX6_worker_10 (by decide) ?_
  refine r_Si (As := [.int x2, .int (0 : Int32), .int (5 : Int32)]) (rest := []) ⟨hx, hb, hml, hown, hts⟩ hC hP hS (c_X6_in l g u x2 (0 : Int32) (5 : Int32) rfl) (va_cwS 3 hts gX6_worker_X6_in rfl rfl rfl (by decide +kernel) ⟨(Nat.le_trans (Nat.le_of_ble_eq_true rfl) hRf), (Nat.le_trans (Nat.le_of_ble_eq_true rfl) hRl)⟩) rfl hl.1 rfl (Nat.le_of_ble_eq_true rfl) dX6_worker_11 (fun H locs hP hS => ?_)
  refine lv_if_eq (tgt := 31) hx hb dX6_worker_14 (by decide) (fun c_3 => ?_) (fun c_3 => ?_)
  · rw [if_pos c_3] at hf
    refine lv_iconst (v := (-1 : Int32)) hx hb dX6_worker_31 (by decide) ?_
    obtain ⟨rfl, rfl⟩ := sp2 hf
    exact kret _ _ _ _ dX6_worker_32 hP hS trivial
  rw [if_neg c_3] at hf
  refine lv_aload_n hx hb dX6_worker_17 rfl (lv_at hl 0 rfl) ?_
  refine lv_aload_n hx hb dX6_worker_18 rfl (lv_at hl 0 rfl) ?_
  refine lv_iload_n hx hb dX6_worker_19 rfl (lv_at hl 1 rfl) ?_
  refine lv_iload_n hx hb dX6_worker_20 rfl (lv_at hl 2 rfl) ?_
  obtain ⟨q_4, hq_4, hf⟩ := bind_ex hf
  refine r_Vi (As := [.int x1, .int x2]) (rest := [.ref (aD g 55)]) (k := 55) (ci := 5) ⟨hx, hb, hml, hown, hts⟩ hC hP hS (by decide) rfl (by decide) rfl (c_X6_workerTells l g u x1 x2 hq_4) (cwV 2 hts gX6_worker_X6_workerTells rfl rfl rfl (by decide +kernel) ⟨(Nat.le_trans (Nat.le_of_ble_eq_true rfl) hRf), (Nat.le_trans (Nat.le_of_ble_eq_true rfl) hRl)⟩) rfl hl.1 rfl (Nat.le_of_ble_eq_true rfl) dX6_worker_21 (fun H locs hP hS => ?_)
  refine lv_iconst (v := (1 : Int32)) hx hb dX6_worker_24 (by decide) ?_
  obtain ⟨q_5, hq_5, hf⟩ := bind_ex hf
  refine r_Vi (r := q_5.1) (u' := q_5.2) (As := [.int q_4, .int (1 : Int32)]) (rest := []) (k := 55) (ci := 5) ⟨hx, hb, hml, hown, hts⟩ hC hP hS (by decide) rfl (by decide) rfl (c_X6_tells l g u q_4 (1 : Int32) hq_5) (cwV 2 hts gX6_worker_X6_tells rfl rfl rfl (by decide +kernel) ⟨(Nat.le_trans (Nat.le_of_ble_eq_true rfl) hRf), (Nat.le_trans (Nat.le_of_ble_eq_true rfl) hRl)⟩) rfl hl.1 rfl (Nat.le_of_ble_eq_true rfl) dX6_worker_25 (fun H locs hP hS => ?_)
  refine lv_goto (tgt := 32) hx hb dX6_worker_28 (by decide) ?_
  obtain ⟨rfl, rfl⟩ := sp2 hf
  exact kret _ _ _ _ dX6_worker_32 hP hS trivial
set_option maxHeartbeats 4000000 in
set_option maxRecDepth 100000 in
theorem c_X6_isOf (l : Launch) (g : GG) (u : UU) (x0 : Int32) (x1 : Int32) {r : Int32} (hf : f_X6_isOf x0 x1 = r) : Ci l g 55 20 yX6_isOf wsX6_isOf 0 0 [.int x0, .int x1] u r u := by
  refine ct_z (cc := cX6_isOf) (maxL := 2) (by decide) rfl (Nat.le_of_ble_eq_true rfl) ?_
  intro p e s m args below meth c R Q ls hx hb hml hown hts hC hP hl hRf hRl kret hS
  have hown : s.vm.findClass RX6 = some m.cls := hown
  have hl : lv_has ls 2 [(0, .int x0), (1, .int x1)] := hl
  have w_25 : ∀ (H : Heap) (locs : List Loc) (ls : Array Slot), Ps g 55 20 u H → va_S (aA g) s.heap H locs → lv_has ls 2 [] → f_X6_isOf_25 = r → W p l e R s m args below meth c H locs 0 0 Q (F0 m 25 ls []) := by
    intro H locs ls hP hS hl hf
    unfold f_X6_isOf_25 at hf
    refine lv_iconst (v := (1 : Int32)) hx hb dX6_isOf_25 (by decide) ?_
    refine lv_goto (tgt := 30) hx hb dX6_isOf_26 (by decide) ?_
    obtain rfl := hf
    exact kret _ _ _ _ dX6_isOf_30 hP hS rfl
  have w_15 : ∀ (x0 : Int32) (x1 : Int32) (H : Heap) (locs : List Loc) (ls : Array Slot), Ps g 55 20 u H → va_S (aA g) s.heap H locs → lv_has ls 2 [(0, .int x0), (1, .int x1)] → f_X6_isOf_15 x0 x1 = r → W p l e R s m args below meth c H locs 0 0 Q (F0 m 15 ls []) := by
    intro x0 x1 H locs ls hP hS hl hf
    unfold f_X6_isOf_15 at hf
    refine lv_iload_n hx hb dX6_isOf_15 rfl (lv_at hl 1 rfl) ?_
    refine lv_iconst (v := (3 : Int32)) hx hb dX6_isOf_16 (by decide) ?_
    refine lv_icmp_ne (tgt := 29) hx hb dX6_isOf_17 (by decide) (fun c_3 => ?_) (fun c_3 => ?_)
    · rw [if_neg c_3] at hf
      refine lv_iconst (v := (0 : Int32)) hx hb dX6_isOf_29 (by decide) ?_
      obtain rfl := hf
      exact kret _ _ _ _ dX6_isOf_30 hP hS rfl
    rw [if_pos c_3] at hf
    refine lv_iload_n hx hb dX6_isOf_20 rfl (lv_at hl 0 rfl) ?_
    refine lv_iconst (v := (5 : Int32)) hx hb dX6_isOf_21 (by decide) ?_
    refine lv_icmp_ne (tgt := 29) hx hb dX6_isOf_22 (by decide) (fun c_4 => ?_) (fun c_4 => ?_)
    · rw [if_neg c_4] at hf
      refine lv_iconst (v := (0 : Int32)) hx hb dX6_isOf_29 (by decide) ?_
      obtain rfl := hf
      exact kret _ _ _ _ dX6_isOf_30 hP hS rfl
    rw [if_pos c_4] at hf
    exact w_25 _ _ _ hP hS (lv_sub hl [] rfl) hf
  unfold f_X6_isOf at hf
  refine lv_iload_n hx hb dX6_isOf_0 rfl (lv_at hl 0 rfl) ?_
  refine lv_iload_n hx hb dX6_isOf_1 rfl (lv_at hl 1 rfl) ?_
  refine lv_icmp_eq (tgt := 25) hx hb dX6_isOf_2 (by decide) (fun c_1 => ?_) (fun c_1 => ?_)
  · rw [if_pos c_1] at hf
    exact w_25 _ _ _ hP hS (lv_sub hl [] rfl) hf
  rw [if_neg c_1] at hf
  refine lv_iload_n hx hb dX6_isOf_5 rfl (lv_at hl 1 rfl) ?_
  refine lv_iconst (v := (1 : Int32)) hx hb dX6_isOf_6 (by decide) ?_
  refine lv_icmp_ne (tgt := 15) hx hb dX6_isOf_7 (by decide) (fun c_2 => ?_) (fun c_2 => ?_)
  · rw [if_neg c_2] at hf
    exact w_15 x0 x1 _ _ _ hP hS (lv_sub hl [0, 1] rfl) hf
  rw [if_pos c_2] at hf
  refine lv_iload_n hx hb dX6_isOf_10 rfl (lv_at hl 0 rfl) ?_
  refine lv_iconst (v := (4 : Int32)) hx hb dX6_isOf_11 (by decide) ?_
  refine lv_icmp_eq (tgt := 25) hx hb dX6_isOf_12 (by decide) (fun c_5 => ?_) (fun c_5 => ?_)
  · rw [if_pos c_5] at hf
    exact w_25 _ _ _ hP hS (lv_sub hl [] rfl) hf
  rw [if_neg c_5] at hf
  exact w_15 x0 x1 _ _ _ hP hS (lv_sub hl [0, 1] rfl) hf
set_option maxHeartbeats 4000000 in
set_option maxRecDepth 100000 in
theorem c_X6_mark (l : Launch) (g : GG) (u : UU) (x1 : Int32) (x2 : Int32) {r : Int32} {u' : UU} (hf : f_X6_mark x1 x2 u = some (r, u')) : Ci l g 55 20 yX6_mark wsX6_mark 2 44 [.ref (aD g 55), .int x1, .int x2] u r u' := by
  refine ct_i (cc := cX6_mark) (maxL := 4) (by decide) rfl (Nat.le_of_ble_eq_true rfl) ?_
  intro p e s m args below meth c R Q ls hx hb hml hown hts hC hP hl hRf hRl kret hS
  have hown : s.vm.findClass RX6 = some m.cls := hown
  have hl : lv_has ls 4 [(0, .ref (aD g 55)), (1, .int x1), (2, .int x2)] := hl
  have hinX6 : ∀ w ∈ u_ws RX6 TX6 34, w ∈ wsX6_mark := by decide +kernel
  unfold f_X6_mark at hf
  refine lv_aload_n hx hb dX6_mark_0 rfl (lv_at hl 0 rfl) ?_
  refine lv_iload_n hx hb dX6_mark_1 rfl (lv_at hl 1 rfl) ?_
  obtain ⟨q_1, hq_1, hf⟩ := bind_ex hf
  refine r_Vi (As := [.int x1]) (rest := []) (k := 55) (ci := 5) ⟨hx, hb, hml, hown, hts⟩ hC hP hS (by decide) rfl (by decide) rfl (c_X6_isWorker l g u x1 hq_1) (cwV 1 hts gX6_mark_X6_isWorker rfl rfl rfl (by decide +kernel) ⟨(Nat.le_trans (Nat.le_of_ble_eq_true rfl) hRf), (Nat.le_trans (Nat.le_of_ble_eq_true rfl) hRl)⟩) rfl hl.1 rfl (Nat.le_of_ble_eq_true rfl) dX6_mark_2 (fun H locs hP hS => ?_)
  refine lv_if_eq (tgt := 17) hx hb dX6_mark_5 (by decide) (fun c_2 => ?_) (fun c_2 => ?_)
  · rw [if_pos c_2] at hf
    refine lv_iconst (v := (-1 : Int32)) hx hb dX6_mark_17 (by decide) ?_
    obtain ⟨rfl, rfl⟩ := sp2 hf
    exact kret _ _ _ _ dX6_mark_18 hP hS trivial
  rw [if_neg c_2] at hf
  refine lv_iload_n hx hb dX6_mark_8 rfl (lv_at hl 2 rfl) ?_
  refine lv_iconst (v := (1 : Int32)) hx hb dX6_mark_9 (by decide) ?_
  refine lv_iconst (v := (5 : Int32)) hx hb dX6_mark_10 (by decide) ?_
  refine r_Si (As := [.int x2, .int (1 : Int32), .int (5 : Int32)]) (rest := []) ⟨hx, hb, hml, hown, hts⟩ hC hP hS (c_X6_in l g u x2 (1 : Int32) (5 : Int32) rfl) (va_cwS 3 hts gX6_mark_X6_in rfl rfl rfl (by decide +kernel) ⟨(Nat.le_trans (Nat.le_of_ble_eq_true rfl) hRf), (Nat.le_trans (Nat.le_of_ble_eq_true rfl) hRl)⟩) rfl hl.1 rfl (Nat.le_of_ble_eq_true rfl) dX6_mark_11 (fun H locs hP hS => ?_)
  refine lv_if_ne (tgt := 19) hx hb dX6_mark_14 (by decide) (fun c_3 => ?_) (fun c_3 => ?_)
  · rw [if_neg c_3] at hf
    refine lv_aload_n hx hb dX6_mark_19 rfl (lv_at hl 0 rfl) ?_
    refine r_get hx hb hts hown hC hP hinX6 55 (by decide) (ci := 5) rfl (by decide) rfl 18 (by decide) (hts (.fieldLink RX6 42 "LoafPartsModel" "kind" "[I") (by decide +kernel)) (v := .ref (aD g 65)) rfl dX6_mark_20 ?_
    refine lv_iload_n hx hb dX6_mark_23 rfl (lv_at hl 1 rfl) ?_
    obtain ⟨hi_4, hf⟩ := ix_ex hf
    refine r_ald hx hb hC hP 65 (by decide) rfl hi_4 dX6_mark_24 ?_
    refine lv_iload_n hx hb dX6_mark_25 rfl (lv_at hl 2 rfl) ?_
    refine r_Si (As := [.int (ui u 65 (x1 : Int32).toNatClampNeg), .int x2]) (rest := []) ⟨hx, hb, hml, hown, hts⟩ hC hP hS (c_X6_isOf l g u (ui u 65 (x1 : Int32).toNatClampNeg) x2 rfl) (va_cwS 2 hts gX6_mark_X6_isOf rfl rfl rfl (by decide +kernel) ⟨(Nat.le_trans (Nat.le_of_ble_eq_true rfl) hRf), (Nat.le_trans (Nat.le_of_ble_eq_true rfl) hRl)⟩) rfl hl.1 rfl (Nat.le_of_ble_eq_true rfl) dX6_mark_26 (fun H locs hP hS => ?_)
    refine lv_if_ne (tgt := 38) hx hb dX6_mark_29 (by decide) (fun c_5 => ?_) (fun c_5 => ?_)
    · rw [if_neg c_5] at hf
      refine lv_aload_n hx hb dX6_mark_38 rfl (lv_at hl 0 rfl) ?_
      refine r_get hx hb hts hown hC hP hinX6 55 (by decide) (ci := 5) rfl (by decide) rfl 18 (by decide) (hts (.fieldLink RX6 42 "LoafPartsModel" "kind" "[I") (by decide +kernel)) (v := .ref (aD g 65)) rfl dX6_mark_39 ?_
      refine lv_iload_n hx hb dX6_mark_42 rfl (lv_at hl 1 rfl) ?_
      obtain ⟨hi_6, hf⟩ := ix_ex hf
      refine r_ald hx hb hC hP 65 (by decide) rfl hi_6 dX6_mark_43 ?_
      obtain ⟨q_7, hq_7, hf⟩ := bind_ex hf
      refine r_Si (As := [.int (ui u 65 (x1 : Int32).toNatClampNeg)]) (rest := []) ⟨hx, hb, hml, hown, hts⟩ hC hP hS (c_X6_allOf l g u (ui u 65 (x1 : Int32).toNatClampNeg) hq_7) (va_cwS 1 hts gX6_mark_X6_allOf rfl rfl rfl (by decide +kernel) ⟨(Nat.le_trans (Nat.le_of_ble_eq_true rfl) hRf), (Nat.le_trans (Nat.le_of_ble_eq_true rfl) hRl)⟩) rfl hl.1 rfl (Nat.le_of_ble_eq_true rfl) dX6_mark_44 (fun H locs hP hS => ?_)
      refine lv_istore_n (lv' := [(3, .int q_7), (0, .ref (aD g 55)), (1, .int x1), (2, .int x2)]) hx hb dX6_mark_47 rfl hl (by decide) rfl (fun ls hl => ?_)
      refine lv_iload_n hx hb dX6_mark_48 rfl (lv_at hl 3 rfl) ?_
      by_cases s_8 : x2 = (1 : Int32)
      · rw [if_pos s_8] at hf
        refine r_tin (tgt := 80) hx hb (1 : Int32) 31 s_8 dX6_mark_49 (by decide) ?_
        refine lv_iload_n hx hb dX6_mark_80 rfl (lv_at hl 0 rfl) ?_
        obtain ⟨q_9, hq_9, hf⟩ := bind_ex hf
        refine r_Si (As := [.int q_7]) (rest := []) ⟨hx, hb, hml, hown, hts⟩ hC hP hS (c_X6_bits l g u q_7 hq_9) (va_cwS 1 hts gX6_mark_X6_bits rfl rfl rfl (by decide +kernel) ⟨(Nat.le_trans (Nat.le_of_ble_eq_true rfl) hRf), (Nat.le_trans (Nat.le_of_ble_eq_true rfl) hRl)⟩) rfl hl.1 rfl (Nat.le_of_ble_eq_true rfl) dX6_mark_81 (fun H locs hP hS => ?_)
        obtain ⟨rfl, rfl⟩ := sp2 hf
        exact kret _ _ _ _ dX6_mark_84 hP hS trivial
      rw [if_neg s_8] at hf
      by_cases s_10 : x2 = (2 : Int32)
      · rw [if_pos s_10] at hf
        refine r_tin (tgt := 85) hx hb (2 : Int32) 36 s_10 dX6_mark_49 (by decide) ?_
        refine lv_iload_n hx hb dX6_mark_85 rfl (lv_at hl 0 rfl) ?_
        refine lv_aload_n hx hb dX6_mark_86 rfl (lv_at hl 1 rfl) ?_
        obtain ⟨q_11, hq_11, hf⟩ := bind_ex hf
        refine r_Vi (As := []) (rest := [.int q_7]) (k := 55) (ci := 5) ⟨hx, hb, hml, hown, hts⟩ hC hP hS (by decide) rfl (by decide) rfl (c_X6_lying l g u hq_11) (cwV 0 hts gX6_mark_X6_lying rfl rfl rfl (by decide +kernel) ⟨(Nat.le_trans (Nat.le_of_ble_eq_true rfl) hRf), (Nat.le_trans (Nat.le_of_ble_eq_true rfl) hRl)⟩) rfl hl.1 rfl (Nat.le_of_ble_eq_true rfl) dX6_mark_87 (fun H locs hP hS => ?_)
        refine lv_iand hx hb dX6_mark_90 ?_
        obtain ⟨q_12, hq_12, hf⟩ := bind_ex hf
        refine r_Si (As := [.int (q_7 &&& q_11)]) (rest := []) ⟨hx, hb, hml, hown, hts⟩ hC hP hS (c_X6_bits l g u (q_7 &&& q_11) hq_12) (va_cwS 1 hts gX6_mark_X6_bits rfl rfl rfl (by decide +kernel) ⟨(Nat.le_trans (Nat.le_of_ble_eq_true rfl) hRf), (Nat.le_trans (Nat.le_of_ble_eq_true rfl) hRl)⟩) rfl hl.1 rfl (Nat.le_of_ble_eq_true rfl) dX6_mark_91 (fun H locs hP hS => ?_)
        obtain ⟨rfl, rfl⟩ := sp2 hf
        exact kret _ _ _ _ dX6_mark_94 hP hS trivial
      rw [if_neg s_10] at hf
      by_cases s_13 : x2 = (3 : Int32)
      · rw [if_pos s_13] at hf
        refine r_tin (tgt := 95) hx hb (3 : Int32) 46 s_13 dX6_mark_49 (by decide) ?_
        refine lv_aload_n hx hb dX6_mark_95 rfl (lv_at hl 1 rfl) ?_
        obtain ⟨q_14, hq_14, hf⟩ := bind_ex hf
        refine r_Vi (As := []) (rest := []) (k := 55) (ci := 5) ⟨hx, hb, hml, hown, hts⟩ hC hP hS (by decide) rfl (by decide) rfl (c_X6_lying l g u hq_14) (cwV 0 hts gX6_mark_X6_lying rfl rfl rfl (by decide +kernel) ⟨(Nat.le_trans (Nat.le_of_ble_eq_true rfl) hRf), (Nat.le_trans (Nat.le_of_ble_eq_true rfl) hRl)⟩) rfl hl.1 rfl (Nat.le_of_ble_eq_true rfl) dX6_mark_96 (fun H locs hP hS => ?_)
        refine lv_iload_n hx hb dX6_mark_99 rfl (lv_at hl 0 rfl) ?_
        refine lv_iconst (v := (-1 : Int32)) hx hb dX6_mark_100 (by decide) ?_
        refine lv_ixor hx hb dX6_mark_101 ?_
        refine lv_iand hx hb dX6_mark_102 ?_
        obtain ⟨q_15, hq_15, hf⟩ := bind_ex hf
        refine r_Si (As := [.int (q_14 &&& (q_7 ^^^ (-1 : Int32)))]) (rest := []) ⟨hx, hb, hml, hown, hts⟩ hC hP hS (c_X6_bits l g u (q_14 &&& (q_7 ^^^ (-1 : Int32))) hq_15) (va_cwS 1 hts gX6_mark_X6_bits rfl rfl rfl (by decide +kernel) ⟨(Nat.le_trans (Nat.le_of_ble_eq_true rfl) hRf), (Nat.le_trans (Nat.le_of_ble_eq_true rfl) hRl)⟩) rfl hl.1 rfl (Nat.le_of_ble_eq_true rfl) dX6_mark_103 (fun H locs hP hS => ?_)
        obtain ⟨rfl, rfl⟩ := sp2 hf
        exact kret _ _ _ _ dX6_mark_106 hP hS trivial
      rw [if_neg s_13] at hf
      by_cases s_16 : x2 = (4 : Int32)
      · rw [if_pos s_16] at hf
        refine r_tin (tgt := 107) hx hb (4 : Int32) 58 s_16 dX6_mark_49 (by decide) ?_
        refine lv_iload_n hx hb dX6_mark_107 rfl (lv_at hl 0 rfl) ?_
        obtain ⟨q_17, hq_17, hf⟩ := bind_ex hf
        refine r_Si (As := [.int q_7]) (rest := []) ⟨hx, hb, hml, hown, hts⟩ hC hP hS (c_X6_bits l g u q_7 hq_17) (va_cwS 1 hts gX6_mark_X6_bits rfl rfl rfl (by decide +kernel) ⟨(Nat.le_trans (Nat.le_of_ble_eq_true rfl) hRf), (Nat.le_trans (Nat.le_of_ble_eq_true rfl) hRl)⟩) rfl hl.1 rfl (Nat.le_of_ble_eq_true rfl) dX6_mark_108 (fun H locs hP hS => ?_)
        refine lv_iconst (v := (1 : Int32)) hx hb dX6_mark_111 (by decide) ?_
        obtain ⟨q_18, hq_18, hf⟩ := bind_ex hf
        refine r_Si (As := [.int (1 : Int32)]) (rest := [.int q_17]) ⟨hx, hb, hml, hown, hts⟩ hC hP hS (c_X6_allOf l g u (1 : Int32) hq_18) (va_cwS 1 hts gX6_mark_X6_allOf rfl rfl rfl (by decide +kernel) ⟨(Nat.le_trans (Nat.le_of_ble_eq_true rfl) hRf), (Nat.le_trans (Nat.le_of_ble_eq_true rfl) hRl)⟩) rfl hl.1 rfl (Nat.le_of_ble_eq_true rfl) dX6_mark_112 (fun H locs hP hS => ?_)
        obtain ⟨q_19, hq_19, hf⟩ := bind_ex hf
        refine r_Si (As := [.int q_18]) (rest := [.int q_17]) ⟨hx, hb, hml, hown, hts⟩ hC hP hS (c_X6_bits l g u q_18 hq_19) (va_cwS 1 hts gX6_mark_X6_bits rfl rfl rfl (by decide +kernel) ⟨(Nat.le_trans (Nat.le_of_ble_eq_true rfl) hRf), (Nat.le_trans (Nat.le_of_ble_eq_true rfl) hRl)⟩) rfl hl.1 rfl (Nat.le_of_ble_eq_true rfl) dX6_mark_115 (fun H locs hP hS => ?_)
        refine lv_isub hx hb dX6_mark_118 ?_
        obtain ⟨rfl, rfl⟩ := sp2 hf
        exact kret _ _ _ _ dX6_mark_119 hP hS trivial
      rw [if_neg s_16] at hf
      refine lv_tableOut (tgt := 120) hx hb dX6_mark_49 (tsw_out 1 4 4 [(1 : Int32), (2 : Int32), (3 : Int32), (4 : Int32)] (by decide) (by decide) (by decide) (List.forall_mem_cons.mpr ⟨s_8, (List.forall_mem_cons.mpr ⟨s_10, (List.forall_mem_cons.mpr ⟨s_13, (List.forall_mem_cons.mpr ⟨s_16, (fun _ h => absurd h List.not_mem_nil)⟩)⟩)⟩)⟩)) (by decide) ?_
      refine lv_iconst (v := (3 : Int32)) hx hb dX6_mark_120 (by decide) ?_
      obtain ⟨q_20, hq_20, hf⟩ := bind_ex hf
      refine r_Si (As := [.int (3 : Int32)]) (rest := []) ⟨hx, hb, hml, hown, hts⟩ hC hP hS (c_X6_allOf l g u (3 : Int32) hq_20) (va_cwS 1 hts gX6_mark_X6_allOf rfl rfl rfl (by decide +kernel) ⟨(Nat.le_trans (Nat.le_of_ble_eq_true rfl) hRf), (Nat.le_trans (Nat.le_of_ble_eq_true rfl) hRl)⟩) rfl hl.1 rfl (Nat.le_of_ble_eq_true rfl) dX6_mark_121 (fun H locs hP hS => ?_)
      obtain ⟨q_21, hq_21, hf⟩ := bind_ex hf
      refine r_Si (As := [.int q_20]) (rest := []) ⟨hx, hb, hml, hown, hts⟩ hC hP hS (c_X6_bits l g u q_20 hq_21) (va_cwS 1 hts gX6_mark_X6_bits rfl rfl rfl (by decide +kernel) ⟨(Nat.le_trans (Nat.le_of_ble_eq_true rfl) hRf), (Nat.le_trans (Nat.le_of_ble_eq_true rfl) hRl)⟩) rfl hl.1 rfl (Nat.le_of_ble_eq_true rfl) dX6_mark_124 (fun H locs hP hS => ?_)
      refine lv_iload_n hx hb dX6_mark_127 rfl (lv_at hl 0 rfl) ?_
      obtain ⟨q_22, hq_22, hf⟩ := bind_ex hf
      refine r_Si (As := [.int q_7]) (rest := [.int q_21]) ⟨hx, hb, hml, hown, hts⟩ hC hP hS (c_X6_bits l g u q_7 hq_22) (va_cwS 1 hts gX6_mark_X6_bits rfl rfl rfl (by decide +kernel) ⟨(Nat.le_trans (Nat.le_of_ble_eq_true rfl) hRf), (Nat.le_trans (Nat.le_of_ble_eq_true rfl) hRl)⟩) rfl hl.1 rfl (Nat.le_of_ble_eq_true rfl) dX6_mark_128 (fun H locs hP hS => ?_)
      refine lv_isub hx hb dX6_mark_131 ?_
      obtain ⟨rfl, rfl⟩ := sp2 hf
      exact kret _ _ _ _ dX6_mark_132 hP hS trivial
    rw [if_pos c_5] at hf
    refine lv_aload_n hx hb dX6_mark_32 rfl (lv_at hl 0 rfl) ?_
    refine lv_iconst (v := (3 : Int32)) hx hb dX6_mark_33 (by decide) ?_
    obtain ⟨q_23, hq_23, hf⟩ := bind_ex hf
    refine r_Vi (r := q_23.1) (u' := q_23.2) (As := [.int (3 : Int32)]) (rest := []) (k := 55) (ci := 5) ⟨hx, hb, hml, hown, hts⟩ hC hP hS (by decide) rfl (by decide) rfl (c_X6_meets l g u (3 : Int32) hq_23) (cwV 1 hts gX6_mark_X6_meets rfl rfl rfl (by decide +kernel) ⟨(Nat.le_trans (Nat.le_of_ble_eq_true rfl) hRf), (Nat.le_trans (Nat.le_of_ble_eq_true rfl) hRl)⟩) rfl hl.1 rfl (Nat.le_of_ble_eq_true rfl) dX6_mark_34 (fun H locs hP hS => ?_)
    obtain ⟨rfl, rfl⟩ := sp2 hf
    exact kret _ _ _ _ dX6_mark_37 hP hS trivial
  rw [if_pos c_3] at hf
  refine lv_iconst (v := (-1 : Int32)) hx hb dX6_mark_17 (by decide) ?_
  obtain ⟨rfl, rfl⟩ := sp2 hf
  exact kret _ _ _ _ dX6_mark_18 hP hS trivial
set_option maxHeartbeats 4000000 in
set_option maxRecDepth 100000 in
theorem c_X6_takes (l : Launch) (g : GG) (u : UU) (x1 : Int32) (x2 : Int32) {r : Int32} (hf : f_X6_takes x1 x2 u = some r) : Ci l g 55 20 yX6_takes wsX6_takes 2 43 [.ref (aD g 55), .int x1, .int x2] u r u := by
  refine ct_i (cc := cX6_takes) (maxL := 3) (by decide) rfl (Nat.le_of_ble_eq_true rfl) ?_
  intro p e s m args below meth c R Q ls hx hb hml hown hts hC hP hl hRf hRl kret hS
  have hown : s.vm.findClass RX6 = some m.cls := hown
  have hl : lv_has ls 3 [(0, .ref (aD g 55)), (1, .int x1), (2, .int x2)] := hl
  have hinX6 : ∀ w ∈ u_ws RX6 TX6 34, w ∈ wsX6_takes := by decide +kernel
  unfold f_X6_takes at hf
  refine lv_aload_n hx hb dX6_takes_0 rfl (lv_at hl 0 rfl) ?_
  refine lv_iload_n hx hb dX6_takes_1 rfl (lv_at hl 1 rfl) ?_
  obtain ⟨q_1, hq_1, hf⟩ := bind_ex hf
  refine r_Vi (As := [.int x1]) (rest := []) (k := 55) (ci := 5) ⟨hx, hb, hml, hown, hts⟩ hC hP hS (by decide) rfl (by decide) rfl (c_X6_isWorker l g u x1 hq_1) (cwV 1 hts gX6_takes_X6_isWorker rfl rfl rfl (by decide +kernel) ⟨(Nat.le_trans (Nat.le_of_ble_eq_true rfl) hRf), (Nat.le_trans (Nat.le_of_ble_eq_true rfl) hRl)⟩) rfl hl.1 rfl (Nat.le_of_ble_eq_true rfl) dX6_takes_2 (fun H locs hP hS => ?_)
  refine lv_if_eq (tgt := 36) hx hb dX6_takes_5 (by decide) (fun c_2 => ?_) (fun c_2 => ?_)
  · rw [if_pos c_2] at hf
    refine lv_iconst (v := (-1 : Int32)) hx hb dX6_takes_36 (by decide) ?_
    obtain rfl := sp1 hf
    exact kret _ _ _ _ dX6_takes_37 hP hS trivial
  rw [if_neg c_2] at hf
  refine lv_iload_n hx hb dX6_takes_8 rfl (lv_at hl 2 rfl) ?_
  refine r_Si (As := [.int x2]) (rest := []) ⟨hx, hb, hml, hown, hts⟩ hC hP hS (c_X6_isPart l g u x2 rfl) (va_cwS 1 hts gX6_takes_X6_isPart rfl rfl rfl (by decide +kernel) ⟨(Nat.le_trans (Nat.le_of_ble_eq_true rfl) hRf), (Nat.le_trans (Nat.le_of_ble_eq_true rfl) hRl)⟩) rfl hl.1 rfl (Nat.le_of_ble_eq_true rfl) dX6_takes_9 (fun H locs hP hS => ?_)
  refine lv_if_eq (tgt := 36) hx hb dX6_takes_12 (by decide) (fun c_3 => ?_) (fun c_3 => ?_)
  · rw [if_pos c_3] at hf
    refine lv_iconst (v := (-1 : Int32)) hx hb dX6_takes_36 (by decide) ?_
    obtain rfl := sp1 hf
    exact kret _ _ _ _ dX6_takes_37 hP hS trivial
  rw [if_neg c_3] at hf
  refine lv_aload_n hx hb dX6_takes_15 rfl (lv_at hl 0 rfl) ?_
  refine r_get hx hb hts hown hC hP hinX6 55 (by decide) (ci := 5) rfl (by decide) rfl 18 (by decide) (hts (.fieldLink RX6 42 "LoafPartsModel" "kind" "[I") (by decide +kernel)) (v := .ref (aD g 65)) rfl dX6_takes_16 ?_
  refine lv_iload_n hx hb dX6_takes_19 rfl (lv_at hl 1 rfl) ?_
  obtain ⟨hi_4, hf⟩ := ix_ex hf
  refine r_ald hx hb hC hP 65 (by decide) rfl hi_4 dX6_takes_20 ?_
  refine lv_iload_n hx hb dX6_takes_21 rfl (lv_at hl 2 rfl) ?_
  obtain ⟨q_5, hq_5, hf⟩ := bind_ex hf
  refine r_Si (As := [.int (ui u 65 (x1 : Int32).toNatClampNeg), .int x2]) (rest := []) ⟨hx, hb, hml, hown, hts⟩ hC hP hS (c_X6_takesAs l g u (ui u 65 (x1 : Int32).toNatClampNeg) x2 hq_5) (va_cwS 2 hts gX6_takes_X6_takesAs rfl rfl rfl (by decide +kernel) ⟨(Nat.le_trans (Nat.le_of_ble_eq_true rfl) hRf), (Nat.le_trans (Nat.le_of_ble_eq_true rfl) hRl)⟩) rfl hl.1 rfl (Nat.le_of_ble_eq_true rfl) dX6_takes_22 (fun H locs hP hS => ?_)
  refine lv_if_eq (tgt := 32) hx hb dX6_takes_25 (by decide) (fun c_6 => ?_) (fun c_6 => ?_)
  · rw [if_pos c_6] at hf
    refine lv_iconst (v := (0 : Int32)) hx hb dX6_takes_32 (by decide) ?_
    refine lv_goto (tgt := 37) hx hb dX6_takes_33 (by decide) ?_
    obtain rfl := sp1 hf
    exact kret _ _ _ _ dX6_takes_37 hP hS trivial
  rw [if_neg c_6] at hf
  refine lv_iconst (v := (1 : Int32)) hx hb dX6_takes_28 (by decide) ?_
  refine lv_goto (tgt := 37) hx hb dX6_takes_29 (by decide) ?_
  obtain rfl := sp1 hf
  exact kret _ _ _ _ dX6_takes_37 hP hS trivial
set_option maxHeartbeats 4000000 in
set_option maxRecDepth 100000 in
theorem c_X6_remember (l : Launch) (g : GG) (u : UU) {u' : UU} (hf : f_X6_remember u = some u') : Cv l g 55 20 yX6_remember wsX6_remember 0 0 [.ref (aD g 55)] u u' := by
  refine ct_v (cc := cX6_remember) (maxL := 2) (by decide) rfl (Nat.le_of_ble_eq_true rfl) ?_
  intro p e s m args below meth c R Q ls hx hb hml hown hts hC hP hl hRf hRl kret hS
  have hown : s.vm.findClass RX6 = some m.cls := hown
  have hl : lv_has ls 2 [(0, .ref (aD g 55))] := hl
  have hinX6 : ∀ w ∈ u_ws RX6 TX6 34, w ∈ wsX6_remember := by decide +kernel
  have w_2 : ∀ (n : Nat), ∀ (x1 : Int32) (u : UU) (H : Heap) (locs : List Loc) (ls : Array Slot), Ps g 55 20 u H → va_S (aA g) s.heap H locs → lv_has ls 2 [(0, .ref (aD g 55)), (1, .int x1)] → f_X6_remember_2 n x1 u = some u' → W p l e R s m args below meth c H locs 0 0 Q (F0 m 2 ls []) := by
    intro n
    induction n with
    | zero =>
      intro x1 u H locs ls hP hS hl hf
      rw [f_X6_remember_2] at hf
      cases hf
    | succ n ih =>
      intro x1 u H locs ls hP hS hl hf
      rw [f_X6_remember_2] at hf
      refine lv_iload_n hx hb dX6_remember_2 rfl (lv_at hl 1 rfl) ?_
      refine lv_bipush (v := (25 : Int32)) hx hb dX6_remember_3 (by decide) ?_
      refine lv_icmp_ge (tgt := 34) hx hb dX6_remember_5 (by decide) (fun c_1 => ?_) (fun c_1 => ?_)
      · rw [if_pos c_1] at hf
        refine lv_aload_n hx hb dX6_remember_34 rfl (lv_at hl 0 rfl) ?_
        refine lv_dup hx hb dX6_remember_35 rfl ?_
        refine r_get hx hb hts hown hC hP hinX6 55 (by decide) (ci := 5) rfl (by decide) rfl 22 (by decide) (hts (.fieldLink RX6 139 "LoafPartsModel" "deedMany" "I") (by decide +kernel)) (v := .int (ui u 55 22)) rfl dX6_remember_36 ?_
        refine lv_iconst (v := (1 : Int32)) hx hb dX6_remember_39 (by decide) ?_
        refine lv_iadd hx hb dX6_remember_40 ?_
        obtain ⟨u_2, eu_2, hf⟩ := lt_ex hf
        refine r_puti hx hb hts hown hC hP hS hinX6 tyX6 tyX6_ok nmX6 55 (by decide) (ci := 5) rfl (by decide) rfl 22 (by decide) (hts (.fieldLink RX6 139 "LoafPartsModel" "deedMany" "I") (by decide +kernel)) rfl (ty := .int) (by decide +kernel) rfl rfl (by decide) (by decide) eu_2 dX6_remember_41 (fun H locs hP hS => ?_)
        obtain rfl := sp1 hf
        exact kret _ _ _ _ dX6_remember_44 hP hS trivial
      rw [if_neg c_1] at hf
      refine lv_aload_n hx hb dX6_remember_8 rfl (lv_at hl 0 rfl) ?_
      refine r_get hx hb hts hown hC hP hinX6 55 (by decide) (ci := 5) rfl (by decide) rfl 23 (by decide) (hts (.fieldLink RX6 54 "LoafPartsModel" "log" "[I") (by decide +kernel)) (v := .ref (aD g 69)) rfl dX6_remember_9 ?_
      refine lv_bipush (v := (25 : Int32)) hx hb dX6_remember_12 (by decide) ?_
      refine lv_aload_n hx hb dX6_remember_14 rfl (lv_at hl 0 rfl) ?_
      refine r_get hx hb hts hown hC hP hinX6 55 (by decide) (ci := 5) rfl (by decide) rfl 22 (by decide) (hts (.fieldLink RX6 139 "LoafPartsModel" "deedMany" "I") (by decide +kernel)) (v := .int (ui u 55 22)) rfl dX6_remember_15 ?_
      refine lv_imul hx hb dX6_remember_18 ?_
      refine lv_iload_n hx hb dX6_remember_19 rfl (lv_at hl 1 rfl) ?_
      refine lv_iadd hx hb dX6_remember_20 ?_
      refine lv_aload_n hx hb dX6_remember_21 rfl (lv_at hl 0 rfl) ?_
      refine r_get hx hb hts hown hC hP hinX6 55 (by decide) (ci := 5) rfl (by decide) rfl 21 (by decide) (hts (.fieldLink RX6 51 "LoafPartsModel" "now" "[I") (by decide +kernel)) (v := .ref (aD g 68)) rfl dX6_remember_22 ?_
      refine lv_iload_n hx hb dX6_remember_25 rfl (lv_at hl 1 rfl) ?_
      obtain ⟨hi_3, hf⟩ := ix_ex hf
      refine r_ald hx hb hC hP 68 (by decide) rfl hi_3 dX6_remember_26 ?_
      obtain ⟨hi_4, hf⟩ := ix_ex hf
      obtain ⟨u_5, eu_5, hf⟩ := lt_ex hf
      refine r_ast hx hb hC hP hS 69 (by decide) rfl hi_4 eu_5 dX6_remember_27 (fun H locs hP hS => ?_)
      obtain ⟨x1_6, ex1_6, hf⟩ := lt_ex hf
      refine lv_iinc (v := x1_6) (lv' := [(1, .int x1_6), (0, .ref (aD g 55))]) hx hb dX6_remember_28 hl (k := 1) rfl (by rw [ex1_6]; rfl) (by decide) rfl (fun ls hl => ?_)
      refine lv_goto (tgt := 2) hx hb dX6_remember_31 (by decide) ?_
      exact ih x1_6 u_5 _ _ _ hP hS (lv_sub hl [1, 0] rfl) hf
  unfold f_X6_remember at hf
  refine lv_iconst (v := (0 : Int32)) hx hb dX6_remember_0 (by decide) ?_
  refine lv_istore_n (lv' := [(1, .int (0 : Int32)), (0, .ref (aD g 55))]) hx hb dX6_remember_1 rfl hl (by decide) rfl (fun ls hl => ?_)
  exact w_2 fu (0 : Int32) u _ _ _ hP hS (lv_sub hl [1, 0] rfl) hf
set_option maxHeartbeats 4000000 in
set_option maxRecDepth 100000 in
theorem c_X6_cuts (l : Launch) (g : GG) (u : UU) (x1 : Int32) {u' : UU} (hf : f_X6_cuts x1 u = some u') : Cv l g 55 20 yX6_cuts wsX6_cuts 0 0 [.ref (aD g 55), .int x1] u u' := by
  refine ct_v (cc := cX6_cuts) (maxL := 2) (by decide) rfl (Nat.le_of_ble_eq_true rfl) ?_
  intro p e s m args below meth c R Q ls hx hb hml hown hts hC hP hl hRf hRl kret hS
  have hown : s.vm.findClass RX6 = some m.cls := hown
  have hl : lv_has ls 2 [(0, .ref (aD g 55)), (1, .int x1)] := hl
  have hinX6 : ∀ w ∈ u_ws RX6 TX6 34, w ∈ wsX6_cuts := by decide +kernel
  unfold f_X6_cuts at hf
  refine lv_aload_n hx hb dX6_cuts_0 rfl (lv_at hl 0 rfl) ?_
  refine r_get hx hb hts hown hC hP hinX6 55 (by decide) (ci := 5) rfl (by decide) rfl 21 (by decide) (hts (.fieldLink RX6 51 "LoafPartsModel" "now" "[I") (by decide +kernel)) (v := .ref (aD g 68)) rfl dX6_cuts_1 ?_
  refine lv_iconst (v := (0 : Int32)) hx hb dX6_cuts_4 (by decide) ?_
  refine lv_dup2_11 hx hb dX6_cuts_5 rfl rfl ?_
  obtain ⟨hi_1, hf⟩ := ix_ex hf
  refine r_ald hx hb hC hP 68 (by decide) rfl hi_1 dX6_cuts_6 ?_
  refine lv_iconst (v := (1 : Int32)) hx hb dX6_cuts_7 (by decide) ?_
  refine lv_isub hx hb dX6_cuts_8 ?_
  obtain ⟨hi_2, hf⟩ := ix_ex hf
  obtain ⟨u_3, eu_3, hf⟩ := lt_ex hf
  refine r_ast hx hb hC hP hS 68 (by decide) rfl hi_2 eu_3 dX6_cuts_9 (fun H locs hP hS => ?_)
  refine lv_aload_n hx hb dX6_cuts_10 rfl (lv_at hl 0 rfl) ?_
  refine r_get hx hb hts hown hC hP hinX6 55 (by decide) (ci := 5) rfl (by decide) rfl 21 (by decide) (hts (.fieldLink RX6 51 "LoafPartsModel" "now" "[I") (by decide +kernel)) (v := .ref (aD g 68)) rfl dX6_cuts_11 ?_
  refine lv_iconst (v := (1 : Int32)) hx hb dX6_cuts_14 (by decide) ?_
  refine lv_iload_n hx hb dX6_cuts_15 rfl (lv_at hl 1 rfl) ?_
  refine lv_iadd hx hb dX6_cuts_16 ?_
  refine lv_dup2_11 hx hb dX6_cuts_17 rfl rfl ?_
  obtain ⟨hi_4, hf⟩ := ix_ex hf
  refine r_ald hx hb hC hP 68 (by decide) rfl hi_4 dX6_cuts_18 ?_
  refine lv_iload_n hx hb dX6_cuts_19 rfl (lv_at hl 1 rfl) ?_
  refine lv_iadd hx hb dX6_cuts_20 ?_
  obtain ⟨hi_5, hf⟩ := ix_ex hf
  obtain ⟨u_6, eu_6, hf⟩ := lt_ex hf
  refine r_ast hx hb hC hP hS 68 (by decide) rfl hi_5 eu_6 dX6_cuts_21 (fun H locs hP hS => ?_)
  obtain rfl := sp1 hf
  exact kret _ _ _ _ dX6_cuts_22 hP hS trivial
set_option maxHeartbeats 4000000 in
set_option maxRecDepth 100000 in
theorem c_X6_cut (l : Launch) (g : GG) (u : UU) (x1 : Int32) {r : Int32} {u' : UU} (hf : f_X6_cut x1 u = some (r, u')) : Ci l g 55 20 yX6_cut wsX6_cut 2 42 [.ref (aD g 55), .int x1] u r u' := by
  refine ct_i (cc := cX6_cut) (maxL := 2) (by decide) rfl (Nat.le_of_ble_eq_true rfl) ?_
  intro p e s m args below meth c R Q ls hx hb hml hown hts hC hP hl hRf hRl kret hS
  have hown : s.vm.findClass RX6 = some m.cls := hown
  have hl : lv_has ls 2 [(0, .ref (aD g 55)), (1, .int x1)] := hl
  have hinX6 : ∀ w ∈ u_ws RX6 TX6 34, w ∈ wsX6_cut := by decide +kernel
  unfold f_X6_cut at hf
  refine lv_iload_n hx hb dX6_cut_0 rfl (lv_at hl 1 rfl) ?_
  refine r_Si (As := [.int x1]) (rest := []) ⟨hx, hb, hml, hown, hts⟩ hC hP hS (c_X6_isPart l g u x1 rfl) (va_cwS 1 hts gX6_cut_X6_isPart rfl rfl rfl (by decide +kernel) ⟨(Nat.le_trans (Nat.le_of_ble_eq_true rfl) hRf), (Nat.le_trans (Nat.le_of_ble_eq_true rfl) hRl)⟩) rfl hl.1 rfl (Nat.le_of_ble_eq_true rfl) dX6_cut_1 (fun H locs hP hS => ?_)
  refine lv_if_ne (tgt := 9) hx hb dX6_cut_4 (by decide) (fun c_1 => ?_) (fun c_1 => ?_)
  · rw [if_neg c_1] at hf
    refine lv_aload_n hx hb dX6_cut_9 rfl (lv_at hl 0 rfl) ?_
    refine r_get hx hb hts hown hC hP hinX6 55 (by decide) (ci := 5) rfl (by decide) rfl 21 (by decide) (hts (.fieldLink RX6 51 "LoafPartsModel" "now" "[I") (by decide +kernel)) (v := .ref (aD g 68)) rfl dX6_cut_10 ?_
    refine lv_iconst (v := (0 : Int32)) hx hb dX6_cut_13 (by decide) ?_
    obtain ⟨hi_2, hf⟩ := ix_ex hf
    refine r_ald hx hb hC hP 68 (by decide) rfl hi_2 dX6_cut_14 ?_
    refine lv_if_ne (tgt := 21) hx hb dX6_cut_15 (by decide) (fun c_3 => ?_) (fun c_3 => ?_)
    · rw [if_neg c_3] at hf
      refine lv_aload_n hx hb dX6_cut_21 rfl (lv_at hl 0 rfl) ?_
      refine r_get hx hb hts hown hC hP hinX6 55 (by decide) (ci := 5) rfl (by decide) rfl 22 (by decide) (hts (.fieldLink RX6 139 "LoafPartsModel" "deedMany" "I") (by decide +kernel)) (v := .int (ui u 55 22)) rfl dX6_cut_22 ?_
      refine lv_bipush (v := (40 : Int32)) hx hb dX6_cut_25 (by decide) ?_
      refine lv_icmp_ne (tgt := 33) hx hb dX6_cut_27 (by decide) (fun c_4 => ?_) (fun c_4 => ?_)
      · rw [if_neg c_4] at hf
        refine lv_aload_n hx hb dX6_cut_33 rfl (lv_at hl 0 rfl) ?_
        obtain ⟨q_5, hq_5, hf⟩ := bind_ex hf
        refine r_Vv (As := []) (rest := []) (k := 55) (ci := 5) ⟨hx, hb, hml, hown, hts⟩ hC hP hS (by decide) rfl (by decide) rfl (c_X6_remember l g u hq_5) (cwV 0 hts gX6_cut_X6_remember rfl rfl rfl (by decide +kernel) ⟨(Nat.le_trans (Nat.le_of_ble_eq_true rfl) hRf), (Nat.le_trans (Nat.le_of_ble_eq_true rfl) hRl)⟩) rfl hl.1 rfl (Nat.le_of_ble_eq_true rfl) dX6_cut_34 (fun H locs hP hS => ?_)
        refine lv_aload_n hx hb dX6_cut_37 rfl (lv_at hl 0 rfl) ?_
        refine lv_iload_n hx hb dX6_cut_38 rfl (lv_at hl 1 rfl) ?_
        obtain ⟨q_6, hq_6, hf⟩ := bind_ex hf
        refine r_Vv (As := [.int x1]) (rest := []) (k := 55) (ci := 5) ⟨hx, hb, hml, hown, hts⟩ hC hP hS (by decide) rfl (by decide) rfl (c_X6_cuts l g q_5 x1 hq_6) (cwV 1 hts gX6_cut_X6_cuts rfl rfl rfl (by decide +kernel) ⟨(Nat.le_trans (Nat.le_of_ble_eq_true rfl) hRf), (Nat.le_trans (Nat.le_of_ble_eq_true rfl) hRl)⟩) rfl hl.1 rfl (Nat.le_of_ble_eq_true rfl) dX6_cut_39 (fun H locs hP hS => ?_)
        refine lv_aload_n hx hb dX6_cut_42 rfl (lv_at hl 0 rfl) ?_
        refine r_get hx hb hts hown hC hP hinX6 55 (by decide) (ci := 5) rfl (by decide) rfl 21 (by decide) (hts (.fieldLink RX6 51 "LoafPartsModel" "now" "[I") (by decide +kernel)) (v := .ref (aD g 68)) rfl dX6_cut_43 ?_
        refine lv_iconst (v := (1 : Int32)) hx hb dX6_cut_46 (by decide) ?_
        refine lv_iload_n hx hb dX6_cut_47 rfl (lv_at hl 1 rfl) ?_
        refine lv_iadd hx hb dX6_cut_48 ?_
        obtain ⟨hi_7, hf⟩ := ix_ex hf
        refine r_ald hx hb hC hP 68 (by decide) rfl hi_7 dX6_cut_49 ?_
        obtain ⟨rfl, rfl⟩ := sp2 hf
        exact kret _ _ _ _ dX6_cut_50 hP hS trivial
      rw [if_pos c_4] at hf
      refine lv_bipush (v := (-2 : Int32)) hx hb dX6_cut_30 (by decide) ?_
      obtain ⟨rfl, rfl⟩ := sp2 hf
      exact kret _ _ _ _ dX6_cut_32 hP hS trivial
    rw [if_pos c_3] at hf
    refine lv_bipush (v := (-4 : Int32)) hx hb dX6_cut_18 (by decide) ?_
    obtain ⟨rfl, rfl⟩ := sp2 hf
    exact kret _ _ _ _ dX6_cut_20 hP hS trivial
  rw [if_pos c_1] at hf
  refine lv_iconst (v := (-1 : Int32)) hx hb dX6_cut_7 (by decide) ?_
  obtain ⟨rfl, rfl⟩ := sp2 hf
  exact kret _ _ _ _ dX6_cut_8 hP hS trivial
set_option maxHeartbeats 4000000 in
set_option maxRecDepth 100000 in
theorem c_X6_gives (l : Launch) (g : GG) (u : UU) (x1 : Int32) (x2 : Int32) {u' : UU} (hf : f_X6_gives x1 x2 u = some u') : Cv l g 55 20 yX6_gives wsX6_gives 0 0 [.ref (aD g 55), .int x1, .int x2] u u' := by
  refine ct_v (cc := cX6_gives) (maxL := 3) (by decide) rfl (Nat.le_of_ble_eq_true rfl) ?_
  intro p e s m args below meth c R Q ls hx hb hml hown hts hC hP hl hRf hRl kret hS
  have hown : s.vm.findClass RX6 = some m.cls := hown
  have hl : lv_has ls 3 [(0, .ref (aD g 55)), (1, .int x1), (2, .int x2)] := hl
  have hinX6 : ∀ w ∈ u_ws RX6 TX6 34, w ∈ wsX6_gives := by decide +kernel
  unfold f_X6_gives at hf
  refine lv_aload_n hx hb dX6_gives_0 rfl (lv_at hl 0 rfl) ?_
  refine r_get hx hb hts hown hC hP hinX6 55 (by decide) (ci := 5) rfl (by decide) rfl 21 (by decide) (hts (.fieldLink RX6 51 "LoafPartsModel" "now" "[I") (by decide +kernel)) (v := .ref (aD g 68)) rfl dX6_gives_1 ?_
  refine lv_iconst (v := (1 : Int32)) hx hb dX6_gives_4 (by decide) ?_
  refine lv_iload_n hx hb dX6_gives_5 rfl (lv_at hl 2 rfl) ?_
  refine lv_iadd hx hb dX6_gives_6 ?_
  refine lv_dup2_11 hx hb dX6_gives_7 rfl rfl ?_
  obtain ⟨hi_1, hf⟩ := ix_ex hf
  refine r_ald hx hb hC hP 68 (by decide) rfl hi_1 dX6_gives_8 ?_
  refine lv_iconst (v := (1 : Int32)) hx hb dX6_gives_9 (by decide) ?_
  refine lv_isub hx hb dX6_gives_10 ?_
  obtain ⟨hi_2, hf⟩ := ix_ex hf
  obtain ⟨u_3, eu_3, hf⟩ := lt_ex hf
  refine r_ast hx hb hC hP hS 68 (by decide) rfl hi_2 eu_3 dX6_gives_11 (fun H locs hP hS => ?_)
  refine lv_aload_n hx hb dX6_gives_12 rfl (lv_at hl 0 rfl) ?_
  refine r_get hx hb hts hown hC hP hinX6 55 (by decide) (ci := 5) rfl (by decide) rfl 21 (by decide) (hts (.fieldLink RX6 51 "LoafPartsModel" "now" "[I") (by decide +kernel)) (v := .ref (aD g 68)) rfl dX6_gives_13 ?_
  refine lv_bipush (v := (18 : Int32)) hx hb dX6_gives_16 (by decide) ?_
  refine lv_iload_n hx hb dX6_gives_18 rfl (lv_at hl 1 rfl) ?_
  refine lv_iadd hx hb dX6_gives_19 ?_
  refine lv_dup2_11 hx hb dX6_gives_20 rfl rfl ?_
  obtain ⟨hi_4, hf⟩ := ix_ex hf
  refine r_ald hx hb hC hP 68 (by decide) rfl hi_4 dX6_gives_21 ?_
  refine lv_iconst (v := (1 : Int32)) hx hb dX6_gives_22 (by decide) ?_
  refine lv_iload_n hx hb dX6_gives_23 rfl (lv_at hl 2 rfl) ?_
  refine lv_ishl hx hb dX6_gives_24 ?_
  refine lv_ior hx hb dX6_gives_25 ?_
  obtain ⟨hi_5, hf⟩ := ix_ex hf
  obtain ⟨u_6, eu_6, hf⟩ := lt_ex hf
  refine r_ast hx hb hC hP hS 68 (by decide) rfl hi_5 eu_6 dX6_gives_26 (fun H locs hP hS => ?_)
  obtain rfl := sp1 hf
  exact kret _ _ _ _ dX6_gives_27 hP hS trivial