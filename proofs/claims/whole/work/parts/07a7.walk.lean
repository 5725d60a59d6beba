set_option maxHeartbeats 4000000 in
set_option maxRecDepth 100000 in
theorem c_X5_upper (l : Launch) (g : GG) (u : UU) {r : Int64} (hf : f_X5_upper u = some r) : Cl l g 0 55 yX5_upper wsX5_upper 0 0 [.ref (aD g 0)] u r u := by
  refine ct_l (cc := cX5_upper) (maxL := 1) (by decide) rfl (Nat.le_of_ble_eq_true rfl) ?_
  intro p e s m args below meth c R Q ls hx hb hml hown hts hC hP hl hRf hRl kret hS
  have hown : s.vm.findClass RX5 = some m.cls := hown
  have hl : lv_has ls 1 [(0, .ref (aD g 0))] := hl
  have hinX5 : ∀ w ∈ u_ws RX5 TX5 12, w ∈ wsX5_upper := by decide +kernel
  unfold f_X5_upper at hf
  refine lv_aload_n hx hb dX5_upper_0 rfl (lv_at hl 0 rfl) ?_
  refine r_get hx hb hts hown hC hP hinX5 0 (by decide) (ci := 4) rfl (by decide) rfl 10 (by decide) (hts (.fieldLink RX5 290 "LoafParts" "toldUpper" "J") (by decide +kernel)) (v := .long (ul u 0 10)) rfl dX5_upper_1 ?_
  obtain rfl := sp1 hf
  exact kret _ _ _ _ dX5_upper_4 hP hS trivial
set_option maxHeartbeats 4000000 in
set_option maxRecDepth 100000 in
theorem c_X5_lower (l : Launch) (g : GG) (u : UU) {r : Int64} (hf : f_X5_lower u = some r) : Cl l g 0 55 yX5_lower wsX5_lower 0 0 [.ref (aD g 0)] u r u := by
  refine ct_l (cc := cX5_lower) (maxL := 1) (by decide) rfl (Nat.le_of_ble_eq_true rfl) ?_
  intro p e s m args below meth c R Q ls hx hb hml hown hts hC hP hl hRf hRl kret hS
  have hown : s.vm.findClass RX5 = some m.cls := hown
  have hl : lv_has ls 1 [(0, .ref (aD g 0))] := hl
  have hinX5 : ∀ w ∈ u_ws RX5 TX5 12, w ∈ wsX5_lower := by decide +kernel
  unfold f_X5_lower at hf
  refine lv_aload_n hx hb dX5_lower_0 rfl (lv_at hl 0 rfl) ?_
  refine r_get hx hb hts hown hC hP hinX5 0 (by decide) (ci := 4) rfl (by decide) rfl 11 (by decide) (hts (.fieldLink RX5 53 "LoafParts" "toldLower" "J") (by decide +kernel)) (v := .long (ul u 0 11)) rfl dX5_lower_1 ?_
  obtain rfl := sp1 hf
  exact kret _ _ _ _ dX5_lower_4 hP hS trivial
set_option maxHeartbeats 4000000 in
set_option maxRecDepth 100000 in
theorem c_X4_hadInAll (l : Launch) (g : GG) (u : UU) {r : Int32} (hf : f_X4_hadInAll u = some r) : Ci l g 0 55 yX4_hadInAll wsX4_hadInAll 1 20 [.ref (aD g 11)] u r u := by
  refine ct_i (cc := cX4_hadInAll) (maxL := 3) (by decide) rfl (Nat.le_of_ble_eq_true rfl) ?_
  intro p e s m args below meth c R Q ls hx hb hml hown hts hC hP hl hRf hRl kret hS
  have hown : s.vm.findClass RX4 = some m.cls := hown
  have hl : lv_has ls 3 [(0, .ref (aD g 11))] := hl
  have hinX4 : ∀ w ∈ u_ws RX4 TX4 13, w ∈ wsX4_hadInAll := by decide +kernel
  have w_4 : ∀ (n : Nat), ∀ (x1 : Int32) (x2 : Int32) (H : Heap) (locs : List Loc) (ls : Array Slot), Ps g 0 55 u H → va_S (aA g) s.heap H locs → lv_has ls 3 [(0, .ref (aD g 11)), (1, .int x1), (2, .int x2)] → f_X4_hadInAll_4 n x1 x2 u = some r → W p l e R s m args below meth c H locs 0 0 Q (F0 m 4 ls []) := by
    intro n
    induction n with
    | zero =>
      intro x1 x2 H locs ls hP hS hl hf
      rw [f_X4_hadInAll_4] at hf
      cases hf
    | succ n ih =>
      intro x1 x2 H locs ls hP hS hl hf
      rw [f_X4_hadInAll_4] at hf
      refine lv_iload_n hx hb dX4_hadInAll_4 rfl (lv_at hl 2 rfl) ?_
      refine lv_aload_n hx hb dX4_hadInAll_5 rfl (lv_at hl 0 rfl) ?_
      refine r_get hx hb hts hown hC hP hinX4 11 (by decide) (ci := 3) rfl (by decide) rfl 0 (by decide) (hts (.fieldLink RX4 39 "LoafParts$Table" "workers" "I") (by decide +kernel)) (v := .int (ui u 11 0)) rfl dX4_hadInAll_6 ?_
      refine lv_icmp_ge (tgt := 30) hx hb dX4_hadInAll_9 (by decide) (fun c_1 => ?_) (fun c_1 => ?_)
      · rw [if_pos c_1] at hf
        refine lv_iload_n hx hb dX4_hadInAll_30 rfl (lv_at hl 1 rfl) ?_
        obtain rfl := sp1 hf
        exact kret _ _ _ _ dX4_hadInAll_31 hP hS trivial
      rw [if_neg c_1] at hf
      refine lv_iload_n hx hb dX4_hadInAll_12 rfl (lv_at hl 1 rfl) ?_
      refine lv_aload_n hx hb dX4_hadInAll_13 rfl (lv_at hl 0 rfl) ?_
      refine r_get hx hb hts hown hC hP hinX4 11 (by decide) (ci := 3) rfl (by decide) rfl 8 (by decide) (hts (.fieldLink RX4 24 "LoafParts$Table" "has" "[I") (by decide +kernel)) (v := .ref (aD g 16)) rfl dX4_hadInAll_14 ?_
      refine lv_iload_n hx hb dX4_hadInAll_17 rfl (lv_at hl 2 rfl) ?_
      obtain ⟨hi_2, hf⟩ := ix_ex hf
      refine r_ald hx hb hC hP 16 (by decide) rfl hi_2 dX4_hadInAll_18 ?_
      refine r_Si (As := [.int (ui u 16 (x2 : Int32).toNatClampNeg)]) (rest := [.int x1]) ⟨hx, hb, hml, hown, hts⟩ hC hP hS (c_J6_bitCount_0f7a4 l g u (ui u 16 (x2 : Int32).toNatClampNeg) rfl) (va_cwS 1 hts gX4_hadInAll_J6_bitCount_0f7a4 rfl rfl rfl (by decide +kernel) ⟨(Nat.le_trans (Nat.le_of_ble_eq_true rfl) hRf), (Nat.le_trans (Nat.le_of_ble_eq_true rfl) hRl)⟩) rfl hl.1 rfl (Nat.le_of_ble_eq_true rfl) dX4_hadInAll_19 (fun H locs hP hS => ?_)
      refine lv_iadd hx hb dX4_hadInAll_22 ?_
      obtain ⟨x1_3, ex1_3, hf⟩ := lt_ex hf
      refine r_nm ex1_3 ?_
      refine lv_istore_n (lv' := [(1, .int x1_3), (0, .ref (aD g 11)), (2, .int x2)]) hx hb dX4_hadInAll_23 rfl hl (by decide) rfl (fun ls hl => ?_)
      obtain ⟨x2_4, ex2_4, hf⟩ := lt_ex hf
      refine lv_iinc (v := x2_4) (lv' := [(2, .int x2_4), (1, .int x1_3), (0, .ref (aD g 11))]) hx hb dX4_hadInAll_24 hl (k := 2) rfl (by rw [ex2_4]; rfl) (by decide) rfl (fun ls hl => ?_)
      refine lv_goto (tgt := 4) hx hb dX4_hadInAll_27 (by decide) ?_
      exact ih x1_3 x2_4 _ _ _ hP hS (lv_sub hl [2, 1, 0] rfl) hf
  unfold f_X4_hadInAll at hf
  refine lv_iconst (v := (0 : Int32)) hx hb dX4_hadInAll_0 (by decide) ?_
  refine lv_istore_n (lv' := [(1, .int (0 : Int32)), (0, .ref (aD g 11))]) hx hb dX4_hadInAll_1 rfl hl (by decide) rfl (fun ls hl => ?_)
  refine lv_iconst (v := (0 : Int32)) hx hb dX4_hadInAll_2 (by decide) ?_
  refine lv_istore_n (lv' := [(2, .int (0 : Int32)), (1, .int (0 : Int32)), (0, .ref (aD g 11))]) hx hb dX4_hadInAll_3 rfl hl (by decide) rfl (fun ls hl => ?_)
  exact w_4 fu (0 : Int32) (0 : Int32) _ _ _ hP hS (lv_sub hl [2, 1, 0] rfl) hf
set_option maxHeartbeats 4000000 in
set_option maxRecDepth 100000 in
theorem c_X4_paidSet (l : Launch) (g : GG) (u : UU) {r : Int32} (hf : f_X4_paidSet u = some r) : Ci l g 0 55 yX4_paidSet wsX4_paidSet 0 0 [.ref (aD g 11)] u r u := by
  refine ct_i (cc := cX4_paidSet) (maxL := 3) (by decide) rfl (Nat.le_of_ble_eq_true rfl) ?_
  intro p e s m args below meth c R Q ls hx hb hml hown hts hC hP hl hRf hRl kret hS
  have hown : s.vm.findClass RX4 = some m.cls := hown
  have hl : lv_has ls 3 [(0, .ref (aD g 11))] := hl
  have hinX4 : ∀ w ∈ u_ws RX4 TX4 13, w ∈ wsX4_paidSet := by decide +kernel
  have w_29 : ∀ (k_4 : Int32 → Int32 → UU → Option Int32) (K_4 : ∀ (x1 : Int32) (x2 : Int32) (H : Heap) (locs : List Loc) (ls : Array Slot), Ps g 0 55 u H → va_S (aA g) s.heap H locs → lv_has ls 3 [(0, .ref (aD g 11)), (1, .int x1), (2, .int x2)] → k_4 x1 x2 u = some r → W p l e R s m args below meth c H locs 0 0 Q (F0 m 4 ls [])), ∀ (x2 : Int32) (t0 : Int32) (t1 : Int32) (H : Heap) (locs : List Loc) (ls : Array Slot), Ps g 0 55 u H → va_S (aA g) s.heap H locs → lv_has ls 3 [(0, .ref (aD g 11)), (2, .int x2)] → f_X4_paidSet_29 k_4 x2 t0 t1 u = some r → W p l e R s m args below meth c H locs 0 0 Q (F0 m 29 ls [.int t0, .int t1]) := by
    intro k_4 K_4
    intro x2 t0 t1 H locs ls hP hS hl hf
    unfold f_X4_paidSet_29 at hf
    refine lv_ior hx hb dX4_paidSet_29 ?_
    obtain ⟨x1_4, ex1_4, hf⟩ := lt_ex hf
    refine r_nm ex1_4 ?_
    refine lv_istore_n (lv' := [(1, .int x1_4), (0, .ref (aD g 11)), (2, .int x2)]) hx hb dX4_paidSet_30 rfl hl (by decide) rfl (fun ls hl => ?_)
    obtain ⟨x2_5, ex2_5, hf⟩ := lt_ex hf
    refine lv_iinc (v := x2_5) (lv' := [(2, .int x2_5), (1, .int x1_4), (0, .ref (aD g 11))]) hx hb dX4_paidSet_31 hl (k := 2) rfl (by rw [ex2_5]; rfl) (by decide) rfl (fun ls hl => ?_)
    refine lv_goto (tgt := 4) hx hb dX4_paidSet_34 (by decide) ?_
    exact K_4 x1_4 x2_5 _ _ _ hP hS (lv_sub hl [2, 1, 0] rfl) hf
  have w_4 : ∀ (n : Nat), ∀ (x1 : Int32) (x2 : Int32) (H : Heap) (locs : List Loc) (ls : Array Slot), Ps g 0 55 u H → va_S (aA g) s.heap H locs → lv_has ls 3 [(0, .ref (aD g 11)), (1, .int x1), (2, .int x2)] → f_X4_paidSet_4 n x1 x2 u = some r → W p l e R s m args below meth c H locs 0 0 Q (F0 m 4 ls []) := by
    intro n
    induction n with
    | zero =>
      intro x1 x2 H locs ls hP hS hl hf
      rw [f_X4_paidSet_4] at hf
      cases hf
    | succ n ih =>
      intro x1 x2 H locs ls hP hS hl hf
      rw [f_X4_paidSet_4] at hf
      refine lv_iload_n hx hb dX4_paidSet_4 rfl (lv_at hl 2 rfl) ?_
      refine lv_aload_n hx hb dX4_paidSet_5 rfl (lv_at hl 0 rfl) ?_
      refine r_get hx hb hts hown hC hP hinX4 11 (by decide) (ci := 3) rfl (by decide) rfl 0 (by decide) (hts (.fieldLink RX4 39 "LoafParts$Table" "workers" "I") (by decide +kernel)) (v := .int (ui u 11 0)) rfl dX4_paidSet_6 ?_
      refine lv_icmp_ge (tgt := 37) hx hb dX4_paidSet_9 (by decide) (fun c_1 => ?_) (fun c_1 => ?_)
      · rw [if_pos c_1] at hf
        refine lv_iload_n hx hb dX4_paidSet_37 rfl (lv_at hl 1 rfl) ?_
        obtain rfl := sp1 hf
        exact kret _ _ _ _ dX4_paidSet_38 hP hS trivial
      rw [if_neg c_1] at hf
      refine lv_iload_n hx hb dX4_paidSet_12 rfl (lv_at hl 1 rfl) ?_
      refine lv_aload_n hx hb dX4_paidSet_13 rfl (lv_at hl 0 rfl) ?_
      refine r_get hx hb hts hown hC hP hinX4 11 (by decide) (ci := 3) rfl (by decide) rfl 9 (by decide) (hts (.fieldLink RX4 27 "LoafParts$Table" "lack" "[I") (by decide +kernel)) (v := .ref (aD g 17)) rfl dX4_paidSet_14 ?_
      refine lv_iload_n hx hb dX4_paidSet_17 rfl (lv_at hl 2 rfl) ?_
      obtain ⟨hi_2, hf⟩ := ix_ex hf
      refine r_ald hx hb hC hP 17 (by decide) rfl hi_2 dX4_paidSet_18 ?_
      refine lv_if_ne (tgt := 28) hx hb dX4_paidSet_19 (by decide) (fun c_3 => ?_) (fun c_3 => ?_)
      · rw [if_neg c_3] at hf
        refine lv_iconst (v := (0 : Int32)) hx hb dX4_paidSet_28 (by decide) ?_
        exact w_29 (f_X4_paidSet_4 n) ih x2 (0 : Int32) x1 _ _ _ hP hS (lv_sub hl [0, 2] rfl) hf
      rw [if_pos c_3] at hf
      refine lv_iconst (v := (1 : Int32)) hx hb dX4_paidSet_22 (by decide) ?_
      refine lv_iload_n hx hb dX4_paidSet_23 rfl (lv_at hl 2 rfl) ?_
      refine lv_ishl hx hb dX4_paidSet_24 ?_
      refine lv_goto (tgt := 29) hx hb dX4_paidSet_25 (by decide) ?_
      exact w_29 (f_X4_paidSet_4 n) ih x2 ((1 : Int32) <<< (x2 &&& (31 : Int32))) x1 _ _ _ hP hS (lv_sub hl [0, 2] rfl) hf
  unfold f_X4_paidSet at hf
  refine lv_iconst (v := (0 : Int32)) hx hb dX4_paidSet_0 (by decide) ?_
  refine lv_istore_n (lv' := [(1, .int (0 : Int32)), (0, .ref (aD g 11))]) hx hb dX4_paidSet_1 rfl hl (by decide) rfl (fun ls hl => ?_)
  refine lv_iconst (v := (0 : Int32)) hx hb dX4_paidSet_2 (by decide) ?_
  refine lv_istore_n (lv' := [(2, .int (0 : Int32)), (1, .int (0 : Int32)), (0, .ref (aD g 11))]) hx hb dX4_paidSet_3 rfl hl (by decide) rfl (fun ls hl => ?_)
  exact w_4 fu (0 : Int32) (0 : Int32) _ _ _ hP hS (lv_sub hl [2, 1, 0] rfl) hf
set_option maxHeartbeats 4000000 in
set_option maxRecDepth 100000 in
theorem c_X3_howMany (l : Launch) (g : GG) (b nr : Nat) (hsh : shf b nr) (u : UU) {r : Int32} (hf : f_X3_howMany b nr u = some r) : Ci l g 0 55 yX3_howMany wsX3_howMany 3 63 [.ref (aD g b)] u r u := by
  refine ct_i (cc := cX3_howMany) (maxL := 3) (by decide) rfl (Nat.le_of_ble_eq_true rfl) ?_
  intro p e s m args below meth c R Q ls hx hb hml hown hts hC hP hl hRf hRl kret hS
  have hown : s.vm.findClass RX3 = some m.cls := hown
  have hl : lv_has ls 3 [(0, .ref (aD g b))] := hl
  have hinX3 : ∀ w ∈ u_ws RX3 TX3 3, w ∈ wsX3_howMany := by decide +kernel
  have w_27 : ∀ (k_4 : Int32 → Int32 → UU → Option Int32) (K_4 : ∀ (x1 : Int32) (x2 : Int32) (H : Heap) (locs : List Loc) (ls : Array Slot), Ps g 0 55 u H → va_S (aA g) s.heap H locs → lv_has ls 3 [(0, .ref (aD g b)), (1, .int x1), (2, .int x2)] → k_4 x1 x2 u = some r → W p l e R s m args below meth c H locs 0 0 Q (F0 m 4 ls [])), ∀ (x2 : Int32) (t0 : Int32) (t1 : Int32) (H : Heap) (locs : List Loc) (ls : Array Slot), Ps g 0 55 u H → va_S (aA g) s.heap H locs → lv_has ls 3 [(0, .ref (aD g b)), (2, .int x2)] → f_X3_howMany_27 b nr k_4 x2 t0 t1 u = some r → W p l e R s m args below meth c H locs 0 0 Q (F0 m 27 ls [.int t0, .int t1]) := by
    intro k_4 K_4
    intro x2 t0 t1 H locs ls hP hS hl hf
    unfold f_X3_howMany_27 at hf
    refine lv_iadd hx hb dX3_howMany_27 ?_
    obtain ⟨x1_4, ex1_4, hf⟩ := lt_ex hf
    refine r_nm ex1_4 ?_
    refine lv_istore_n (lv' := [(1, .int x1_4), (0, .ref (aD g b)), (2, .int x2)]) hx hb dX3_howMany_28 rfl hl (by decide) rfl (fun ls hl => ?_)
    obtain ⟨x2_5, ex2_5, hf⟩ := lt_ex hf
    refine lv_iinc (v := x2_5) (lv' := [(2, .int x2_5), (1, .int x1_4), (0, .ref (aD g b))]) hx hb dX3_howMany_29 hl (k := 2) rfl (by rw [ex2_5]; rfl) (by decide) rfl (fun ls hl => ?_)
    refine lv_goto (tgt := 4) hx hb dX3_howMany_32 (by decide) ?_
    exact K_4 x1_4 x2_5 _ _ _ hP hS (lv_sub hl [2, 1, 0] rfl) hf
  have w_4 : ∀ (n : Nat), ∀ (x1 : Int32) (x2 : Int32) (H : Heap) (locs : List Loc) (ls : Array Slot), Ps g 0 55 u H → va_S (aA g) s.heap H locs → lv_has ls 3 [(0, .ref (aD g b)), (1, .int x1), (2, .int x2)] → f_X3_howMany_4 b nr n x1 x2 u = some r → W p l e R s m args below meth c H locs 0 0 Q (F0 m 4 ls []) := by
    intro n
    induction n with
    | zero =>
      intro x1 x2 H locs ls hP hS hl hf
      rw [f_X3_howMany_4] at hf
      cases hf
    | succ n ih =>
      intro x1 x2 H locs ls hP hS hl hf
      rw [f_X3_howMany_4] at hf
      refine lv_iload_n hx hb dX3_howMany_4 rfl (lv_at hl 2 rfl) ?_
      refine lv_aload_n hx hb dX3_howMany_5 rfl (lv_at hl 0 rfl) ?_
      refine r_get hx hb hts hown hC hP hinX3 b (shf_k0 hsh) (ci := 2) (shf_o hsh) (by decide) rfl 1 (by decide) (hts (.fieldLink RX3 19 "LoafParts$Shelf" "sizes" "[I") (by decide +kernel)) (v := .ref (aD g (b + 1))) rfl dX3_howMany_6 ?_
      refine r_alen hx hb hC hP (b + 1) (shf_k1 hsh) (shf_1 hsh) (v := (Int32.ofNat nr)) rfl dX3_howMany_9 ?_
      refine lv_icmp_ge (tgt := 35) hx hb dX3_howMany_10 (by decide) (fun c_1 => ?_) (fun c_1 => ?_)
      · rw [if_pos c_1] at hf
        refine lv_iload_n hx hb dX3_howMany_35 rfl (lv_at hl 1 rfl) ?_
        obtain rfl := sp1 hf
        exact kret _ _ _ _ dX3_howMany_36 hP hS trivial
      rw [if_neg c_1] at hf
      refine lv_iload_n hx hb dX3_howMany_13 rfl (lv_at hl 1 rfl) ?_
      refine lv_aload_n hx hb dX3_howMany_14 rfl (lv_at hl 0 rfl) ?_
      refine lv_iload_n hx hb dX3_howMany_15 rfl (lv_at hl 2 rfl) ?_
      obtain ⟨q_2, hq_2, hf⟩ := bind_ex hf
      refine r_Vi (As := [.int x2]) (rest := [.int x1]) (k := b) (ci := 2) ⟨hx, hb, hml, hown, hts⟩ hC hP hS (shf_k0 hsh) (shf_o hsh) (by decide) rfl (c_X3_isThere l g b nr hsh u x2 hq_2) (cwV 1 hts gX3_howMany_X3_isThere rfl rfl rfl (by decide +kernel) ⟨(Nat.le_trans (Nat.le_of_ble_eq_true rfl) hRf), (Nat.le_trans (Nat.le_of_ble_eq_true rfl) hRl)⟩) rfl hl.1 rfl (Nat.le_of_ble_eq_true rfl) dX3_howMany_16 (fun H locs hP hS => ?_)
      refine lv_if_eq (tgt := 26) hx hb dX3_howMany_19 (by decide) (fun c_3 => ?_) (fun c_3 => ?_)
      · rw [if_pos c_3] at hf
        refine lv_iconst (v := (0 : Int32)) hx hb dX3_howMany_26 (by decide) ?_
        exact w_27 (f_X3_howMany_4 b nr n) ih x2 (0 : Int32) x1 _ _ _ hP hS (lv_sub hl [0, 2] rfl) hf
      rw [if_neg c_3] at hf
      refine lv_iconst (v := (1 : Int32)) hx hb dX3_howMany_22 (by decide) ?_
      refine lv_goto (tgt := 27) hx hb dX3_howMany_23 (by decide) ?_
      exact w_27 (f_X3_howMany_4 b nr n) ih x2 (1 : Int32) x1 _ _ _ hP hS (lv_sub hl [0, 2] rfl) hf
  unfold f_X3_howMany at hf
  refine lv_iconst (v := (0 : Int32)) hx hb dX3_howMany_0 (by decide) ?_
  refine lv_istore_n (lv' := [(1, .int (0 : Int32)), (0, .ref (aD g b))]) hx hb dX3_howMany_1 rfl hl (by decide) rfl (fun ls hl => ?_)
  refine lv_iconst (v := (0 : Int32)) hx hb dX3_howMany_2 (by decide) ?_
  refine lv_istore_n (lv' := [(2, .int (0 : Int32)), (1, .int (0 : Int32)), (0, .ref (aD g b))]) hx hb dX3_howMany_3 rfl hl (by decide) rfl (fun ls hl => ?_)
  exact w_4 fu (0 : Int32) (0 : Int32) _ _ _ hP hS (lv_sub hl [2, 1, 0] rfl) hf
set_option maxHeartbeats 4000000 in
set_option maxRecDepth 100000 in
theorem c_X5_keptTables (l : Launch) (g : GG) (u : UU) {r : Int32} (hf : f_X5_keptTables u = some r) : Ci l g 0 55 yX5_keptTables wsX5_keptTables 0 0 [.ref (aD g 0)] u r u := by
  refine ct_i (cc := cX5_keptTables) (maxL := 3) (by decide) rfl (Nat.le_of_ble_eq_true rfl) ?_
  intro p e s m args below meth c R Q ls hx hb hml hown hts hC hP hl hRf hRl kret hS
  have hown : s.vm.findClass RX5 = some m.cls := hown
  have hl : lv_has ls 3 [(0, .ref (aD g 0))] := hl
  have hinX4 : ∀ w ∈ u_ws RX4 TX4 13, w ∈ wsX5_keptTables := by decide +kernel
  have hinX5 : ∀ w ∈ u_ws RX5 TX5 12, w ∈ wsX5_keptTables := by decide +kernel
  have w_27 : ∀ (k_4 : Int32 → Int32 → UU → Option Int32) (K_4 : ∀ (x1 : Int32) (x2 : Int32) (H : Heap) (locs : List Loc) (ls : Array Slot), Ps g 0 55 u H → va_S (aA g) s.heap H locs → lv_has ls 3 [(0, .ref (aD g 0)), (1, .int x1), (2, .int x2)] → k_4 x1 x2 u = some r → W p l e R s m args below meth c H locs 0 0 Q (F0 m 4 ls [])), ∀ (x2 : Int32) (t0 : Int32) (t1 : Int32) (H : Heap) (locs : List Loc) (ls : Array Slot), Ps g 0 55 u H → va_S (aA g) s.heap H locs → lv_has ls 3 [(0, .ref (aD g 0)), (2, .int x2)] → f_X5_keptTables_27 k_4 x2 t0 t1 u = some r → W p l e R s m args below meth c H locs 0 0 Q (F0 m 27 ls [.int t0, .int t1]) := by
    intro k_4 K_4
    intro x2 t0 t1 H locs ls hP hS hl hf
    unfold f_X5_keptTables_27 at hf
    refine lv_iadd hx hb dX5_keptTables_27 ?_
    obtain ⟨x1_4, ex1_4, hf⟩ := lt_ex hf
    refine r_nm ex1_4 ?_
    refine lv_istore_n (lv' := [(1, .int x1_4), (0, .ref (aD g 0)), (2, .int x2)]) hx hb dX5_keptTables_28 rfl hl (by decide) rfl (fun ls hl => ?_)
    obtain ⟨x2_5, ex2_5, hf⟩ := lt_ex hf
    refine lv_iinc (v := x2_5) (lv' := [(2, .int x2_5), (1, .int x1_4), (0, .ref (aD g 0))]) hx hb dX5_keptTables_29 hl (k := 2) rfl (by rw [ex2_5]; rfl) (by decide) rfl (fun ls hl => ?_)
    refine lv_goto (tgt := 4) hx hb dX5_keptTables_32 (by decide) ?_
    exact K_4 x1_4 x2_5 _ _ _ hP hS (lv_sub hl [2, 1, 0] rfl) hf
  have w_4 : ∀ (n : Nat), ∀ (x1 : Int32) (x2 : Int32) (H : Heap) (locs : List Loc) (ls : Array Slot), Ps g 0 55 u H → va_S (aA g) s.heap H locs → lv_has ls 3 [(0, .ref (aD g 0)), (1, .int x1), (2, .int x2)] → f_X5_keptTables_4 n x1 x2 u = some r → W p l e R s m args below meth c H locs 0 0 Q (F0 m 4 ls []) := by
    intro n
    induction n with
    | zero =>
      intro x1 x2 H locs ls hP hS hl hf
      rw [f_X5_keptTables_4] at hf
      cases hf
    | succ n ih =>
      intro x1 x2 H locs ls hP hS hl hf
      rw [f_X5_keptTables_4] at hf
      refine lv_iload_n hx hb dX5_keptTables_4 rfl (lv_at hl 2 rfl) ?_
      refine lv_iconst (v := (3 : Int32)) hx hb dX5_keptTables_5 (by decide) ?_
      refine lv_icmp_ge (tgt := 35) hx hb dX5_keptTables_6 (by decide) (fun c_1 => ?_) (fun c_1 => ?_)
      · rw [if_pos c_1] at hf
        refine lv_iload_n hx hb dX5_keptTables_35 rfl (lv_at hl 1 rfl) ?_
        obtain rfl := sp1 hf
        exact kret _ _ _ _ dX5_keptTables_36 hP hS trivial
      rw [if_neg c_1] at hf
      refine lv_iload_n hx hb dX5_keptTables_9 rfl (lv_at hl 1 rfl) ?_
      refine lv_aload_n hx hb dX5_keptTables_10 rfl (lv_at hl 0 rfl) ?_
      refine r_get hx hb hts hown hC hP hinX5 0 (by decide) (ci := 4) rfl (by decide) rfl 4 (by decide) (hts (.fieldLink RX5 35 "LoafParts" "kept" "[LLoafParts$Table;") (by decide +kernel)) (v := .ref (aD g 21)) rfl dX5_keptTables_11 ?_
      refine lv_iload_n hx hb dX5_keptTables_14 rfl (lv_at hl 2 rfl) ?_
      obtain ⟨hi_2, hf⟩ := ix_ex hf
      refine r_aldq hx hb hC hP 21 (by decide) rfl hi_2 dX5_keptTables_15 ?_
      refine r_getN hx hb hts hown hC hP hinX4 (22 + 10 * (x2 : Int32).toNatClampNeg) (tab_k0 (tab_kept hi_2)) (ci := 3) (tab_0 (tab_kept hi_2)) (by decide) rfl 0 (by decide) 0 rfl (v := .int (ui u (22 + 10 * (x2 : Int32).toNatClampNeg) 0)) rfl dX5_keptTables_16 ?_
      refine lv_if_le (tgt := 26) hx hb dX5_keptTables_19 (by decide) (fun c_3 => ?_) (fun c_3 => ?_)
      · rw [if_pos c_3] at hf
        refine lv_iconst (v := (0 : Int32)) hx hb dX5_keptTables_26 (by decide) ?_
        exact w_27 (f_X5_keptTables_4 n) ih x2 (0 : Int32) x1 _ _ _ hP hS (lv_sub hl [0, 2] rfl) hf
      rw [if_neg c_3] at hf
      refine lv_iconst (v := (1 : Int32)) hx hb dX5_keptTables_22 (by decide) ?_
      refine lv_goto (tgt := 27) hx hb dX5_keptTables_23 (by decide) ?_
      exact w_27 (f_X5_keptTables_4 n) ih x2 (1 : Int32) x1 _ _ _ hP hS (lv_sub hl [0, 2] rfl) hf
  unfold f_X5_keptTables at hf
  refine lv_iconst (v := (0 : Int32)) hx hb dX5_keptTables_0 (by decide) ?_
  refine lv_istore_n (lv' := [(1, .int (0 : Int32)), (0, .ref (aD g 0))]) hx hb dX5_keptTables_1 rfl hl (by decide) rfl (fun ls hl => ?_)
  refine lv_iconst (v := (0 : Int32)) hx hb dX5_keptTables_2 (by decide) ?_
  refine lv_istore_n (lv' := [(2, .int (0 : Int32)), (1, .int (0 : Int32)), (0, .ref (aD g 0))]) hx hb dX5_keptTables_3 rfl hl (by decide) rfl (fun ls hl => ?_)
  exact w_4 fu (0 : Int32) (0 : Int32) _ _ _ hP hS (lv_sub hl [2, 1, 0] rfl) hf
set_option maxHeartbeats 4000000 in
set_option maxRecDepth 100000 in
theorem c_X4_howManyOf (l : Launch) (g : GG) (u : UU) (x1 : Int32) {r : Int32} (hf : f_X4_howManyOf x1 u = some r) : Ci l g 0 55 yX4_howManyOf wsX4_howManyOf 1 21 [.ref (aD g 11), .int x1] u r u := by
  refine ct_i (cc := cX4_howManyOf) (maxL := 4) (by decide) rfl (Nat.le_of_ble_eq_true rfl) ?_
  intro p e s m args below meth c R Q ls hx hb hml hown hts hC hP hl hRf hRl kret hS
  have hown : s.vm.findClass RX4 = some m.cls := hown
  have hl : lv_has ls 4 [(0, .ref (aD g 11)), (1, .int x1)] := hl
  have hinX4 : ∀ w ∈ u_ws RX4 TX4 13, w ∈ wsX4_howManyOf := by decide +kernel
  have w_31 : ∀ (k_4 : Int32 → Int32 → Int32 → UU → Option Int32) (K_4 : ∀ (x1 : Int32) (x2 : Int32) (x3 : Int32) (H : Heap) (locs : List Loc) (ls : Array Slot), Ps g 0 55 u H → va_S (aA g) s.heap H locs → lv_has ls 4 [(0, .ref (aD g 11)), (1, .int x1), (2, .int x2), (3, .int x3)] → k_4 x1 x2 x3 u = some r → W p l e R s m args below meth c H locs 0 0 Q (F0 m 4 ls [])), ∀ (x1 : Int32) (x3 : Int32) (t0 : Int32) (t1 : Int32) (H : Heap) (locs : List Loc) (ls : Array Slot), Ps g 0 55 u H → va_S (aA g) s.heap H locs → lv_has ls 4 [(0, .ref (aD g 11)), (1, .int x1), (3, .int x3)] → f_X4_howManyOf_31 k_4 x1 x3 t0 t1 u = some r → W p l e R s m args below meth c H locs 0 0 Q (F0 m 31 ls [.int t0, .int t1]) := by
    intro k_4 K_4
    intro x1 x3 t0 t1 H locs ls hP hS hl hf
    unfold f_X4_howManyOf_31 at hf
    refine lv_iadd hx hb dX4_howManyOf_31 ?_
    obtain ⟨x2_4, ex2_4, hf⟩ := lt_ex hf
    refine r_nm ex2_4 ?_
    refine lv_istore_n (lv' := [(2, .int x2_4), (0, .ref (aD g 11)), (1, .int x1), (3, .int x3)]) hx hb dX4_howManyOf_32 rfl hl (by decide) rfl (fun ls hl => ?_)
    obtain ⟨x3_5, ex3_5, hf⟩ := lt_ex hf
    refine lv_iinc (v := x3_5) (lv' := [(3, .int x3_5), (2, .int x2_4), (0, .ref (aD g 11)), (1, .int x1)]) hx hb dX4_howManyOf_33 hl (k := 3) rfl (by rw [ex3_5]; rfl) (by decide) rfl (fun ls hl => ?_)
    refine lv_goto (tgt := 4) hx hb dX4_howManyOf_36 (by decide) ?_
    exact K_4 x1 x2_4 x3_5 _ _ _ hP hS (lv_sub hl [2, 3, 1, 0] rfl) hf
  have w_4 : ∀ (n : Nat), ∀ (x1 : Int32) (x2 : Int32) (x3 : Int32) (H : Heap) (locs : List Loc) (ls : Array Slot), Ps g 0 55 u H → va_S (aA g) s.heap H locs → lv_has ls 4 [(0, .ref (aD g 11)), (1, .int x1), (2, .int x2), (3, .int x3)] → f_X4_howManyOf_4 n x1 x2 x3 u = some r → W p l e R s m args below meth c H locs 0 0 Q (F0 m 4 ls []) := by
    intro n
    induction n with
    | zero =>
      intro x1 x2 x3 H locs ls hP hS hl hf
      rw [f_X4_howManyOf_4] at hf
      cases hf
    | succ n ih =>
      intro x1 x2 x3 H locs ls hP hS hl hf
      rw [f_X4_howManyOf_4] at hf
      refine lv_iload_n hx hb dX4_howManyOf_4 rfl (lv_at hl 3 rfl) ?_
      refine lv_aload_n hx hb dX4_howManyOf_5 rfl (lv_at hl 0 rfl) ?_
      refine r_get hx hb hts hown hC hP hinX4 11 (by decide) (ci := 3) rfl (by decide) rfl 0 (by decide) (hts (.fieldLink RX4 39 "LoafParts$Table" "workers" "I") (by decide +kernel)) (v := .int (ui u 11 0)) rfl dX4_howManyOf_6 ?_
      refine lv_icmp_ge (tgt := 39) hx hb dX4_howManyOf_9 (by decide) (fun c_1 => ?_) (fun c_1 => ?_)
      · rw [if_pos c_1] at hf
        refine lv_iload_n hx hb dX4_howManyOf_39 rfl (lv_at hl 2 rfl) ?_
        obtain rfl := sp1 hf
        exact kret _ _ _ _ dX4_howManyOf_40 hP hS trivial
      rw [if_neg c_1] at hf
      refine lv_iload_n hx hb dX4_howManyOf_12 rfl (lv_at hl 2 rfl) ?_
      refine lv_aload_n hx hb dX4_howManyOf_13 rfl (lv_at hl 0 rfl) ?_
      refine r_get hx hb hts hown hC hP hinX4 11 (by decide) (ci := 3) rfl (by decide) rfl 5 (by decide) (hts (.fieldLink RX4 15 "LoafParts$Table" "kind" "[I") (by decide +kernel)) (v := .ref (aD g 13)) rfl dX4_howManyOf_14 ?_
      refine lv_iload_n hx hb dX4_howManyOf_17 rfl (lv_at hl 3 rfl) ?_
      obtain ⟨hi_2, hf⟩ := ix_ex hf
      refine r_ald hx hb hC hP 13 (by decide) rfl hi_2 dX4_howManyOf_18 ?_
      refine lv_iload_n hx hb dX4_howManyOf_19 rfl (lv_at hl 1 rfl) ?_
      refine r_Si (As := [.int (ui u 13 (x3 : Int32).toNatClampNeg), .int x1]) (rest := [.int x2]) ⟨hx, hb, hml, hown, hts⟩ hC hP hS (c_X0_isOf l g u (ui u 13 (x3 : Int32).toNatClampNeg) x1 rfl) (va_cwS 2 hts gX4_howManyOf_X0_isOf rfl rfl rfl (by decide +kernel) ⟨(Nat.le_trans (Nat.le_of_ble_eq_true rfl) hRf), (Nat.le_trans (Nat.le_of_ble_eq_true rfl) hRl)⟩) rfl hl.1 rfl (Nat.le_of_ble_eq_true rfl) dX4_howManyOf_20 (fun H locs hP hS => ?_)
      refine lv_if_eq (tgt := 30) hx hb dX4_howManyOf_23 (by decide) (fun c_3 => ?_) (fun c_3 => ?_)
      · rw [if_pos c_3] at hf
        refine lv_iconst (v := (0 : Int32)) hx hb dX4_howManyOf_30 (by decide) ?_
        exact w_31 (f_X4_howManyOf_4 n) ih x1 x3 (0 : Int32) x2 _ _ _ hP hS (lv_sub hl [0, 1, 3] rfl) hf
      rw [if_neg c_3] at hf
      refine lv_iconst (v := (1 : Int32)) hx hb dX4_howManyOf_26 (by decide) ?_
      refine lv_goto (tgt := 31) hx hb dX4_howManyOf_27 (by decide) ?_
      exact w_31 (f_X4_howManyOf_4 n) ih x1 x3 (1 : Int32) x2 _ _ _ hP hS (lv_sub hl [0, 1, 3] rfl) hf
  unfold f_X4_howManyOf at hf
  refine lv_iconst (v := (0 : Int32)) hx hb dX4_howManyOf_0 (by decide) ?_
  refine lv_istore_n (lv' := [(2, .int (0 : Int32)), (0, .ref (aD g 11)), (1, .int x1)]) hx hb dX4_howManyOf_1 rfl hl (by decide) rfl (fun ls hl => ?_)
  refine lv_iconst (v := (0 : Int32)) hx hb dX4_howManyOf_2 (by decide) ?_
  refine lv_istore_n (lv' := [(3, .int (0 : Int32)), (2, .int (0 : Int32)), (0, .ref (aD g 11)), (1, .int x1)]) hx hb dX4_howManyOf_3 rfl hl (by decide) rfl (fun ls hl => ?_)
  exact w_4 fu x1 (0 : Int32) (0 : Int32) _ _ _ hP hS (lv_sub hl [2, 3, 1, 0] rfl) hf
set_option maxHeartbeats 4000000 in
set_option maxRecDepth 100000 in
theorem c_X5_count (l : Launch) (g : GG) (u : UU) (x1 : Int32) {r : Int32} (hf : f_X5_count x1 u = some r) : Ci l g 0 55 yX5_count wsX5_count 4 85 [.ref (aD g 0), .int x1] u r u := by
  refine ct_i (cc := cX5_count) (maxL := 2) (by decide) rfl (Nat.le_of_ble_eq_true rfl) ?_
  intro p e s m args below meth c R Q ls hx hb hml hown hts hC hP hl hRf hRl kret hS
  have hown : s.vm.findClass RX5 = some m.cls := hown
  have hl : lv_has ls 2 [(0, .ref (aD g 0)), (1, .int x1)] := hl
  have hinX4 : ∀ w ∈ u_ws RX4 TX4 13, w ∈ wsX5_count := by decide +kernel
  have hinX5 : ∀ w ∈ u_ws RX5 TX5 12, w ∈ wsX5_count := by decide +kernel
  unfold f_X5_count at hf
  refine lv_iload_n hx hb dX5_count_0 rfl (lv_at hl 1 rfl) ?_
  by_cases s_1 : x1 = (0 : Int32)
  · rw [if_pos s_1] at hf
    refine r_tin (tgt := 64) hx hb (0 : Int32) 63 s_1 dX5_count_1 (by decide) ?_
    refine lv_aload_n hx hb dX5_count_64 rfl (lv_at hl 0 rfl) ?_
    refine r_get hx hb hts hown hC hP hinX5 0 (by decide) (ci := 4) rfl (by decide) rfl 3 (by decide) (hts (.fieldLink RX5 31 "LoafParts" "table" "LLoafParts$Table;") (by decide +kernel)) (v := .ref (aD g 11)) rfl dX5_count_65 ?_
    refine r_getN hx hb hts hown hC hP hinX4 11 (by decide) (ci := 3) rfl (by decide) rfl 0 (by decide) 0 rfl (v := .int (ui u 11 0)) rfl dX5_count_68 ?_
    obtain rfl := sp1 hf
    exact kret _ _ _ _ dX5_count_71 hP hS trivial
  rw [if_neg s_1] at hf
  by_cases s_2 : x1 = (1 : Int32)
  · rw [if_pos s_2] at hf
    refine r_tin (tgt := 72) hx hb (1 : Int32) 71 s_2 dX5_count_1 (by decide) ?_
    refine lv_aload_n hx hb dX5_count_72 rfl (lv_at hl 0 rfl) ?_
    refine r_get hx hb hts hown hC hP hinX5 0 (by decide) (ci := 4) rfl (by decide) rfl 3 (by decide) (hts (.fieldLink RX5 31 "LoafParts" "table" "LLoafParts$Table;") (by decide +kernel)) (v := .ref (aD g 11)) rfl dX5_count_73 ?_
    refine r_getN hx hb hts hown hC hP hinX4 11 (by decide) (ci := 3) rfl (by decide) rfl 1 (by decide) 5 rfl (v := .int (ui u 11 1)) rfl dX5_count_76 ?_
    obtain rfl := sp1 hf
    exact kret _ _ _ _ dX5_count_79 hP hS trivial
  rw [if_neg s_2] at hf
  by_cases s_3 : x1 = (2 : Int32)
  · rw [if_pos s_3] at hf
    refine r_tin (tgt := 80) hx hb (2 : Int32) 79 s_3 dX5_count_1 (by decide) ?_
    refine lv_aload_n hx hb dX5_count_80 rfl (lv_at hl 0 rfl) ?_
    refine r_get hx hb hts hown hC hP hinX5 0 (by decide) (ci := 4) rfl (by decide) rfl 3 (by decide) (hts (.fieldLink RX5 31 "LoafParts" "table" "LLoafParts$Table;") (by decide +kernel)) (v := .ref (aD g 11)) rfl dX5_count_81 ?_
    refine r_getN hx hb hts hown hC hP hinX4 11 (by decide) (ci := 3) rfl (by decide) rfl 2 (by decide) 6 rfl (v := .int (ui u 11 2)) rfl dX5_count_84 ?_
    obtain rfl := sp1 hf
    exact kret _ _ _ _ dX5_count_87 hP hS trivial
  rw [if_neg s_3] at hf
  by_cases s_4 : x1 = (3 : Int32)
  · rw [if_pos s_4] at hf
    refine r_tin (tgt := 88) hx hb (3 : Int32) 87 s_4 dX5_count_1 (by decide) ?_
    refine lv_aload_n hx hb dX5_count_88 rfl (lv_at hl 0 rfl) ?_
    refine r_get hx hb hts hown hC hP hinX5 0 (by decide) (ci := 4) rfl (by decide) rfl 3 (by decide) (hts (.fieldLink RX5 31 "LoafParts" "table" "LLoafParts$Table;") (by decide +kernel)) (v := .ref (aD g 11)) rfl dX5_count_89 ?_
    obtain ⟨q_5, hq_5, hf⟩ := bind_ex hf
    refine r_Vi (As := []) (rest := []) (k := 11) (ci := 3) ⟨hx, hb, hml, hown, hts⟩ hC hP hS (by decide) rfl (by decide) rfl (c_X4_lyingInAll l g u hq_5) (cwV 0 hts gX5_count_X4_lyingInAll rfl rfl rfl (by decide +kernel) ⟨(Nat.le_trans (Nat.le_of_ble_eq_true rfl) hRf), (Nat.le_trans (Nat.le_of_ble_eq_true rfl) hRl)⟩) rfl hl.1 rfl (Nat.le_of_ble_eq_true rfl) dX5_count_92 (fun H locs hP hS => ?_)
    obtain rfl := sp1 hf
    exact kret _ _ _ _ dX5_count_95 hP hS trivial
  rw [if_neg s_4] at hf
  by_cases s_6 : x1 = (4 : Int32)
  · rw [if_pos s_6] at hf
    refine r_tin (tgt := 96) hx hb (4 : Int32) 95 s_6 dX5_count_1 (by decide) ?_
    refine lv_aload_n hx hb dX5_count_96 rfl (lv_at hl 0 rfl) ?_
    refine r_get hx hb hts hown hC hP hinX5 0 (by decide) (ci := 4) rfl (by decide) rfl 3 (by decide) (hts (.fieldLink RX5 31 "LoafParts" "table" "LLoafParts$Table;") (by decide +kernel)) (v := .ref (aD g 11)) rfl dX5_count_97 ?_
    obtain ⟨q_7, hq_7, hf⟩ := bind_ex hf
    refine r_Vi (As := []) (rest := []) (k := 11) (ci := 3) ⟨hx, hb, hml, hown, hts⟩ hC hP hS (by decide) rfl (by decide) rfl (c_X4_hadInAll l g u hq_7) (cwV 0 hts gX5_count_X4_hadInAll rfl rfl rfl (by decide +kernel) ⟨(Nat.le_trans (Nat.le_of_ble_eq_true rfl) hRf), (Nat.le_trans (Nat.le_of_ble_eq_true rfl) hRl)⟩) rfl hl.1 rfl (Nat.le_of_ble_eq_true rfl) dX5_count_100 (fun H locs hP hS => ?_)
    obtain rfl := sp1 hf
    exact kret _ _ _ _ dX5_count_103 hP hS trivial
  rw [if_neg s_6] at hf
  by_cases s_8 : x1 = (5 : Int32)
  · rw [if_pos s_8] at hf
    refine r_tin (tgt := 104) hx hb (5 : Int32) 103 s_8 dX5_count_1 (by decide) ?_
    refine lv_aload_n hx hb dX5_count_104 rfl (lv_at hl 0 rfl) ?_
    refine r_get hx hb hts hown hC hP hinX5 0 (by decide) (ci := 4) rfl (by decide) rfl 3 (by decide) (hts (.fieldLink RX5 31 "LoafParts" "table" "LLoafParts$Table;") (by decide +kernel)) (v := .ref (aD g 11)) rfl dX5_count_105 ?_
    obtain ⟨q_9, hq_9, hf⟩ := bind_ex hf
    refine r_Vi (As := []) (rest := []) (k := 11) (ci := 3) ⟨hx, hb, hml, hown, hts⟩ hC hP hS (by decide) rfl (by decide) rfl (c_X4_paidSet l g u hq_9) (cwV 0 hts gX5_count_X4_paidSet rfl rfl rfl (by decide +kernel) ⟨(Nat.le_trans (Nat.le_of_ble_eq_true rfl) hRf), (Nat.le_trans (Nat.le_of_ble_eq_true rfl) hRl)⟩) rfl hl.1 rfl (Nat.le_of_ble_eq_true rfl) dX5_count_108 (fun H locs hP hS => ?_)
    obtain rfl := sp1 hf
    exact kret _ _ _ _ dX5_count_111 hP hS trivial
  rw [if_neg s_8] at hf
  by_cases s_10 : x1 = (6 : Int32)
  · rw [if_pos s_10] at hf
    refine r_tin (tgt := 112) hx hb (6 : Int32) 111 s_10 dX5_count_1 (by decide) ?_
    refine lv_aload_n hx hb dX5_count_112 rfl (lv_at hl 0 rfl) ?_
    refine r_get hx hb hts hown hC hP hinX5 0 (by decide) (ci := 4) rfl (by decide) rfl 3 (by decide) (hts (.fieldLink RX5 31 "LoafParts" "table" "LLoafParts$Table;") (by decide +kernel)) (v := .ref (aD g 11)) rfl dX5_count_113 ?_
    refine r_getN hx hb hts hown hC hP hinX4 11 (by decide) (ci := 3) rfl (by decide) rfl 4 (by decide) 2 rfl (v := .int (ui u 11 4)) rfl dX5_count_116 ?_
    obtain rfl := sp1 hf
    exact kret _ _ _ _ dX5_count_119 hP hS trivial
  rw [if_neg s_10] at hf
  by_cases s_11 : x1 = (7 : Int32)
  · rw [if_pos s_11] at hf
    refine r_tin (tgt := 120) hx hb (7 : Int32) 119 s_11 dX5_count_1 (by decide) ?_
    refine lv_aload_n hx hb dX5_count_120 rfl (lv_at hl 0 rfl) ?_
    refine r_get hx hb hts hown hC hP hinX5 0 (by decide) (ci := 4) rfl (by decide) rfl 0 (by decide) (hts (.fieldLink RX5 14 "LoafParts" "rows" "LLoafParts$Shelf;") (by decide +kernel)) (v := .ref (aD g 1)) rfl dX5_count_121 ?_
    obtain ⟨q_12, hq_12, hf⟩ := bind_ex hf
    refine r_Vi (As := []) (rest := []) (k := 1) (ci := 2) ⟨hx, hb, hml, hown, hts⟩ hC hP hS (by decide) rfl (by decide) rfl (c_X3_howMany l g 1 6 shf_rows u hq_12) (cwV 0 hts gX5_count_X3_howMany rfl rfl rfl (by decide +kernel) ⟨(Nat.le_trans (Nat.le_of_ble_eq_true rfl) hRf), (Nat.le_trans (Nat.le_of_ble_eq_true rfl) hRl)⟩) rfl hl.1 rfl (Nat.le_of_ble_eq_true rfl) dX5_count_124 (fun H locs hP hS => ?_)
    obtain rfl := sp1 hf
    exact kret _ _ _ _ dX5_count_127 hP hS trivial
  rw [if_neg s_11] at hf
  by_cases s_13 : x1 = (8 : Int32)
  · rw [if_pos s_13] at hf
    refine r_tin (tgt := 128) hx hb (8 : Int32) 127 s_13 dX5_count_1 (by decide) ?_
    refine lv_aload_n hx hb dX5_count_128 rfl (lv_at hl 0 rfl) ?_
    refine r_get hx hb hts hown hC hP hinX5 0 (by decide) (ci := 4) rfl (by decide) rfl 1 (by decide) (hts (.fieldLink RX5 18 "LoafParts" "texts" "LLoafParts$Shelf;") (by decide +kernel)) (v := .ref (aD g 4)) rfl dX5_count_129 ?_
    obtain ⟨q_14, hq_14, hf⟩ := bind_ex hf
    refine r_Vi (As := []) (rest := []) (k := 4) (ci := 2) ⟨hx, hb, hml, hown, hts⟩ hC hP hS (by decide) rfl (by decide) rfl (c_X3_howMany l g 4 4 shf_texts u hq_14) (cwV 0 hts gX5_count_X3_howMany rfl rfl rfl (by decide +kernel) ⟨(Nat.le_trans (Nat.le_of_ble_eq_true rfl) hRf), (Nat.le_trans (Nat.le_of_ble_eq_true rfl) hRl)⟩) rfl hl.1 rfl (Nat.le_of_ble_eq_true rfl) dX5_count_132 (fun H locs hP hS => ?_)
    obtain rfl := sp1 hf
    exact kret _ _ _ _ dX5_count_135 hP hS trivial
  rw [if_neg s_13] at hf
  by_cases s_15 : x1 = (9 : Int32)
  · rw [if_pos s_15] at hf
    refine r_tin (tgt := 136) hx hb (9 : Int32) 135 s_15 dX5_count_1 (by decide) ?_
    refine lv_aload_n hx hb dX5_count_136 rfl (lv_at hl 0 rfl) ?_
    obtain ⟨q_16, hq_16, hf⟩ := bind_ex hf
    refine r_Vi (As := []) (rest := []) (k := 0) (ci := 4) ⟨hx, hb, hml, hown, hts⟩ hC hP hS (by decide) rfl (by decide) rfl (c_X5_keptTables l g u hq_16) (cwV 0 hts gX5_count_X5_keptTables rfl rfl rfl (by decide +kernel) ⟨(Nat.le_trans (Nat.le_of_ble_eq_true rfl) hRf), (Nat.le_trans (Nat.le_of_ble_eq_true rfl) hRl)⟩) rfl hl.1 rfl (Nat.le_of_ble_eq_true rfl) dX5_count_137 (fun H locs hP hS => ?_)
    obtain rfl := sp1 hf
    exact kret _ _ _ _ dX5_count_140 hP hS trivial
  rw [if_neg s_15] at hf
  by_cases s_17 : x1 = (10 : Int32)
  · rw [if_pos s_17] at hf
    refine r_tin (tgt := 141) hx hb (10 : Int32) 140 s_17 dX5_count_1 (by decide) ?_
    refine lv_aload_n hx hb dX5_count_141 rfl (lv_at hl 0 rfl) ?_
    refine r_get hx hb hts hown hC hP hinX5 0 (by decide) (ci := 4) rfl (by decide) rfl 3 (by decide) (hts (.fieldLink RX5 31 "LoafParts" "table" "LLoafParts$Table;") (by decide +kernel)) (v := .ref (aD g 11)) rfl dX5_count_142 ?_
    refine lv_iconst (v := (1 : Int32)) hx hb dX5_count_145 (by decide) ?_
    obtain ⟨q_18, hq_18, hf⟩ := bind_ex hf
    refine r_Vi (As := [.int (1 : Int32)]) (rest := []) (k := 11) (ci := 3) ⟨hx, hb, hml, hown, hts⟩ hC hP hS (by decide) rfl (by decide) rfl (c_X4_howManyOf l g u (1 : Int32) hq_18) (cwV 1 hts gX5_count_X4_howManyOf rfl rfl rfl (by decide +kernel) ⟨(Nat.le_trans (Nat.le_of_ble_eq_true rfl) hRf), (Nat.le_trans (Nat.le_of_ble_eq_true rfl) hRl)⟩) rfl hl.1 rfl (Nat.le_of_ble_eq_true rfl) dX5_count_146 (fun H locs hP hS => ?_)
    obtain rfl := sp1 hf
    exact kret _ _ _ _ dX5_count_149 hP hS trivial
  rw [if_neg s_17] at hf
  by_cases s_19 : x1 = (11 : Int32)
  · rw [if_pos s_19] at hf
    refine r_tin (tgt := 150) hx hb (11 : Int32) 149 s_19 dX5_count_1 (by decide) ?_
    refine lv_aload_n hx hb dX5_count_150 rfl (lv_at hl 0 rfl) ?_
    refine r_get hx hb hts hown hC hP hinX5 0 (by decide) (ci := 4) rfl (by decide) rfl 3 (by decide) (hts (.fieldLink RX5 31 "LoafParts" "table" "LLoafParts$Table;") (by decide +kernel)) (v := .ref (aD g 11)) rfl dX5_count_151 ?_
    refine lv_iconst (v := (3 : Int32)) hx hb dX5_count_154 (by decide) ?_
    obtain ⟨q_20, hq_20, hf⟩ := bind_ex hf
    refine r_Vi (As := [.int (3 : Int32)]) (rest := []) (k := 11) (ci := 3) ⟨hx, hb, hml, hown, hts⟩ hC hP hS (by decide) rfl (by decide) rfl (c_X4_howManyOf l g u (3 : Int32) hq_20) (cwV 1 hts gX5_count_X4_howManyOf rfl rfl rfl (by decide +kernel) ⟨(Nat.le_trans (Nat.le_of_ble_eq_true rfl) hRf), (Nat.le_trans (Nat.le_of_ble_eq_true rfl) hRl)⟩) rfl hl.1 rfl (Nat.le_of_ble_eq_true rfl) dX5_count_155 (fun H locs hP hS => ?_)
    obtain rfl := sp1 hf
    exact kret _ _ _ _ dX5_count_158 hP hS trivial
  rw [if_neg s_19] at hf
  refine lv_tableOut (tgt := 159) hx hb dX5_count_1 (tsw_out 0 11 12 [(0 : Int32), (1 : Int32), (2 : Int32), (3 : Int32), (4 : Int32), (5 : Int32), (6 : Int32), (7 : Int32), (8 : Int32), (9 : Int32), (10 : Int32), (11 : Int32)] (by decide) (by decide) (by decide) (List.forall_mem_cons.mpr ⟨s_1, (List.forall_mem_cons.mpr ⟨s_2, (List.forall_mem_cons.mpr ⟨s_3, (List.forall_mem_cons.mpr ⟨s_4, (List.forall_mem_cons.mpr ⟨s_6, (List.forall_mem_cons.mpr ⟨s_8, (List.forall_mem_cons.mpr ⟨s_10, (List.forall_mem_cons.mpr ⟨s_11, (List.forall_mem_cons.mpr ⟨s_13, (List.forall_mem_cons.mpr ⟨s_15, (List.forall_mem_cons.mpr ⟨s_17, (List.forall_mem_cons.mpr ⟨s_19, (fun _ h => absurd h List.not_mem_nil)⟩)⟩)⟩)⟩)⟩)⟩)⟩)⟩)⟩)⟩)⟩)⟩)) (by decide) ?_
  refine lv_iconst (v := (-1 : Int32)) hx hb dX5_count_159 (by decide) ?_
  obtain rfl := sp1 hf
  exact kret _ _ _ _ dX5_count_160 hP hS trivial
set_option maxHeartbeats 4000000 in
set_option maxRecDepth 100000 in
theorem c_X5_finding (l : Launch) (g : GG) (u : UU) {r : Int32} (hf : f_X5_finding u = some r) : Ci l g 0 55 yX5_finding wsX5_finding 0 0 [.ref (aD g 0)] u r u := by
  refine ct_i (cc := cX5_finding) (maxL := 1) (by decide) rfl (Nat.le_of_ble_eq_true rfl) ?_
  intro p e s m args below meth c R Q ls hx hb hml hown hts hC hP hl hRf hRl kret hS
  have hown : s.vm.findClass RX5 = some m.cls := hown
  have hl : lv_has ls 1 [(0, .ref (aD g 0))] := hl
  have hinX5 : ∀ w ∈ u_ws RX5 TX5 12, w ∈ wsX5_finding := by decide +kernel
  unfold f_X5_finding at hf
  refine lv_aload_n hx hb dX5_finding_0 rfl (lv_at hl 0 rfl) ?_
  refine r_get hx hb hts hown hC hP hinX5 0 (by decide) (ci := 4) rfl (by decide) rfl 8 (by decide) (hts (.fieldLink RX5 308 "LoafParts" "latestFinding" "I") (by decide +kernel)) (v := .int (ui u 0 8)) rfl dX5_finding_1 ?_
  obtain rfl := sp1 hf
  exact kret _ _ _ _ dX5_finding_4 hP hS trivial
set_option maxHeartbeats 4000000 in
set_option maxRecDepth 100000 in
theorem c_X5_findings (l : Launch) (g : GG) (u : UU) (x1 : Int32) {r : Int32} (hf : f_X5_findings x1 u = some r) : Ci l g 0 55 yX5_findings wsX5_findings 0 0 [.ref (aD g 0), .int x1] u r u := by
  refine ct_i (cc := cX5_findings) (maxL := 2) (by decide) rfl (Nat.le_of_ble_eq_true rfl) ?_
  intro p e s m args below meth c R Q ls hx hb hml hown hts hC hP hl hRf hRl kret hS
  have hown : s.vm.findClass RX5 = some m.cls := hown
  have hl : lv_has ls 2 [(0, .ref (aD g 0)), (1, .int x1)] := hl
  have hinX5 : ∀ w ∈ u_ws RX5 TX5 12, w ∈ wsX5_findings := by decide +kernel
  have w_10 : ∀ (H : Heap) (locs : List Loc) (ls : Array Slot), Ps g 0 55 u H → va_S (aA g) s.heap H locs → lv_has ls 2 [] → f_X5_findings_10 u = some r → W p l e R s m args below meth c H locs 0 0 Q (F0 m 10 ls []) := by
    intro H locs ls hP hS hl hf
    unfold f_X5_findings_10 at hf
    refine lv_iconst (v := (-1 : Int32)) hx hb dX5_findings_10 (by decide) ?_
    refine lv_goto (tgt := 20) hx hb dX5_findings_11 (by decide) ?_
    obtain rfl := sp1 hf
    exact kret _ _ _ _ dX5_findings_20 hP hS trivial
  unfold f_X5_findings at hf
  refine lv_iload_n hx hb dX5_findings_0 rfl (lv_at hl 1 rfl) ?_
  refine lv_iconst (v := (1 : Int32)) hx hb dX5_findings_1 (by decide) ?_
  refine lv_icmp_lt (tgt := 10) hx hb dX5_findings_2 (by decide) (fun c_1 => ?_) (fun c_1 => ?_)
  · rw [if_pos c_1] at hf
    exact w_10 _ _ _ hP hS (lv_sub hl [] rfl) hf
  rw [if_neg c_1] at hf
  refine lv_iload_n hx hb dX5_findings_5 rfl (lv_at hl 1 rfl) ?_
  refine lv_iconst (v := (5 : Int32)) hx hb dX5_findings_6 (by decide) ?_
  refine lv_icmp_le (tgt := 14) hx hb dX5_findings_7 (by decide) (fun c_2 => ?_) (fun c_2 => ?_)
  · rw [if_pos c_2] at hf
    refine lv_aload_n hx hb dX5_findings_14 rfl (lv_at hl 0 rfl) ?_
    refine r_get hx hb hts hown hC hP hinX5 0 (by decide) (ci := 4) rfl (by decide) rfl 7 (by decide) (hts (.fieldLink RX5 50 "LoafParts" "findingCounts" "[I") (by decide +kernel)) (v := .ref (aD g 54)) rfl dX5_findings_15 ?_
    refine lv_iload_n hx hb dX5_findings_18 rfl (lv_at hl 1 rfl) ?_
    obtain ⟨hi_3, hf⟩ := ix_ex hf
    refine r_ald hx hb hC hP 54 (by decide) rfl hi_3 dX5_findings_19 ?_
    obtain rfl := sp1 hf
    exact kret _ _ _ _ dX5_findings_20 hP hS trivial
  rw [if_neg c_2] at hf
  exact w_10 _ _ _ hP hS (lv_sub hl [] rfl) hf
set_option maxHeartbeats 4000000 in
set_option maxRecDepth 100000 in
theorem c_X3_addTo (l : Launch) (g : GG) (b nr : Nat) (hsh : shf b nr) (u : UU) (x1 : Int64) {r : Int64} (hf : f_X3_addTo b nr x1 u = some r) : Cl l g 0 55 yX3_addTo wsX3_addTo 3 65 [.ref (aD g b), .long x1] u r u := by
  refine ct_l (cc := cX3_addTo) (maxL := 7) (by decide) rfl (Nat.le_of_ble_eq_true rfl) ?_
  intro p e s m args below meth c R Q ls hx hb hml hown hts hC hP hl hRf hRl kret hS
  have hown : s.vm.findClass RX3 = some m.cls := hown
  have hl : lv_has ls 7 [(0, .ref (aD g b)), (1, .long x1)] := hl
  have hinX3 : ∀ w ∈ u_ws RX3 TX3 3, w ∈ wsX3_addTo := by decide +kernel
  have w_33 : ∀ (k_5 : Int64 → Int32 → UU → Option Int64) (K_5 : ∀ (x3 : Int64) (x5 : Int32) (H : Heap) (locs : List Loc) (ls : Array Slot), Ps g 0 55 u H → va_S (aA g) s.heap H locs → lv_has ls 7 [(0, .ref (aD g b)), (3, .long x3), (5, .int x5)] → k_5 x3 x5 u = some r → W p l e R s m args below meth c H locs 0 0 Q (F0 m 5 ls [])) (n : Nat), ∀ (x3 : Int64) (x5 : Int32) (x6 : Int32) (H : Heap) (locs : List Loc) (ls : Array Slot), Ps g 0 55 u H → va_S (aA g) s.heap H locs → lv_has ls 7 [(0, .ref (aD g b)), (3, .long x3), (5, .int x5), (6, .int x6)] → f_X3_addTo_33 b nr k_5 n x3 x5 x6 u = some r → W p l e R s m args below meth c H locs 0 0 Q (F0 m 33 ls []) := by
    intro k_5 K_5 n
    induction n with
    | zero =>
      intro x3 x5 x6 H locs ls hP hS hl hf
      rw [f_X3_addTo_33] at hf
      cases hf
    | succ n ih =>
      intro x3 x5 x6 H locs ls hP hS hl hf
      rw [f_X3_addTo_33] at hf
      refine lv_iload hx hb dX3_addTo_33 (lv_at hl 3 rfl) ?_
      refine lv_aload_n hx hb dX3_addTo_35 rfl (lv_at hl 0 rfl) ?_
      refine r_get hx hb hts hown hC hP hinX3 b (shf_k0 hsh) (ci := 2) (shf_o hsh) (by decide) rfl 1 (by decide) (hts (.fieldLink RX3 19 "LoafParts$Shelf" "sizes" "[I") (by decide +kernel)) (v := .ref (aD g (b + 1))) rfl dX3_addTo_36 ?_
      refine lv_iload hx hb dX3_addTo_39 (lv_at hl 2 rfl) ?_
      obtain ⟨hi_4, hf⟩ := ix_ex hf
      refine r_ald hx hb hC hP (b + 1) (shf_k1 hsh) (shf_1 hsh) hi_4 dX3_addTo_41 ?_
      refine lv_icmp_ge (tgt := 67) hx hb dX3_addTo_42 (by decide) (fun c_5 => ?_) (fun c_5 => ?_)
      · rw [if_pos c_5] at hf
        obtain ⟨x5_6, ex5_6, hf⟩ := lt_ex hf
        refine lv_iinc (v := x5_6) (lv' := [(5, .int x5_6), (0, .ref (aD g b)), (3, .long x3), (6, .int x6)]) hx hb dX3_addTo_67 hl (k := 2) rfl (by rw [ex5_6]; rfl) (by decide) rfl (fun ls hl => ?_)
        refine lv_goto (tgt := 5) hx hb dX3_addTo_70 (by decide) ?_
        exact K_5 x3 x5_6 _ _ _ hP hS (lv_sub hl [1, 2, 0] rfl) hf
      rw [if_neg c_5] at hf
      refine lv_ldc2 (v := (31 : Int64)) hx hb hown (hts (.constantLong RX3 51 (31)) (by decide +kernel)) dX3_addTo_45 ?_
      refine lv_lload_n hx hb dX3_addTo_48 rfl (lv_at hl 1 rfl) ?_
      refine lv_lmul hx hb dX3_addTo_49 ?_
      refine lv_aload_n hx hb dX3_addTo_50 rfl (lv_at hl 0 rfl) ?_
      refine lv_iload hx hb dX3_addTo_51 (lv_at hl 2 rfl) ?_
      refine lv_iload hx hb dX3_addTo_53 (lv_at hl 3 rfl) ?_
      obtain ⟨q_7, hq_7, hf⟩ := bind_ex hf
      refine r_Vi (As := [.int x5, .int x6]) (rest := [.long ((31 : Int64) * x3)]) (k := b) (ci := 2) ⟨hx, hb, hml, hown, hts⟩ hC hP hS (shf_k0 hsh) (shf_o hsh) (by decide) rfl (c_X3_read l g b nr hsh u x5 x6 hq_7) (cwV 2 hts gX3_addTo_X3_read rfl rfl rfl (by decide +kernel) ⟨(Nat.le_trans (Nat.le_of_ble_eq_true rfl) hRf), (Nat.le_trans (Nat.le_of_ble_eq_true rfl) hRl)⟩) rfl hl.1 rfl (Nat.le_of_ble_eq_true rfl) dX3_addTo_55 (fun H locs hP hS => ?_)
      refine lv_i2l hx hb dX3_addTo_58 rfl ?_
      refine lv_ladd hx hb dX3_addTo_59 ?_
      obtain ⟨x3_8, ex3_8, hf⟩ := lt_ex hf
      refine r_nml ex3_8 ?_
      refine lv_lstore_n (lv' := [(3, .long x3_8), (0, .ref (aD g b)), (5, .int x5), (6, .int x6)]) hx hb dX3_addTo_60 rfl hl (by decide) rfl (fun ls hl => ?_)
      obtain ⟨x6_9, ex6_9, hf⟩ := lt_ex hf
      refine lv_iinc (v := x6_9) (lv' := [(6, .int x6_9), (3, .long x3_8), (0, .ref (aD g b)), (5, .int x5)]) hx hb dX3_addTo_61 hl (k := 3) rfl (by rw [ex6_9]; rfl) (by decide) rfl (fun ls hl => ?_)
      refine lv_goto (tgt := 33) hx hb dX3_addTo_64 (by decide) ?_
      exact ih x3_8 x5 x6_9 _ _ _ hP hS (lv_sub hl [2, 1, 3, 0] rfl) hf
  have w_5 : ∀ (n : Nat), ∀ (x3 : Int64) (x5 : Int32) (H : Heap) (locs : List Loc) (ls : Array Slot), Ps g 0 55 u H → va_S (aA g) s.heap H locs → lv_has ls 7 [(0, .ref (aD g b)), (3, .long x3), (5, .int x5)] → f_X3_addTo_5 b nr n x3 x5 u = some r → W p l e R s m args below meth c H locs 0 0 Q (F0 m 5 ls []) := by
    intro n
    induction n with
    | zero =>
      intro x3 x5 H locs ls hP hS hl hf
      rw [f_X3_addTo_5] at hf
      cases hf
    | succ n ih =>
      intro x3 x5 H locs ls hP hS hl hf
      rw [f_X3_addTo_5] at hf
      refine lv_iload hx hb dX3_addTo_5 (lv_at hl 2 rfl) ?_
      refine lv_aload_n hx hb dX3_addTo_7 rfl (lv_at hl 0 rfl) ?_
      refine r_get hx hb hts hown hC hP hinX3 b (shf_k0 hsh) (ci := 2) (shf_o hsh) (by decide) rfl 1 (by decide) (hts (.fieldLink RX3 19 "LoafParts$Shelf" "sizes" "[I") (by decide +kernel)) (v := .ref (aD g (b + 1))) rfl dX3_addTo_8 ?_
      refine r_alen hx hb hC hP (b + 1) (shf_k1 hsh) (shf_1 hsh) (v := (Int32.ofNat nr)) rfl dX3_addTo_11 ?_
      refine lv_icmp_ge (tgt := 73) hx hb dX3_addTo_12 (by decide) (fun c_1 => ?_) (fun c_1 => ?_)
      · rw [if_pos c_1] at hf
        refine lv_lload_n hx hb dX3_addTo_73 rfl (lv_at hl 1 rfl) ?_
        obtain rfl := sp1 hf
        exact kret _ _ _ _ dX3_addTo_74 hP hS trivial
      rw [if_neg c_1] at hf
      refine lv_ldc2 (v := (31 : Int64)) hx hb hown (hts (.constantLong RX3 51 (31)) (by decide +kernel)) dX3_addTo_15 ?_
      refine lv_lload_n hx hb dX3_addTo_18 rfl (lv_at hl 1 rfl) ?_
      refine lv_lmul hx hb dX3_addTo_19 ?_
      refine lv_aload_n hx hb dX3_addTo_20 rfl (lv_at hl 0 rfl) ?_
      refine r_get hx hb hts hown hC hP hinX3 b (shf_k0 hsh) (ci := 2) (shf_o hsh) (by decide) rfl 1 (by decide) (hts (.fieldLink RX3 19 "LoafParts$Shelf" "sizes" "[I") (by decide +kernel)) (v := .ref (aD g (b + 1))) rfl dX3_addTo_21 ?_
      refine lv_iload hx hb dX3_addTo_24 (lv_at hl 2 rfl) ?_
      obtain ⟨hi_2, hf⟩ := ix_ex hf
      refine r_ald hx hb hC hP (b + 1) (shf_k1 hsh) (shf_1 hsh) hi_2 dX3_addTo_26 ?_
      refine lv_i2l hx hb dX3_addTo_27 rfl ?_
      refine lv_ladd hx hb dX3_addTo_28 ?_
      obtain ⟨x3_3, ex3_3, hf⟩ := lt_ex hf
      refine r_nml ex3_3 ?_
      refine lv_lstore_n (lv' := [(3, .long x3_3), (0, .ref (aD g b)), (5, .int x5)]) hx hb dX3_addTo_29 rfl hl (by decide) rfl (fun ls hl => ?_)
      refine lv_iconst (v := (0 : Int32)) hx hb dX3_addTo_30 (by decide) ?_
      refine lv_istore (lv' := [(6, .int (0 : Int32)), (3, .long x3_3), (0, .ref (aD g b)), (5, .int x5)]) hx hb dX3_addTo_31 hl (by decide) rfl (fun ls hl => ?_)
      exact w_33 (f_X3_addTo_5 b nr n) ih fu x3_3 x5 (0 : Int32) _ _ _ hP hS (lv_sub hl [2, 1, 3, 0] rfl) hf
  unfold f_X3_addTo at hf
  refine lv_lload_n hx hb dX3_addTo_0 rfl (lv_at hl 1 rfl) ?_
  refine lv_lstore_n (lv' := [(3, .long x1), (0, .ref (aD g b)), (1, .long x1)]) hx hb dX3_addTo_1 rfl hl (by decide) rfl (fun ls hl => ?_)
  refine lv_iconst (v := (0 : Int32)) hx hb dX3_addTo_2 (by decide) ?_
  refine lv_istore (lv' := [(5, .int (0 : Int32)), (3, .long x1), (0, .ref (aD g b)), (1, .long x1)]) hx hb dX3_addTo_3 hl (by decide) rfl (fun ls hl => ?_)
  exact w_5 fu x1 (0 : Int32) _ _ _ hP hS (lv_sub hl [2, 1, 0] rfl) hf
set_option maxHeartbeats 4000000 in
set_option maxRecDepth 100000 in
theorem c_X5_digest (l : Launch) (g : GG) (u : UU) {r : Int64} (hf : f_X5_digest u = some r) : Cl l g 0 55 yX5_digest wsX5_digest 5 106 [.ref (aD g 0)] u r u := by
  refine ct_l (cc := cX5_digest) (maxL := 5) (by decide) rfl (Nat.le_of_ble_eq_true rfl) ?_
  intro p e s m args below meth c R Q ls hx hb hml hown hts hC hP hl hRf hRl kret hS
  have hown : s.vm.findClass RX5 = some m.cls := hown
  have hl : lv_has ls 5 [(0, .ref (aD g 0))] := hl
  have hinX4 : ∀ w ∈ u_ws RX4 TX4 13, w ∈ wsX5_digest := by decide +kernel
  have hinX5 : ∀ w ∈ u_ws RX5 TX5 12, w ∈ wsX5_digest := by decide +kernel
  have w_152 : ∀ (k_117 : Int64 → Int32 → UU → Option Int64) (K_117 : ∀ (x1 : Int64) (x3 : Int32) (H : Heap) (locs : List Loc) (ls : Array Slot), Ps g 0 55 u H → va_S (aA g) s.heap H locs → lv_has ls 5 [(0, .ref (aD g 0)), (1, .long x1), (3, .int x3)] → k_117 x1 x3 u = some r → W p l e R s m args below meth c H locs 0 0 Q (F0 m 117 ls [])), ∀ (x3 : Int32) (t0 : Int32) (t1 : Int64) (H : Heap) (locs : List Loc) (ls : Array Slot), Ps g 0 55 u H → va_S (aA g) s.heap H locs → lv_has ls 5 [(0, .ref (aD g 0)), (3, .int x3)] → f_X5_digest_152 k_117 x3 t0 t1 u = some r → W p l e R s m args below meth c H locs 0 0 Q (F0 m 152 ls [.int t0, .long t1]) := by
    intro k_117 K_117
    intro x3 t0 t1 H locs ls hP hS hl hf
    unfold f_X5_digest_152 at hf
    refine lv_i2l hx hb dX5_digest_152 rfl ?_
    refine lv_ladd hx hb dX5_digest_153 ?_
    obtain ⟨x1_10, ex1_10, hf⟩ := lt_ex hf
    refine r_nml ex1_10 ?_
    refine lv_lstore_n (lv' := [(1, .long x1_10), (0, .ref (aD g 0)), (3, .int x3)]) hx hb dX5_digest_154 rfl hl (by decide) rfl (fun ls hl => ?_)
    obtain ⟨x3_11, ex3_11, hf⟩ := lt_ex hf
    refine lv_iinc (v := x3_11) (lv' := [(3, .int x3_11), (1, .long x1_10), (0, .ref (aD g 0))]) hx hb dX5_digest_155 hl (k := 2) rfl (by rw [ex3_11]; rfl) (by decide) rfl (fun ls hl => ?_)
    refine lv_goto (tgt := 117) hx hb dX5_digest_158 (by decide) ?_
    exact K_117 x1_10 x3_11 _ _ _ hP hS (lv_sub hl [2, 1, 0] rfl) hf
  have w_117 : ∀ (n : Nat), ∀ (x1 : Int64) (x3 : Int32) (H : Heap) (locs : List Loc) (ls : Array Slot), Ps g 0 55 u H → va_S (aA g) s.heap H locs → lv_has ls 5 [(0, .ref (aD g 0)), (1, .long x1), (3, .int x3)] → f_X5_digest_117 n x1 x3 u = some r → W p l e R s m args below meth c H locs 0 0 Q (F0 m 117 ls []) := by
    intro n
    induction n with
    | zero =>
      intro x1 x3 H locs ls hP hS hl hf
      rw [f_X5_digest_117] at hf
      cases hf
    | succ n ih =>
      intro x1 x3 H locs ls hP hS hl hf
      rw [f_X5_digest_117] at hf
      refine lv_iload_n hx hb dX5_digest_117 rfl (lv_at hl 2 rfl) ?_
      refine lv_iconst (v := (3 : Int32)) hx hb dX5_digest_118 (by decide) ?_
      refine lv_icmp_ge (tgt := 161) hx hb dX5_digest_119 (by decide) (fun c_4 => ?_) (fun c_4 => ?_)
      · rw [if_pos c_4] at hf
        refine lv_aload_n hx hb dX5_digest_161 rfl (lv_at hl 0 rfl) ?_
        refine r_get hx hb hts hown hC hP hinX5 0 (by decide) (ci := 4) rfl (by decide) rfl 1 (by decide) (hts (.fieldLink RX5 18 "LoafParts" "texts" "LLoafParts$Shelf;") (by decide +kernel)) (v := .ref (aD g 4)) rfl dX5_digest_162 ?_
        refine lv_aload_n hx hb dX5_digest_165 rfl (lv_at hl 0 rfl) ?_
        refine r_get hx hb hts hown hC hP hinX5 0 (by decide) (ci := 4) rfl (by decide) rfl 0 (by decide) (hts (.fieldLink RX5 14 "LoafParts" "rows" "LLoafParts$Shelf;") (by decide +kernel)) (v := .ref (aD g 1)) rfl dX5_digest_166 ?_
        refine lv_lload_n hx hb dX5_digest_169 rfl (lv_at hl 1 rfl) ?_
        obtain ⟨q_5, hq_5, hf⟩ := bind_ex hf
        refine r_Vl (As := [.long x1]) (rest := [.ref (aD g 4)]) (k := 1) (ci := 2) ⟨hx, hb, hml, hown, hts⟩ hC hP hS (by decide) rfl (by decide) rfl (c_X3_addTo l g 1 6 shf_rows u x1 hq_5) (cwV 1 hts gX5_digest_X3_addTo rfl rfl rfl (by decide +kernel) ⟨(Nat.le_trans (Nat.le_of_ble_eq_true rfl) hRf), (Nat.le_trans (Nat.le_of_ble_eq_true rfl) hRl)⟩) rfl hl.1 rfl (Nat.le_of_ble_eq_true rfl) dX5_digest_170 (fun H locs hP hS => ?_)
        obtain ⟨q_6, hq_6, hf⟩ := bind_ex hf
        refine r_Vl (As := [.long q_5]) (rest := []) (k := 4) (ci := 2) ⟨hx, hb, hml, hown, hts⟩ hC hP hS (by decide) rfl (by decide) rfl (c_X3_addTo l g 4 4 shf_texts u q_5 hq_6) (cwV 1 hts gX5_digest_X3_addTo rfl rfl rfl (by decide +kernel) ⟨(Nat.le_trans (Nat.le_of_ble_eq_true rfl) hRf), (Nat.le_trans (Nat.le_of_ble_eq_true rfl) hRl)⟩) rfl hl.1 rfl (Nat.le_of_ble_eq_true rfl) dX5_digest_173 (fun H locs hP hS => ?_)
        obtain rfl := sp1 hf
        exact kret _ _ _ _ dX5_digest_176 hP hS trivial
      rw [if_neg c_4] at hf
      refine lv_ldc2 (v := (31 : Int64)) hx hb hown (hts (.constantLong RX5 313 (31)) (by decide +kernel)) dX5_digest_122 ?_
      refine lv_lload_n hx hb dX5_digest_125 rfl (lv_at hl 1 rfl) ?_
      refine lv_lmul hx hb dX5_digest_126 ?_
      refine lv_aload_n hx hb dX5_digest_127 rfl (lv_at hl 0 rfl) ?_
      refine r_get hx hb hts hown hC hP hinX5 0 (by decide) (ci := 4) rfl (by decide) rfl 4 (by decide) (hts (.fieldLink RX5 35 "LoafParts" "kept" "[LLoafParts$Table;") (by decide +kernel)) (v := .ref (aD g 21)) rfl dX5_digest_128 ?_
      refine lv_iload_n hx hb dX5_digest_131 rfl (lv_at hl 2 rfl) ?_
      obtain ⟨hi_7, hf⟩ := ix_ex hf
      refine r_aldq hx hb hC hP 21 (by decide) rfl hi_7 dX5_digest_132 ?_
      refine r_getN hx hb hts hown hC hP hinX4 (22 + 10 * (x3 : Int32).toNatClampNeg) (tab_k0 (tab_kept hi_7)) (ci := 3) (tab_0 (tab_kept hi_7)) (by decide) rfl 0 (by decide) 0 rfl (v := .int (ui u (22 + 10 * (x3 : Int32).toNatClampNeg) 0)) rfl dX5_digest_133 ?_
      refine lv_if_ne (tgt := 143) hx hb dX5_digest_136 (by decide) (fun c_8 => ?_) (fun c_8 => ?_)
      · rw [if_neg c_8] at hf
        refine lv_aload_n hx hb dX5_digest_143 rfl (lv_at hl 0 rfl) ?_
        refine r_get hx hb hts hown hC hP hinX5 0 (by decide) (ci := 4) rfl (by decide) rfl 4 (by decide) (hts (.fieldLink RX5 35 "LoafParts" "kept" "[LLoafParts$Table;") (by decide +kernel)) (v := .ref (aD g 21)) rfl dX5_digest_144 ?_
        refine lv_iload_n hx hb dX5_digest_147 rfl (lv_at hl 2 rfl) ?_
        obtain ⟨hi_9, hf⟩ := ix_ex hf
        refine r_aldq hx hb hC hP 21 (by decide) rfl hi_9 dX5_digest_148 ?_
        refine r_getN hx hb hts hown hC hP hinX4 (22 + 10 * (x3 : Int32).toNatClampNeg) (tab_k0 (tab_kept hi_9)) (ci := 3) (tab_0 (tab_kept hi_9)) (by decide) rfl 2 (by decide) 6 rfl (v := .int (ui u (22 + 10 * (x3 : Int32).toNatClampNeg) 2)) rfl dX5_digest_149 ?_
        exact w_152 (f_X5_digest_117 n) ih x3 (ui u (22 + 10 * (x3 : Int32).toNatClampNeg) 2) ((31 : Int64) * x1) _ _ _ hP hS (lv_sub hl [0, 2] rfl) hf
      rw [if_pos c_8] at hf
      refine lv_iconst (v := (-1 : Int32)) hx hb dX5_digest_139 (by decide) ?_
      refine lv_goto (tgt := 152) hx hb dX5_digest_140 (by decide) ?_
      exact w_152 (f_X5_digest_117 n) ih x3 (-1 : Int32) ((31 : Int64) * x1) _ _ _ hP hS (lv_sub hl [0, 2] rfl) hf
  have w_86 : ∀ (n : Nat), ∀ (x1 : Int64) (x3 : Int32) (H : Heap) (locs : List Loc) (ls : Array Slot), Ps g 0 55 u H → va_S (aA g) s.heap H locs → lv_has ls 5 [(0, .ref (aD g 0)), (1, .long x1), (3, .int x3)] → f_X5_digest_86 n x1 x3 u = some r → W p l e R s m args below meth c H locs 0 0 Q (F0 m 86 ls []) := by
    intro n
    induction n with
    | zero =>
      intro x1 x3 H locs ls hP hS hl hf
      rw [f_X5_digest_86] at hf
      cases hf
    | succ n ih =>
      intro x1 x3 H locs ls hP hS hl hf
      rw [f_X5_digest_86] at hf
      refine lv_iload_n hx hb dX5_digest_86 rfl (lv_at hl 2 rfl) ?_
      refine lv_bipush (v := (16 : Int32)) hx hb dX5_digest_87 (by decide) ?_
      refine lv_icmp_gt (tgt := 115) hx hb dX5_digest_89 (by decide) (fun c_3 => ?_) (fun c_3 => ?_)
      · rw [if_pos c_3] at hf
        refine lv_iconst (v := (0 : Int32)) hx hb dX5_digest_115 (by decide) ?_
        refine lv_istore_n (lv' := [(3, .int (0 : Int32)), (0, .ref (aD g 0)), (1, .long x1)]) hx hb dX5_digest_116 rfl hl (by decide) rfl (fun ls hl => ?_)
        exact w_117 fu x1 (0 : Int32) _ _ _ hP hS (lv_sub hl [1, 2, 0] rfl) hf
      rw [if_neg c_3] at hf
      refine lv_ldc2 (v := (31 : Int64)) hx hb hown (hts (.constantLong RX5 313 (31)) (by decide +kernel)) dX5_digest_92 ?_
      refine lv_lload_n hx hb dX5_digest_95 rfl (lv_at hl 1 rfl) ?_
      refine lv_lmul hx hb dX5_digest_96 ?_
      refine lv_aload_n hx hb dX5_digest_97 rfl (lv_at hl 0 rfl) ?_
      refine r_get hx hb hts hown hC hP hinX5 0 (by decide) (ci := 4) rfl (by decide) rfl 3 (by decide) (hts (.fieldLink RX5 31 "LoafParts" "table" "LLoafParts$Table;") (by decide +kernel)) (v := .ref (aD g 11)) rfl dX5_digest_98 ?_
      refine r_getN hx hb hts hown hC hP hinX4 11 (by decide) (ci := 3) rfl (by decide) rfl 3 (by decide) 3 rfl (v := .ref (aD g 12)) rfl dX5_digest_101 ?_
      refine lv_iload_n hx hb dX5_digest_104 rfl (lv_at hl 2 rfl) ?_
      obtain ⟨hi_12, hf⟩ := ix_ex hf
      refine r_ald hx hb hC hP 12 (by decide) rfl hi_12 dX5_digest_105 ?_
      refine lv_i2l hx hb dX5_digest_106 rfl ?_
      refine lv_ladd hx hb dX5_digest_107 ?_
      obtain ⟨x1_13, ex1_13, hf⟩ := lt_ex hf
      refine r_nml ex1_13 ?_
      refine lv_lstore_n (lv' := [(1, .long x1_13), (0, .ref (aD g 0)), (3, .int x3)]) hx hb dX5_digest_108 rfl hl (by decide) rfl (fun ls hl => ?_)
      obtain ⟨x3_14, ex3_14, hf⟩ := lt_ex hf
      refine lv_iinc (v := x3_14) (lv' := [(3, .int x3_14), (1, .long x1_13), (0, .ref (aD g 0))]) hx hb dX5_digest_109 hl (k := 2) rfl (by rw [ex3_14]; rfl) (by decide) rfl (fun ls hl => ?_)
      refine lv_goto (tgt := 86) hx hb dX5_digest_112 (by decide) ?_
      exact ih x1_13 x3_14 _ _ _ hP hS (lv_sub hl [2, 1, 0] rfl) hf
  have w_47 : ∀ (k_33 : Int64 → Int32 → UU → Option Int64) (K_33 : ∀ (x1 : Int64) (x3 : Int32) (H : Heap) (locs : List Loc) (ls : Array Slot), Ps g 0 55 u H → va_S (aA g) s.heap H locs → lv_has ls 5 [(0, .ref (aD g 0)), (1, .long x1), (3, .int x3)] → k_33 x1 x3 u = some r → W p l e R s m args below meth c H locs 0 0 Q (F0 m 33 ls [])) (n : Nat), ∀ (x1 : Int64) (x3 : Int32) (x4 : Int32) (H : Heap) (locs : List Loc) (ls : Array Slot), Ps g 0 55 u H → va_S (aA g) s.heap H locs → lv_has ls 5 [(0, .ref (aD g 0)), (1, .long x1), (3, .int x3), (4, .int x4)] → f_X5_digest_47 k_33 n x1 x3 x4 u = some r → W p l e R s m args below meth c H locs 0 0 Q (F0 m 47 ls []) := by
    intro k_33 K_33 n
    induction n with
    | zero =>
      intro x1 x3 x4 H locs ls hP hS hl hf
      rw [f_X5_digest_47] at hf
      cases hf
    | succ n ih =>
      intro x1 x3 x4 H locs ls hP hS hl hf
      rw [f_X5_digest_47] at hf
      refine lv_iload hx hb dX5_digest_47 (lv_at hl 3 rfl) ?_
      refine lv_bipush (v := (6 : Int32)) hx hb dX5_digest_49 (by decide) ?_
      refine lv_icmp_ge (tgt := 78) hx hb dX5_digest_51 (by decide) (fun c_15 => ?_) (fun c_15 => ?_)
      · rw [if_pos c_15] at hf
        obtain ⟨x3_16, ex3_16, hf⟩ := lt_ex hf
        refine lv_iinc (v := x3_16) (lv' := [(3, .int x3_16), (0, .ref (aD g 0)), (1, .long x1), (4, .int x4)]) hx hb dX5_digest_78 hl (k := 2) rfl (by rw [ex3_16]; rfl) (by decide) rfl (fun ls hl => ?_)
        refine lv_goto (tgt := 33) hx hb dX5_digest_81 (by decide) ?_
        exact K_33 x1 x3_16 _ _ _ hP hS (lv_sub hl [1, 2, 0] rfl) hf
      rw [if_neg c_15] at hf
      refine lv_ldc2 (v := (31 : Int64)) hx hb hown (hts (.constantLong RX5 313 (31)) (by decide +kernel)) dX5_digest_54 ?_
      refine lv_lload_n hx hb dX5_digest_57 rfl (lv_at hl 1 rfl) ?_
      refine lv_lmul hx hb dX5_digest_58 ?_
      refine lv_aload_n hx hb dX5_digest_59 rfl (lv_at hl 0 rfl) ?_
      refine r_get hx hb hts hown hC hP hinX5 0 (by decide) (ci := 4) rfl (by decide) rfl 3 (by decide) (hts (.fieldLink RX5 31 "LoafParts" "table" "LLoafParts$Table;") (by decide +kernel)) (v := .ref (aD g 11)) rfl dX5_digest_60 ?_
      refine lv_iload_n hx hb dX5_digest_63 rfl (lv_at hl 2 rfl) ?_
      refine lv_iload hx hb dX5_digest_64 (lv_at hl 3 rfl) ?_
      obtain ⟨q_17, hq_17, hf⟩ := bind_ex hf
      refine r_Vi (As := [.int x3, .int x4]) (rest := [.long ((31 : Int64) * x1)]) (k := 11) (ci := 3) ⟨hx, hb, hml, hown, hts⟩ hC hP hS (by decide) rfl (by decide) rfl (c_X4_factOf l g u x3 x4 hq_17) (cwV 2 hts gX5_digest_X4_factOf rfl rfl rfl (by decide +kernel) ⟨(Nat.le_trans (Nat.le_of_ble_eq_true rfl) hRf), (Nat.le_trans (Nat.le_of_ble_eq_true rfl) hRl)⟩) rfl hl.1 rfl (Nat.le_of_ble_eq_true rfl) dX5_digest_66 (fun H locs hP hS => ?_)
      refine lv_i2l hx hb dX5_digest_69 rfl ?_
      refine lv_ladd hx hb dX5_digest_70 ?_
      obtain ⟨x1_18, ex1_18, hf⟩ := lt_ex hf
      refine r_nml ex1_18 ?_
      refine lv_lstore_n (lv' := [(1, .long x1_18), (0, .ref (aD g 0)), (3, .int x3), (4, .int x4)]) hx hb dX5_digest_71 rfl hl (by decide) rfl (fun ls hl => ?_)
      obtain ⟨x4_19, ex4_19, hf⟩ := lt_ex hf
      refine lv_iinc (v := x4_19) (lv' := [(4, .int x4_19), (1, .long x1_18), (0, .ref (aD g 0)), (3, .int x3)]) hx hb dX5_digest_72 hl (k := 3) rfl (by rw [ex4_19]; rfl) (by decide) rfl (fun ls hl => ?_)
      refine lv_goto (tgt := 47) hx hb dX5_digest_75 (by decide) ?_
      exact ih x1_18 x3 x4_19 _ _ _ hP hS (lv_sub hl [2, 1, 3, 0] rfl) hf
  have w_33 : ∀ (n : Nat), ∀ (x1 : Int64) (x3 : Int32) (H : Heap) (locs : List Loc) (ls : Array Slot), Ps g 0 55 u H → va_S (aA g) s.heap H locs → lv_has ls 5 [(0, .ref (aD g 0)), (1, .long x1), (3, .int x3)] → f_X5_digest_33 n x1 x3 u = some r → W p l e R s m args below meth c H locs 0 0 Q (F0 m 33 ls []) := by
    intro n
    induction n with
    | zero =>
      intro x1 x3 H locs ls hP hS hl hf
      rw [f_X5_digest_33] at hf
      cases hf
    | succ n ih =>
      intro x1 x3 H locs ls hP hS hl hf
      rw [f_X5_digest_33] at hf
      refine lv_iload_n hx hb dX5_digest_33 rfl (lv_at hl 2 rfl) ?_
      refine lv_aload_n hx hb dX5_digest_34 rfl (lv_at hl 0 rfl) ?_
      refine r_get hx hb hts hown hC hP hinX5 0 (by decide) (ci := 4) rfl (by decide) rfl 3 (by decide) (hts (.fieldLink RX5 31 "LoafParts" "table" "LLoafParts$Table;") (by decide +kernel)) (v := .ref (aD g 11)) rfl dX5_digest_35 ?_
      refine r_getN hx hb hts hown hC hP hinX4 11 (by decide) (ci := 3) rfl (by decide) rfl 0 (by decide) 0 rfl (v := .int (ui u 11 0)) rfl dX5_digest_38 ?_
      refine lv_icmp_ge (tgt := 84) hx hb dX5_digest_41 (by decide) (fun c_2 => ?_) (fun c_2 => ?_)
      · rw [if_pos c_2] at hf
        refine lv_iconst (v := (2 : Int32)) hx hb dX5_digest_84 (by decide) ?_
        refine lv_istore_n (lv' := [(3, .int (2 : Int32)), (0, .ref (aD g 0)), (1, .long x1)]) hx hb dX5_digest_85 rfl hl (by decide) rfl (fun ls hl => ?_)
        exact w_86 fu x1 (2 : Int32) _ _ _ hP hS (lv_sub hl [1, 2, 0] rfl) hf
      rw [if_neg c_2] at hf
      refine lv_iconst (v := (0 : Int32)) hx hb dX5_digest_44 (by decide) ?_
      refine lv_istore (lv' := [(4, .int (0 : Int32)), (0, .ref (aD g 0)), (1, .long x1), (3, .int x3)]) hx hb dX5_digest_45 hl (by decide) rfl (fun ls hl => ?_)
      exact w_47 (f_X5_digest_33 n) ih fu x1 x3 (0 : Int32) _ _ _ hP hS (lv_sub hl [1, 2, 3, 0] rfl) hf
  have w_6 : ∀ (n : Nat), ∀ (x1 : Int64) (x3 : Int32) (H : Heap) (locs : List Loc) (ls : Array Slot), Ps g 0 55 u H → va_S (aA g) s.heap H locs → lv_has ls 5 [(0, .ref (aD g 0)), (1, .long x1), (3, .int x3)] → f_X5_digest_6 n x1 x3 u = some r → W p l e R s m args below meth c H locs 0 0 Q (F0 m 6 ls []) := by
    intro n
    induction n with
    | zero =>
      intro x1 x3 H locs ls hP hS hl hf
      rw [f_X5_digest_6] at hf
      cases hf
    | succ n ih =>
      intro x1 x3 H locs ls hP hS hl hf
      rw [f_X5_digest_6] at hf
      refine lv_iload_n hx hb dX5_digest_6 rfl (lv_at hl 2 rfl) ?_
      refine lv_bipush (v := (12 : Int32)) hx hb dX5_digest_7 (by decide) ?_
      refine lv_icmp_ge (tgt := 31) hx hb dX5_digest_9 (by decide) (fun c_1 => ?_) (fun c_1 => ?_)
      · rw [if_pos c_1] at hf
        refine lv_iconst (v := (0 : Int32)) hx hb dX5_digest_31 (by decide) ?_
        refine lv_istore_n (lv' := [(3, .int (0 : Int32)), (0, .ref (aD g 0)), (1, .long x1)]) hx hb dX5_digest_32 rfl hl (by decide) rfl (fun ls hl => ?_)
        exact w_33 fu x1 (0 : Int32) _ _ _ hP hS (lv_sub hl [1, 2, 0] rfl) hf
      rw [if_neg c_1] at hf
      refine lv_ldc2 (v := (31 : Int64)) hx hb hown (hts (.constantLong RX5 313 (31)) (by decide +kernel)) dX5_digest_12 ?_
      refine lv_lload_n hx hb dX5_digest_15 rfl (lv_at hl 1 rfl) ?_
      refine lv_lmul hx hb dX5_digest_16 ?_
      refine lv_aload_n hx hb dX5_digest_17 rfl (lv_at hl 0 rfl) ?_
      refine lv_iload_n hx hb dX5_digest_18 rfl (lv_at hl 2 rfl) ?_
      obtain ⟨q_20, hq_20, hf⟩ := bind_ex hf
      refine r_Vi (As := [.int x3]) (rest := [.long ((31 : Int64) * x1)]) (k := 0) (ci := 4) ⟨hx, hb, hml, hown, hts⟩ hC hP hS (by decide) rfl (by decide) rfl (c_X5_count l g u x3 hq_20) (cwV 1 hts gX5_digest_X5_count rfl rfl rfl (by decide +kernel) ⟨(Nat.le_trans (Nat.le_of_ble_eq_true rfl) hRf), (Nat.le_trans (Nat.le_of_ble_eq_true rfl) hRl)⟩) rfl hl.1 rfl (Nat.le_of_ble_eq_true rfl) dX5_digest_19 (fun H locs hP hS => ?_)
      refine lv_i2l hx hb dX5_digest_22 rfl ?_
      refine lv_ladd hx hb dX5_digest_23 ?_
      obtain ⟨x1_21, ex1_21, hf⟩ := lt_ex hf
      refine r_nml ex1_21 ?_
      refine lv_lstore_n (lv' := [(1, .long x1_21), (0, .ref (aD g 0)), (3, .int x3)]) hx hb dX5_digest_24 rfl hl (by decide) rfl (fun ls hl => ?_)
      obtain ⟨x3_22, ex3_22, hf⟩ := lt_ex hf
      refine lv_iinc (v := x3_22) (lv' := [(3, .int x3_22), (1, .long x1_21), (0, .ref (aD g 0))]) hx hb dX5_digest_25 hl (k := 2) rfl (by rw [ex3_22]; rfl) (by decide) rfl (fun ls hl => ?_)
      refine lv_goto (tgt := 6) hx hb dX5_digest_28 (by decide) ?_
      exact ih x1_21 x3_22 _ _ _ hP hS (lv_sub hl [2, 1, 0] rfl) hf
  unfold f_X5_digest at hf
  refine lv_ldc2 (v := (17 : Int64)) hx hb hown (hts (.constantLong RX5 311 (17)) (by decide +kernel)) dX5_digest_0 ?_
  refine lv_lstore_n (lv' := [(1, .long (17 : Int64)), (0, .ref (aD g 0))]) hx hb dX5_digest_3 rfl hl (by decide) rfl (fun ls hl => ?_)
  refine lv_iconst (v := (0 : Int32)) hx hb dX5_digest_4 (by decide) ?_
  refine lv_istore_n (lv' := [(3, .int (0 : Int32)), (1, .long (17 : Int64)), (0, .ref (aD g 0))]) hx hb dX5_digest_5 rfl hl (by decide) rfl (fun ls hl => ?_)
  exact w_6 fu (17 : Int64) (0 : Int32) _ _ _ hP hS (lv_sub hl [2, 1, 0] rfl) hf
set_option maxHeartbeats 4000000 in
set_option maxRecDepth 100000 in
theorem c_X6_in (l : Launch) (g : GG) (u : UU) (x0 : Int32) (x1 : Int32) (x2 : Int32) {r : Int32} (hf : f_X6_in x0 x1 x2 = r) : Ci l g 55 20 yX6_in wsX6_in 0 0 [.int x0, .int x1, .int x2] u r u := by
  refine ct_z (cc := cX6_in) (maxL := 3) (by decide) rfl (Nat.le_of_ble_eq_true rfl) ?_
  intro p e s m args below meth c R Q ls hx hb hml hown hts hC hP hl hRf hRl kret hS
  have hown : s.vm.findClass RX6 = some m.cls := hown
  have hl : lv_has ls 3 [(0, .int x0), (1, .int x1), (2, .int x2)] := hl
  unfold f_X6_in at hf
  refine lv_iload_n hx hb dX6_in_0 rfl (lv_at hl 0 rfl) ?_
  refine lv_iload_n hx hb dX6_in_1 rfl (lv_at hl 1 rfl) ?_
  refine lv_icmp_lt (tgt := 14) hx hb dX6_in_2 (by decide) (fun c_1 => ?_) (fun c_1 => ?_)
  · rw [if_pos c_1] at hf
    refine lv_iconst (v := (0 : Int32)) hx hb dX6_in_14 (by decide) ?_
    obtain rfl := hf
    exact kret _ _ _ _ dX6_in_15 hP hS rfl
  rw [if_neg c_1] at hf
  refine lv_iload_n hx hb dX6_in_5 rfl (lv_at hl 0 rfl) ?_
  refine lv_iload_n hx hb dX6_in_6 rfl (lv_at hl 2 rfl) ?_
  refine lv_icmp_gt (tgt := 14) hx hb dX6_in_7 (by decide) (fun c_2 => ?_) (fun c_2 => ?_)
  · rw [if_pos c_2] at hf
    refine lv_iconst (v := (0 : Int32)) hx hb dX6_in_14 (by decide) ?_
    obtain rfl := hf
    exact kret _ _ _ _ dX6_in_15 hP hS rfl
  rw [if_neg c_2] at hf
  refine lv_iconst (v := (1 : Int32)) hx hb dX6_in_10 (by decide) ?_
  refine lv_goto (tgt := 15) hx hb dX6_in_11 (by decide) ?_
  obtain rfl := hf
  exact kret _ _ _ _ dX6_in_15 hP hS rfl
set_option maxHeartbeats 4000000 in
set_option maxRecDepth 100000 in
theorem c_X6_has (l : Launch) (g : GG) (u : UU) (x0 : Int32) (x1 : Int32) {r : Int32} (hf : f_X6_has x0 x1 = r) : Ci l g 55 20 yX6_has wsX6_has 0 0 [.int x0, .int x1] u r u := by
  refine ct_z (cc := cX6_has) (maxL := 2) (by decide) rfl (Nat.le_of_ble_eq_true rfl) ?_
  intro p e s m args below meth c R Q ls hx hb hml hown hts hC hP hl hRf hRl kret hS
  have hown : s.vm.findClass RX6 = some m.cls := hown
  have hl : lv_has ls 2 [(0, .int x0), (1, .int x1)] := hl
  unfold f_X6_has at hf
  refine lv_iload_n hx hb dX6_has_0 rfl (lv_at hl 0 rfl) ?_
  refine lv_iload_n hx hb dX6_has_1 rfl (lv_at hl 1 rfl) ?_
  refine lv_ishr hx hb dX6_has_2 ?_
  refine lv_iconst (v := (1 : Int32)) hx hb dX6_has_3 (by decide) ?_
  refine lv_iand hx hb dX6_has_4 ?_
  refine lv_iconst (v := (1 : Int32)) hx hb dX6_has_5 (by decide) ?_
  refine lv_icmp_ne (tgt := 13) hx hb dX6_has_6 (by decide) (fun c_1 => ?_) (fun c_1 => ?_)
  · rw [if_neg c_1] at hf
    refine lv_iconst (v := (0 : Int32)) hx hb dX6_has_13 (by decide) ?_
    obtain rfl := hf
    exact kret _ _ _ _ dX6_has_14 hP hS rfl
  rw [if_pos c_1] at hf
  refine lv_iconst (v := (1 : Int32)) hx hb dX6_has_9 (by decide) ?_
  refine lv_goto (tgt := 14) hx hb dX6_has_10 (by decide) ?_
  obtain rfl := hf
  exact kret _ _ _ _ dX6_has_14 hP hS rfl
set_option maxHeartbeats 4000000 in
set_option maxRecDepth 100000 in
theorem c_X6_bits (l : Launch) (g : GG) (u : UU) (x0 : Int32) {r : Int32} (hf : f_X6_bits x0 u = some r) : Ci l g 55 20 yX6_bits wsX6_bits 0 0 [.int x0] u r u := by
  refine ct_i (cc := cX6_bits) (maxL := 3) (by decide) rfl (Nat.le_of_ble_eq_true rfl) ?_
  intro p e s m args below meth c R Q ls hx hb hml hown hts hC hP hl hRf hRl kret hS
  have hown : s.vm.findClass RX6 = some m.cls := hown
  have hl : lv_has ls 3 [(0, .int x0)] := hl
  have w_4 : ∀ (n : Nat), ∀ (x1 : Int32) (x2 : Int32) (H : Heap) (locs : List Loc) (ls : Array Slot), Ps g 55 20 u H → va_S (aA g) s.heap H locs → lv_has ls 3 [(1, .int x1), (2, .int x2)] → f_X6_bits_4 n x1 x2 u = some r → W p l e R s m args below meth c H locs 0 0 Q (F0 m 4 ls []) := by
    intro n
    induction n with
    | zero =>
      intro x1 x2 H locs ls hP hS hl hf
      rw [f_X6_bits_4] at hf
      cases hf
    | succ n ih =>
      intro x1 x2 H locs ls hP hS hl hf
      rw [f_X6_bits_4] at hf
      refine lv_iload_n hx hb dX6_bits_4 rfl (lv_at hl 1 rfl) ?_
      refine lv_if_eq (tgt := 20) hx hb dX6_bits_5 (by decide) (fun c_1 => ?_) (fun c_1 => ?_)
      · rw [if_pos c_1] at hf
        refine lv_iload_n hx hb dX6_bits_20 rfl (lv_at hl 0 rfl) ?_
        obtain rfl := sp1 hf
        exact kret _ _ _ _ dX6_bits_21 hP hS trivial
      rw [if_neg c_1] at hf
      obtain ⟨x1_2, ex1_2, hf⟩ := lt_ex hf
      refine lv_iinc (v := x1_2) (lv' := [(1, .int x1_2), (2, .int x2)]) hx hb dX6_bits_8 hl (k := 0) rfl (by rw [ex1_2]; rfl) (by decide) rfl (fun ls hl => ?_)
      refine lv_iload_n hx hb dX6_bits_11 rfl (lv_at hl 1 rfl) ?_
      refine lv_iload_n hx hb dX6_bits_12 rfl (lv_at hl 1 rfl) ?_
      refine lv_iconst (v := (1 : Int32)) hx hb dX6_bits_13 (by decide) ?_
      refine lv_isub hx hb dX6_bits_14 ?_
      refine lv_iand hx hb dX6_bits_15 ?_
      obtain ⟨x2_3, ex2_3, hf⟩ := lt_ex hf
      refine r_nm ex2_3 ?_
      refine lv_istore_n (lv' := [(2, .int x2_3), (1, .int x1_2)]) hx hb dX6_bits_16 rfl hl (by decide) rfl (fun ls hl => ?_)
      refine lv_goto (tgt := 4) hx hb dX6_bits_17 (by decide) ?_
      exact ih x1_2 x2_3 _ _ _ hP hS (lv_sub hl [1, 0] rfl) hf
  unfold f_X6_bits at hf
  refine lv_iconst (v := (0 : Int32)) hx hb dX6_bits_0 (by decide) ?_
  refine lv_istore_n (lv' := [(1, .int (0 : Int32)), (0, .int x0)]) hx hb dX6_bits_1 rfl hl (by decide) rfl (fun ls hl => ?_)
  refine lv_iload_n hx hb dX6_bits_2 rfl (lv_at hl 1 rfl) ?_
  refine lv_istore_n (lv' := [(2, .int x0), (1, .int (0 : Int32)), (0, .int x0)]) hx hb dX6_bits_3 rfl hl (by decide) rfl (fun ls hl => ?_)
  exact w_4 fu (0 : Int32) x0 _ _ _ hP hS (lv_sub hl [1, 0] rfl) hf