set_option maxHeartbeats 4000000 in
set_option maxRecDepth 100000 in
theorem c_X3_isNumber (l : Launch) (g : GG) (b nr : Nat) (hsh : shf b nr) (u : UU) (x1 : Int32) {r : Int32} (hf : f_X3_isNumber b nr x1 u = some r) : Ci l g 0 55 yX3_isNumber wsX3_isNumber 0 0 [.ref (aD g b), .int x1] u r u := by
  refine ct_z (cc := cX3_isNumber) (maxL := 2) (by decide) rfl (Nat.le_of_ble_eq_true rfl) ?_
  intro p e s m args below meth c R Q ls hx hb hml hown hts hC hP hl hRf hRl kret hS
  have hown : s.vm.findClass RX3 = some m.cls := hown
  have hl : lv_has ls 2 [(0, .ref (aD g b)), (1, .int x1)] := hl
  have hinX3 : ∀ w ∈ u_ws RX3 TX3 3, w ∈ wsX3_isNumber := by decide +kernel
  unfold f_X3_isNumber at hf
  refine lv_iload_n hx hb dX3_isNumber_0 rfl (lv_at hl 1 rfl) ?_
  refine lv_if_lt (tgt := 17) hx hb dX3_isNumber_1 (by decide) (fun c_1 => ?_) (fun c_1 => ?_)
  · rw [if_pos c_1] at hf
    refine lv_iconst (v := (0 : Int32)) hx hb dX3_isNumber_17 (by decide) ?_
    obtain rfl := sp1 hf
    exact kret _ _ _ _ dX3_isNumber_18 hP hS rfl
  rw [if_neg c_1] at hf
  refine lv_iload_n hx hb dX3_isNumber_4 rfl (lv_at hl 1 rfl) ?_
  refine lv_aload_n hx hb dX3_isNumber_5 rfl (lv_at hl 0 rfl) ?_
  refine r_get hx hb hts hown hC hP hinX3 b (shf_k0 hsh) (ci := 2) (shf_o hsh) (by decide) rfl 1 (by decide) (hts (.fieldLink RX3 19 "LoafParts$Shelf" "sizes" "[I") (by decide +kernel)) (v := .ref (aD g (b + 1))) rfl dX3_isNumber_6 ?_
  refine r_alen hx hb hC hP (b + 1) (shf_k1 hsh) (shf_1 hsh) (v := (Int32.ofNat nr)) rfl dX3_isNumber_9 ?_
  refine lv_icmp_ge (tgt := 17) hx hb dX3_isNumber_10 (by decide) (fun c_2 => ?_) (fun c_2 => ?_)
  · rw [if_pos c_2] at hf
    refine lv_iconst (v := (0 : Int32)) hx hb dX3_isNumber_17 (by decide) ?_
    obtain rfl := sp1 hf
    exact kret _ _ _ _ dX3_isNumber_18 hP hS rfl
  rw [if_neg c_2] at hf
  refine lv_iconst (v := (1 : Int32)) hx hb dX3_isNumber_13 (by decide) ?_
  refine lv_goto (tgt := 18) hx hb dX3_isNumber_14 (by decide) ?_
  obtain rfl := sp1 hf
  exact kret _ _ _ _ dX3_isNumber_18 hP hS rfl
set_option maxHeartbeats 4000000 in
set_option maxRecDepth 100000 in
theorem c_X5_found (l : Launch) (g : GG) (u : UU) (x1 : Int32) {r : Int32} {u' : UU} (hf : f_X5_found x1 u = some (r, u')) : Ci l g 0 55 yX5_found wsX5_found 0 0 [.ref (aD g 0), .int x1] u r u' := by
  refine ct_i (cc := cX5_found) (maxL := 2) (by decide) rfl (Nat.le_of_ble_eq_true rfl) ?_
  intro p e s m args below meth c R Q ls hx hb hml hown hts hC hP hl hRf hRl kret hS
  have hown : s.vm.findClass RX5 = some m.cls := hown
  have hl : lv_has ls 2 [(0, .ref (aD g 0)), (1, .int x1)] := hl
  have hinX5 : ∀ w ∈ u_ws RX5 TX5 12, w ∈ wsX5_found := by decide +kernel
  unfold f_X5_found at hf
  refine lv_aload_n hx hb dX5_found_0 rfl (lv_at hl 0 rfl) ?_
  refine lv_iload_n hx hb dX5_found_1 rfl (lv_at hl 1 rfl) ?_
  obtain ⟨u_1, eu_1, hf⟩ := lt_ex hf
  refine r_puti hx hb hts hown hC hP hS hinX5 tyX5 tyX5_ok nmX5 0 (by decide) (ci := 4) rfl (by decide) rfl 8 (by decide) (hts (.fieldLink RX5 308 "LoafParts" "latestFinding" "I") (by decide +kernel)) rfl (ty := .int) (by decide +kernel) rfl rfl (by decide) (by decide) eu_1 dX5_found_2 (fun H locs hP hS => ?_)
  refine lv_aload_n hx hb dX5_found_5 rfl (lv_at hl 0 rfl) ?_
  refine r_get hx hb hts hown hC hP hinX5 0 (by decide) (ci := 4) rfl (by decide) rfl 7 (by decide) (hts (.fieldLink RX5 50 "LoafParts" "findingCounts" "[I") (by decide +kernel)) (v := .ref (aD g 54)) rfl dX5_found_6 ?_
  refine lv_iload_n hx hb dX5_found_9 rfl (lv_at hl 1 rfl) ?_
  refine lv_dup2_11 hx hb dX5_found_10 rfl rfl ?_
  obtain ⟨hi_2, hf⟩ := ix_ex hf
  refine r_ald hx hb hC hP 54 (by decide) rfl hi_2 dX5_found_11 ?_
  refine lv_iconst (v := (1 : Int32)) hx hb dX5_found_12 (by decide) ?_
  refine lv_iadd hx hb dX5_found_13 ?_
  obtain ⟨hi_3, hf⟩ := ix_ex hf
  obtain ⟨u_4, eu_4, hf⟩ := lt_ex hf
  refine r_ast hx hb hC hP hS 54 (by decide) rfl hi_3 eu_4 dX5_found_14 (fun H locs hP hS => ?_)
  refine lv_bipush (v := (-3 : Int32)) hx hb dX5_found_15 (by decide) ?_
  obtain ⟨rfl, rfl⟩ := sp2 hf
  exact kret _ _ _ _ dX5_found_17 hP hS trivial
set_option maxHeartbeats 4000000 in
set_option maxRecDepth 100000 in
theorem c_X3_make (l : Launch) (g : GG) (b nr : Nat) (hsh : shf b nr) (u : UU) (x1 : Int32) (x2 : Int32) (x3 : Int32) {u' : UU} (hf : f_X3_make b nr x1 x2 x3 u = some u') : Cv l g 0 55 yX3_make wsX3_make 1 21 [.ref (aD g b), .int x1, .int x2, .int x3] u u' := by
  refine ct_v (cc := cX3_make) (maxL := 5) (by decide) rfl (Nat.le_of_ble_eq_true rfl) ?_
  intro p e s m args below meth c R Q ls hx hb hml hown hts hC hP hl hRf hRl kret hS
  have hown : s.vm.findClass RX3 = some m.cls := hown
  have hl : lv_has ls 5 [(0, .ref (aD g b)), (1, .int x1), (2, .int x2), (3, .int x3)] := hl
  have hinX3 : ∀ w ∈ u_ws RX3 TX3 3, w ∈ wsX3_make := by decide +kernel
  have w_31 : ∀ (n : Nat), ∀ (x1 : Int32) (x2 : Int32) (x3 : Int32) (x4 : Int32) (u : UU) (H : Heap) (locs : List Loc) (ls : Array Slot), Ps g 0 55 u H → va_S (aA g) s.heap H locs → lv_has ls 5 [(0, .ref (aD g b)), (1, .int x1), (2, .int x2), (3, .int x3), (4, .int x4)] → f_X3_make_31 b nr n x1 x2 x3 x4 u = some u' → W p l e R s m args below meth c H locs 0 0 Q (F0 m 31 ls []) := by
    intro n
    induction n with
    | zero =>
      intro x1 x2 x3 x4 u H locs ls hP hS hl hf
      rw [f_X3_make_31] at hf
      cases hf
    | succ n ih =>
      intro x1 x2 x3 x4 u H locs ls hP hS hl hf
      rw [f_X3_make_31] at hf
      refine lv_iload hx hb dX3_make_31 (lv_at hl 4 rfl) ?_
      refine lv_iload_n hx hb dX3_make_33 rfl (lv_at hl 2 rfl) ?_
      refine lv_icmp_ge (tgt := 58) hx hb dX3_make_34 (by decide) (fun c_7 => ?_) (fun c_7 => ?_)
      · rw [if_pos c_7] at hf
        obtain rfl := sp1 hf
        exact kret _ _ _ _ dX3_make_58 hP hS trivial
      rw [if_neg c_7] at hf
      refine lv_aload_n hx hb dX3_make_37 rfl (lv_at hl 0 rfl) ?_
      refine r_get hx hb hts hown hC hP hinX3 b (shf_k0 hsh) (ci := 2) (shf_o hsh) (by decide) rfl 2 (by decide) (hts (.fieldLink RX3 23 "LoafParts$Shelf" "cells" "[I") (by decide +kernel)) (v := .ref (aD g (b + 2))) rfl dX3_make_38 ?_
      refine lv_iload_n hx hb dX3_make_41 rfl (lv_at hl 1 rfl) ?_
      refine lv_aload_n hx hb dX3_make_42 rfl (lv_at hl 0 rfl) ?_
      refine r_get hx hb hts hown hC hP hinX3 b (shf_k0 hsh) (ci := 2) (shf_o hsh) (by decide) rfl 0 (by decide) (hts (.fieldLink RX3 13 "LoafParts$Shelf" "places" "I") (by decide +kernel)) (v := .int (ui u b 0)) rfl dX3_make_43 ?_
      refine lv_imul hx hb dX3_make_46 ?_
      refine lv_iload hx hb dX3_make_47 (lv_at hl 4 rfl) ?_
      refine lv_iadd hx hb dX3_make_49 ?_
      refine lv_iload_n hx hb dX3_make_50 rfl (lv_at hl 3 rfl) ?_
      obtain ⟨hi_8, hf⟩ := ix_ex hf
      obtain ⟨u_9, eu_9, hf⟩ := lt_ex hf
      refine r_ast hx hb hC hP hS (b + 2) (shf_k2 hsh) (shf_2 hsh) hi_8 eu_9 dX3_make_51 (fun H locs hP hS => ?_)
      obtain ⟨x4_10, ex4_10, hf⟩ := lt_ex hf
      refine lv_iinc (v := x4_10) (lv' := [(4, .int x4_10), (0, .ref (aD g b)), (1, .int x1), (2, .int x2), (3, .int x3)]) hx hb dX3_make_52 hl (k := 4) rfl (by rw [ex4_10]; rfl) (by decide) rfl (fun ls hl => ?_)
      refine lv_goto (tgt := 31) hx hb dX3_make_55 (by decide) ?_
      exact ih x1 x2 x3 x4_10 u_9 _ _ _ hP hS (lv_sub hl [1, 2, 3, 4, 0] rfl) hf
  unfold f_X3_make at hf
  refine lv_aload_n hx hb dX3_make_0 rfl (lv_at hl 0 rfl) ?_
  refine lv_iload_n hx hb dX3_make_1 rfl (lv_at hl 1 rfl) ?_
  obtain ⟨q_1, hq_1, hf⟩ := bind_ex hf
  refine r_Vi (As := [.int x1]) (rest := []) (k := b) (ci := 2) ⟨hx, hb, hml, hown, hts⟩ hC hP hS (shf_k0 hsh) (shf_o hsh) (by decide) rfl (c_X3_isNumber l g b nr hsh u x1 hq_1) (cwV 1 hts gX3_make_X3_isNumber rfl rfl rfl (by decide +kernel) ⟨(Nat.le_trans (Nat.le_of_ble_eq_true rfl) hRf), (Nat.le_trans (Nat.le_of_ble_eq_true rfl) hRl)⟩) rfl hl.1 rfl (Nat.le_of_ble_eq_true rfl) dX3_make_2 (fun H locs hP hS => ?_)
  refine lv_if_eq (tgt := 20) hx hb dX3_make_5 (by decide) (fun c_2 => ?_) (fun c_2 => ?_)
  · rw [if_pos c_2] at hf
    obtain rfl := sp1 hf
    exact kret _ _ _ _ dX3_make_20 hP hS trivial
  rw [if_neg c_2] at hf
  refine lv_iload_n hx hb dX3_make_8 rfl (lv_at hl 2 rfl) ?_
  refine lv_if_lt (tgt := 20) hx hb dX3_make_9 (by decide) (fun c_3 => ?_) (fun c_3 => ?_)
  · rw [if_pos c_3] at hf
    obtain rfl := sp1 hf
    exact kret _ _ _ _ dX3_make_20 hP hS trivial
  rw [if_neg c_3] at hf
  refine lv_iload_n hx hb dX3_make_12 rfl (lv_at hl 2 rfl) ?_
  refine lv_aload_n hx hb dX3_make_13 rfl (lv_at hl 0 rfl) ?_
  refine r_get hx hb hts hown hC hP hinX3 b (shf_k0 hsh) (ci := 2) (shf_o hsh) (by decide) rfl 0 (by decide) (hts (.fieldLink RX3 13 "LoafParts$Shelf" "places" "I") (by decide +kernel)) (v := .int (ui u b 0)) rfl dX3_make_14 ?_
  refine lv_icmp_le (tgt := 21) hx hb dX3_make_17 (by decide) (fun c_4 => ?_) (fun c_4 => ?_)
  · rw [if_pos c_4] at hf
    refine lv_aload_n hx hb dX3_make_21 rfl (lv_at hl 0 rfl) ?_
    refine r_get hx hb hts hown hC hP hinX3 b (shf_k0 hsh) (ci := 2) (shf_o hsh) (by decide) rfl 1 (by decide) (hts (.fieldLink RX3 19 "LoafParts$Shelf" "sizes" "[I") (by decide +kernel)) (v := .ref (aD g (b + 1))) rfl dX3_make_22 ?_
    refine lv_iload_n hx hb dX3_make_25 rfl (lv_at hl 1 rfl) ?_
    refine lv_iload_n hx hb dX3_make_26 rfl (lv_at hl 2 rfl) ?_
    obtain ⟨hi_5, hf⟩ := ix_ex hf
    obtain ⟨u_6, eu_6, hf⟩ := lt_ex hf
    refine r_ast hx hb hC hP hS (b + 1) (shf_k1 hsh) (shf_1 hsh) hi_5 eu_6 dX3_make_27 (fun H locs hP hS => ?_)
    refine lv_iconst (v := (0 : Int32)) hx hb dX3_make_28 (by decide) ?_
    refine lv_istore (lv' := [(4, .int (0 : Int32)), (0, .ref (aD g b)), (1, .int x1), (2, .int x2), (3, .int x3)]) hx hb dX3_make_29 hl (by decide) rfl (fun ls hl => ?_)
    exact w_31 fu x1 x2 x3 (0 : Int32) u_6 _ _ _ hP hS (lv_sub hl [1, 2, 3, 4, 0] rfl) hf
  rw [if_neg c_4] at hf
  obtain rfl := sp1 hf
  exact kret _ _ _ _ dX3_make_20 hP hS trivial
set_option maxHeartbeats 4000000 in
set_option maxRecDepth 100000 in
theorem c_X5_row (l : Launch) (g : GG) (u : UU) (x1 : Int32) (x2 : Int32) {r : Int32} {u' : UU} (hf : f_X5_row x1 x2 u = some (r, u')) : Ci l g 0 55 yX5_row wsX5_row 2 45 [.ref (aD g 0), .int x1, .int x2] u r u' := by
  refine ct_i (cc := cX5_row) (maxL := 3) (by decide) rfl (Nat.le_of_ble_eq_true rfl) ?_
  intro p e s m args below meth c R Q ls hx hb hml hown hts hC hP hl hRf hRl kret hS
  have hown : s.vm.findClass RX5 = some m.cls := hown
  have hl : lv_has ls 3 [(0, .ref (aD g 0)), (1, .int x1), (2, .int x2)] := hl
  have hinX5 : ∀ w ∈ u_ws RX5 TX5 12, w ∈ wsX5_row := by decide +kernel
  unfold f_X5_row at hf
  refine lv_aload_n hx hb dX5_row_0 rfl (lv_at hl 0 rfl) ?_
  refine r_get hx hb hts hown hC hP hinX5 0 (by decide) (ci := 4) rfl (by decide) rfl 0 (by decide) (hts (.fieldLink RX5 14 "LoafParts" "rows" "LLoafParts$Shelf;") (by decide +kernel)) (v := .ref (aD g 1)) rfl dX5_row_1 ?_
  refine lv_iload_n hx hb dX5_row_4 rfl (lv_at hl 1 rfl) ?_
  obtain ⟨q_1, hq_1, hf⟩ := bind_ex hf
  refine r_Vi (As := [.int x1]) (rest := []) (k := 1) (ci := 2) ⟨hx, hb, hml, hown, hts⟩ hC hP hS (by decide) rfl (by decide) rfl (c_X3_isNumber l g 1 6 shf_rows u x1 hq_1) (cwV 1 hts gX5_row_X3_isNumber rfl rfl rfl (by decide +kernel) ⟨(Nat.le_trans (Nat.le_of_ble_eq_true rfl) hRf), (Nat.le_trans (Nat.le_of_ble_eq_true rfl) hRl)⟩) rfl hl.1 rfl (Nat.le_of_ble_eq_true rfl) dX5_row_5 (fun H locs hP hS => ?_)
  refine lv_if_eq (tgt := 17) hx hb dX5_row_8 (by decide) (fun c_2 => ?_) (fun c_2 => ?_)
  · rw [if_pos c_2] at hf
    refine lv_iconst (v := (-1 : Int32)) hx hb dX5_row_17 (by decide) ?_
    obtain ⟨rfl, rfl⟩ := sp2 hf
    exact kret _ _ _ _ dX5_row_18 hP hS trivial
  rw [if_neg c_2] at hf
  refine lv_iload_n hx hb dX5_row_11 rfl (lv_at hl 2 rfl) ?_
  refine lv_bipush (v := (40 : Int32)) hx hb dX5_row_12 (by decide) ?_
  refine lv_icmp_le (tgt := 19) hx hb dX5_row_14 (by decide) (fun c_3 => ?_) (fun c_3 => ?_)
  · rw [if_pos c_3] at hf
    refine lv_iload_n hx hb dX5_row_19 rfl (lv_at hl 2 rfl) ?_
    refine lv_if_ge (tgt := 29) hx hb dX5_row_20 (by decide) (fun c_4 => ?_) (fun c_4 => ?_)
    · rw [if_pos c_4] at hf
      refine lv_aload_n hx hb dX5_row_29 rfl (lv_at hl 0 rfl) ?_
      refine r_get hx hb hts hown hC hP hinX5 0 (by decide) (ci := 4) rfl (by decide) rfl 0 (by decide) (hts (.fieldLink RX5 14 "LoafParts" "rows" "LLoafParts$Shelf;") (by decide +kernel)) (v := .ref (aD g 1)) rfl dX5_row_30 ?_
      refine lv_iload_n hx hb dX5_row_33 rfl (lv_at hl 1 rfl) ?_
      refine lv_iload_n hx hb dX5_row_34 rfl (lv_at hl 2 rfl) ?_
      refine lv_iconst (v := (0 : Int32)) hx hb dX5_row_35 (by decide) ?_
      obtain ⟨q_5, hq_5, hf⟩ := bind_ex hf
      refine r_Vv (As := [.int x1, .int x2, .int (0 : Int32)]) (rest := []) (k := 1) (ci := 2) ⟨hx, hb, hml, hown, hts⟩ hC hP hS (by decide) rfl (by decide) rfl (c_X3_make l g 1 6 shf_rows u x1 x2 (0 : Int32) hq_5) (cwV 3 hts gX5_row_X3_make rfl rfl rfl (by decide +kernel) ⟨(Nat.le_trans (Nat.le_of_ble_eq_true rfl) hRf), (Nat.le_trans (Nat.le_of_ble_eq_true rfl) hRl)⟩) rfl hl.1 rfl (Nat.le_of_ble_eq_true rfl) dX5_row_36 (fun H locs hP hS => ?_)
      refine lv_iload_n hx hb dX5_row_39 rfl (lv_at hl 2 rfl) ?_
      obtain ⟨rfl, rfl⟩ := sp2 hf
      exact kret _ _ _ _ dX5_row_40 hP hS trivial
    rw [if_neg c_4] at hf
    refine lv_aload_n hx hb dX5_row_23 rfl (lv_at hl 0 rfl) ?_
    refine lv_iconst (v := (5 : Int32)) hx hb dX5_row_24 (by decide) ?_
    obtain ⟨q_6, hq_6, hf⟩ := bind_ex hf
    refine r_Vi (r := q_6.1) (u' := q_6.2) (As := [.int (5 : Int32)]) (rest := []) (k := 0) (ci := 4) ⟨hx, hb, hml, hown, hts⟩ hC hP hS (by decide) rfl (by decide) rfl (c_X5_found l g u (5 : Int32) hq_6) (cwV 1 hts gX5_row_X5_found rfl rfl rfl (by decide +kernel) ⟨(Nat.le_trans (Nat.le_of_ble_eq_true rfl) hRf), (Nat.le_trans (Nat.le_of_ble_eq_true rfl) hRl)⟩) rfl hl.1 rfl (Nat.le_of_ble_eq_true rfl) dX5_row_25 (fun H locs hP hS => ?_)
    obtain ⟨rfl, rfl⟩ := sp2 hf
    exact kret _ _ _ _ dX5_row_28 hP hS trivial
  rw [if_neg c_3] at hf
  refine lv_iconst (v := (-1 : Int32)) hx hb dX5_row_17 (by decide) ?_
  obtain ⟨rfl, rfl⟩ := sp2 hf
  exact kret _ _ _ _ dX5_row_18 hP hS trivial
set_option maxHeartbeats 4000000 in
set_option maxRecDepth 100000 in
theorem c_X3_sizeOf (l : Launch) (g : GG) (b nr : Nat) (hsh : shf b nr) (u : UU) (x1 : Int32) {r : Int32} (hf : f_X3_sizeOf b nr x1 u = some r) : Ci l g 0 55 yX3_sizeOf wsX3_sizeOf 1 21 [.ref (aD g b), .int x1] u r u := by
  refine ct_i (cc := cX3_sizeOf) (maxL := 2) (by decide) rfl (Nat.le_of_ble_eq_true rfl) ?_
  intro p e s m args below meth c R Q ls hx hb hml hown hts hC hP hl hRf hRl kret hS
  have hown : s.vm.findClass RX3 = some m.cls := hown
  have hl : lv_has ls 2 [(0, .ref (aD g b)), (1, .int x1)] := hl
  have hinX3 : ∀ w ∈ u_ws RX3 TX3 3, w ∈ wsX3_sizeOf := by decide +kernel
  unfold f_X3_sizeOf at hf
  refine lv_aload_n hx hb dX3_sizeOf_0 rfl (lv_at hl 0 rfl) ?_
  refine lv_iload_n hx hb dX3_sizeOf_1 rfl (lv_at hl 1 rfl) ?_
  obtain ⟨q_1, hq_1, hf⟩ := bind_ex hf
  refine r_Vi (As := [.int x1]) (rest := []) (k := b) (ci := 2) ⟨hx, hb, hml, hown, hts⟩ hC hP hS (shf_k0 hsh) (shf_o hsh) (by decide) rfl (c_X3_isNumber l g b nr hsh u x1 hq_1) (cwV 1 hts gX3_sizeOf_X3_isNumber rfl rfl rfl (by decide +kernel) ⟨(Nat.le_trans (Nat.le_of_ble_eq_true rfl) hRf), (Nat.le_trans (Nat.le_of_ble_eq_true rfl) hRl)⟩) rfl hl.1 rfl (Nat.le_of_ble_eq_true rfl) dX3_sizeOf_2 (fun H locs hP hS => ?_)
  refine lv_if_eq (tgt := 17) hx hb dX3_sizeOf_5 (by decide) (fun c_2 => ?_) (fun c_2 => ?_)
  · rw [if_pos c_2] at hf
    refine lv_iconst (v := (-1 : Int32)) hx hb dX3_sizeOf_17 (by decide) ?_
    obtain rfl := sp1 hf
    exact kret _ _ _ _ dX3_sizeOf_18 hP hS trivial
  rw [if_neg c_2] at hf
  refine lv_aload_n hx hb dX3_sizeOf_8 rfl (lv_at hl 0 rfl) ?_
  refine r_get hx hb hts hown hC hP hinX3 b (shf_k0 hsh) (ci := 2) (shf_o hsh) (by decide) rfl 1 (by decide) (hts (.fieldLink RX3 19 "LoafParts$Shelf" "sizes" "[I") (by decide +kernel)) (v := .ref (aD g (b + 1))) rfl dX3_sizeOf_9 ?_
  refine lv_iload_n hx hb dX3_sizeOf_12 rfl (lv_at hl 1 rfl) ?_
  obtain ⟨hi_3, hf⟩ := ix_ex hf
  refine r_ald hx hb hC hP (b + 1) (shf_k1 hsh) (shf_1 hsh) hi_3 dX3_sizeOf_13 ?_
  refine lv_goto (tgt := 18) hx hb dX3_sizeOf_14 (by decide) ?_
  obtain rfl := sp1 hf
  exact kret _ _ _ _ dX3_sizeOf_18 hP hS trivial
set_option maxHeartbeats 4000000 in
set_option maxRecDepth 100000 in
theorem c_X3_isThere (l : Launch) (g : GG) (b nr : Nat) (hsh : shf b nr) (u : UU) (x1 : Int32) {r : Int32} (hf : f_X3_isThere b nr x1 u = some r) : Ci l g 0 55 yX3_isThere wsX3_isThere 2 42 [.ref (aD g b), .int x1] u r u := by
  refine ct_z (cc := cX3_isThere) (maxL := 2) (by decide) rfl (Nat.le_of_ble_eq_true rfl) ?_
  intro p e s m args below meth c R Q ls hx hb hml hown hts hC hP hl hRf hRl kret hS
  have hown : s.vm.findClass RX3 = some m.cls := hown
  have hl : lv_has ls 2 [(0, .ref (aD g b)), (1, .int x1)] := hl
  unfold f_X3_isThere at hf
  refine lv_aload_n hx hb dX3_isThere_0 rfl (lv_at hl 0 rfl) ?_
  refine lv_iload_n hx hb dX3_isThere_1 rfl (lv_at hl 1 rfl) ?_
  obtain ⟨q_1, hq_1, hf⟩ := bind_ex hf
  refine r_Vi (As := [.int x1]) (rest := []) (k := b) (ci := 2) ⟨hx, hb, hml, hown, hts⟩ hC hP hS (shf_k0 hsh) (shf_o hsh) (by decide) rfl (c_X3_sizeOf l g b nr hsh u x1 hq_1) (cwV 1 hts gX3_isThere_X3_sizeOf rfl rfl rfl (by decide +kernel) ⟨(Nat.le_trans (Nat.le_of_ble_eq_true rfl) hRf), (Nat.le_trans (Nat.le_of_ble_eq_true rfl) hRl)⟩) rfl hl.1 rfl (Nat.le_of_ble_eq_true rfl) dX3_isThere_2 (fun H locs hP hS => ?_)
  refine lv_iconst (v := (-1 : Int32)) hx hb dX3_isThere_5 (by decide) ?_
  refine lv_icmp_eq (tgt := 13) hx hb dX3_isThere_6 (by decide) (fun c_2 => ?_) (fun c_2 => ?_)
  · rw [if_pos c_2] at hf
    refine lv_iconst (v := (0 : Int32)) hx hb dX3_isThere_13 (by decide) ?_
    obtain rfl := sp1 hf
    exact kret _ _ _ _ dX3_isThere_14 hP hS rfl
  rw [if_neg c_2] at hf
  refine lv_iconst (v := (1 : Int32)) hx hb dX3_isThere_9 (by decide) ?_
  refine lv_goto (tgt := 14) hx hb dX3_isThere_10 (by decide) ?_
  obtain rfl := sp1 hf
  exact kret _ _ _ _ dX3_isThere_14 hP hS rfl
set_option maxHeartbeats 4000000 in
set_option maxRecDepth 100000 in
theorem c_X5_refuseMissing (l : Launch) (g : GG) (b nr : Nat) (hsh : shf b nr) (u : UU) (x2 : Int32) {r : Int32} {u' : UU} (hf : f_X5_refuseMissing b nr x2 u = some (r, u')) : Ci l g 0 55 yX5_refuseMissing wsX5_refuseMissing 3 63 [.ref (aD g 0), .ref (aD g b), .int x2] u r u' := by
  refine ct_i (cc := cX5_refuseMissing) (maxL := 3) (by decide) rfl (Nat.le_of_ble_eq_true rfl) ?_
  intro p e s m args below meth c R Q ls hx hb hml hown hts hC hP hl hRf hRl kret hS
  have hown : s.vm.findClass RX5 = some m.cls := hown
  have hl : lv_has ls 3 [(0, .ref (aD g 0)), (1, .ref (aD g b)), (2, .int x2)] := hl
  unfold f_X5_refuseMissing at hf
  refine lv_aload_n hx hb dX5_refuseMissing_0 rfl (lv_at hl 1 rfl) ?_
  refine lv_iload_n hx hb dX5_refuseMissing_1 rfl (lv_at hl 2 rfl) ?_
  obtain ⟨q_1, hq_1, hf⟩ := bind_ex hf
  refine r_Vi (As := [.int x2]) (rest := []) (k := b) (ci := 2) ⟨hx, hb, hml, hown, hts⟩ hC hP hS (shf_k0 hsh) (shf_o hsh) (by decide) rfl (c_X3_isNumber l g b nr hsh u x2 hq_1) (cwV 1 hts gX5_refuseMissing_X3_isNumber rfl rfl rfl (by decide +kernel) ⟨(Nat.le_trans (Nat.le_of_ble_eq_true rfl) hRf), (Nat.le_trans (Nat.le_of_ble_eq_true rfl) hRl)⟩) rfl hl.1 rfl (Nat.le_of_ble_eq_true rfl) dX5_refuseMissing_2 (fun H locs hP hS => ?_)
  refine lv_if_ne (tgt := 10) hx hb dX5_refuseMissing_5 (by decide) (fun c_2 => ?_) (fun c_2 => ?_)
  · rw [if_neg c_2] at hf
    refine lv_aload_n hx hb dX5_refuseMissing_10 rfl (lv_at hl 1 rfl) ?_
    refine lv_iload_n hx hb dX5_refuseMissing_11 rfl (lv_at hl 2 rfl) ?_
    obtain ⟨q_3, hq_3, hf⟩ := bind_ex hf
    refine r_Vi (As := [.int x2]) (rest := []) (k := b) (ci := 2) ⟨hx, hb, hml, hown, hts⟩ hC hP hS (shf_k0 hsh) (shf_o hsh) (by decide) rfl (c_X3_isThere l g b nr hsh u x2 hq_3) (cwV 1 hts gX5_refuseMissing_X3_isThere rfl rfl rfl (by decide +kernel) ⟨(Nat.le_trans (Nat.le_of_ble_eq_true rfl) hRf), (Nat.le_trans (Nat.le_of_ble_eq_true rfl) hRl)⟩) rfl hl.1 rfl (Nat.le_of_ble_eq_true rfl) dX5_refuseMissing_12 (fun H locs hP hS => ?_)
    refine lv_if_eq (tgt := 22) hx hb dX5_refuseMissing_15 (by decide) (fun c_4 => ?_) (fun c_4 => ?_)
    · rw [if_pos c_4] at hf
      refine lv_aload_n hx hb dX5_refuseMissing_22 rfl (lv_at hl 0 rfl) ?_
      refine lv_iconst (v := (1 : Int32)) hx hb dX5_refuseMissing_23 (by decide) ?_
      obtain ⟨q_5, hq_5, hf⟩ := bind_ex hf
      refine r_Vi (r := q_5.1) (u' := q_5.2) (As := [.int (1 : Int32)]) (rest := []) (k := 0) (ci := 4) ⟨hx, hb, hml, hown, hts⟩ hC hP hS (by decide) rfl (by decide) rfl (c_X5_found l g u (1 : Int32) hq_5) (cwV 1 hts gX5_refuseMissing_X5_found rfl rfl rfl (by decide +kernel) ⟨(Nat.le_trans (Nat.le_of_ble_eq_true rfl) hRf), (Nat.le_trans (Nat.le_of_ble_eq_true rfl) hRl)⟩) rfl hl.1 rfl (Nat.le_of_ble_eq_true rfl) dX5_refuseMissing_24 (fun H locs hP hS => ?_)
      obtain ⟨rfl, rfl⟩ := sp2 hf
      exact kret _ _ _ _ dX5_refuseMissing_27 hP hS trivial
    rw [if_neg c_4] at hf
    refine lv_iconst (v := (0 : Int32)) hx hb dX5_refuseMissing_18 (by decide) ?_
    refine lv_goto (tgt := 27) hx hb dX5_refuseMissing_19 (by decide) ?_
    obtain ⟨rfl, rfl⟩ := sp2 hf
    exact kret _ _ _ _ dX5_refuseMissing_27 hP hS trivial
  rw [if_pos c_2] at hf
  refine lv_iconst (v := (-1 : Int32)) hx hb dX5_refuseMissing_8 (by decide) ?_
  obtain ⟨rfl, rfl⟩ := sp2 hf
  exact kret _ _ _ _ dX5_refuseMissing_9 hP hS trivial
set_option maxHeartbeats 4000000 in
set_option maxRecDepth 100000 in
theorem c_X3_hasPlace (l : Launch) (g : GG) (b nr : Nat) (hsh : shf b nr) (u : UU) (x1 : Int32) (x2 : Int32) {r : Int32} (hf : f_X3_hasPlace b nr x1 x2 u = some r) : Ci l g 0 55 yX3_hasPlace wsX3_hasPlace 1 21 [.ref (aD g b), .int x1, .int x2] u r u := by
  refine ct_z (cc := cX3_hasPlace) (maxL := 3) (by decide) rfl (Nat.le_of_ble_eq_true rfl) ?_
  intro p e s m args below meth c R Q ls hx hb hml hown hts hC hP hl hRf hRl kret hS
  have hown : s.vm.findClass RX3 = some m.cls := hown
  have hl : lv_has ls 3 [(0, .ref (aD g b)), (1, .int x1), (2, .int x2)] := hl
  have hinX3 : ∀ w ∈ u_ws RX3 TX3 3, w ∈ wsX3_hasPlace := by decide +kernel
  unfold f_X3_hasPlace at hf
  refine lv_aload_n hx hb dX3_hasPlace_0 rfl (lv_at hl 0 rfl) ?_
  refine lv_iload_n hx hb dX3_hasPlace_1 rfl (lv_at hl 1 rfl) ?_
  obtain ⟨q_1, hq_1, hf⟩ := bind_ex hf
  refine r_Vi (As := [.int x1]) (rest := []) (k := b) (ci := 2) ⟨hx, hb, hml, hown, hts⟩ hC hP hS (shf_k0 hsh) (shf_o hsh) (by decide) rfl (c_X3_isNumber l g b nr hsh u x1 hq_1) (cwV 1 hts gX3_hasPlace_X3_isNumber rfl rfl rfl (by decide +kernel) ⟨(Nat.le_trans (Nat.le_of_ble_eq_true rfl) hRf), (Nat.le_trans (Nat.le_of_ble_eq_true rfl) hRl)⟩) rfl hl.1 rfl (Nat.le_of_ble_eq_true rfl) dX3_hasPlace_2 (fun H locs hP hS => ?_)
  refine lv_if_eq (tgt := 26) hx hb dX3_hasPlace_5 (by decide) (fun c_2 => ?_) (fun c_2 => ?_)
  · rw [if_pos c_2] at hf
    refine lv_iconst (v := (0 : Int32)) hx hb dX3_hasPlace_26 (by decide) ?_
    obtain rfl := sp1 hf
    exact kret _ _ _ _ dX3_hasPlace_27 hP hS rfl
  rw [if_neg c_2] at hf
  refine lv_iload_n hx hb dX3_hasPlace_8 rfl (lv_at hl 2 rfl) ?_
  refine lv_if_lt (tgt := 26) hx hb dX3_hasPlace_9 (by decide) (fun c_3 => ?_) (fun c_3 => ?_)
  · rw [if_pos c_3] at hf
    refine lv_iconst (v := (0 : Int32)) hx hb dX3_hasPlace_26 (by decide) ?_
    obtain rfl := sp1 hf
    exact kret _ _ _ _ dX3_hasPlace_27 hP hS rfl
  rw [if_neg c_3] at hf
  refine lv_iload_n hx hb dX3_hasPlace_12 rfl (lv_at hl 2 rfl) ?_
  refine lv_aload_n hx hb dX3_hasPlace_13 rfl (lv_at hl 0 rfl) ?_
  refine r_get hx hb hts hown hC hP hinX3 b (shf_k0 hsh) (ci := 2) (shf_o hsh) (by decide) rfl 1 (by decide) (hts (.fieldLink RX3 19 "LoafParts$Shelf" "sizes" "[I") (by decide +kernel)) (v := .ref (aD g (b + 1))) rfl dX3_hasPlace_14 ?_
  refine lv_iload_n hx hb dX3_hasPlace_17 rfl (lv_at hl 1 rfl) ?_
  obtain ⟨hi_4, hf⟩ := ix_ex hf
  refine r_ald hx hb hC hP (b + 1) (shf_k1 hsh) (shf_1 hsh) hi_4 dX3_hasPlace_18 ?_
  refine lv_icmp_ge (tgt := 26) hx hb dX3_hasPlace_19 (by decide) (fun c_5 => ?_) (fun c_5 => ?_)
  · rw [if_pos c_5] at hf
    refine lv_iconst (v := (0 : Int32)) hx hb dX3_hasPlace_26 (by decide) ?_
    obtain rfl := sp1 hf
    exact kret _ _ _ _ dX3_hasPlace_27 hP hS rfl
  rw [if_neg c_5] at hf
  refine lv_iconst (v := (1 : Int32)) hx hb dX3_hasPlace_22 (by decide) ?_
  refine lv_goto (tgt := 27) hx hb dX3_hasPlace_23 (by decide) ?_
  obtain rfl := sp1 hf
  exact kret _ _ _ _ dX3_hasPlace_27 hP hS rfl
set_option maxHeartbeats 4000000 in
set_option maxRecDepth 100000 in
theorem c_X5_refusePlace (l : Launch) (g : GG) (b nr : Nat) (hsh : shf b nr) (u : UU) (x2 : Int32) (x3 : Int32) {r : Int32} {u' : UU} (hf : f_X5_refusePlace b nr x2 x3 u = some (r, u')) : Ci l g 0 55 yX5_refusePlace wsX5_refusePlace 4 85 [.ref (aD g 0), .ref (aD g b), .int x2, .int x3] u r u' := by
  refine ct_i (cc := cX5_refusePlace) (maxL := 5) (by decide) rfl (Nat.le_of_ble_eq_true rfl) ?_
  intro p e s m args below meth c R Q ls hx hb hml hown hts hC hP hl hRf hRl kret hS
  have hown : s.vm.findClass RX5 = some m.cls := hown
  have hl : lv_has ls 5 [(0, .ref (aD g 0)), (1, .ref (aD g b)), (2, .int x2), (3, .int x3)] := hl
  unfold f_X5_refusePlace at hf
  refine lv_aload_n hx hb dX5_refusePlace_0 rfl (lv_at hl 0 rfl) ?_
  refine lv_aload_n hx hb dX5_refusePlace_1 rfl (lv_at hl 1 rfl) ?_
  refine lv_iload_n hx hb dX5_refusePlace_2 rfl (lv_at hl 2 rfl) ?_
  obtain ⟨q_1, hq_1, hf⟩ := bind_ex hf
  refine r_Vi (r := q_1.1) (u' := q_1.2) (As := [.ref (aD g b), .int x2]) (rest := []) (k := 0) (ci := 4) ⟨hx, hb, hml, hown, hts⟩ hC hP hS (by decide) rfl (by decide) rfl (c_X5_refuseMissing l g b nr hsh u x2 hq_1) (cwV 2 hts gX5_refusePlace_X5_refuseMissing rfl rfl rfl (by decide +kernel) ⟨(Nat.le_trans (Nat.le_of_ble_eq_true rfl) hRf), (Nat.le_trans (Nat.le_of_ble_eq_true rfl) hRl)⟩) rfl hl.1 rfl (Nat.le_of_ble_eq_true rfl) dX5_refusePlace_3 (fun H locs hP hS => ?_)
  refine lv_istore (lv' := [(4, .int q_1.1), (0, .ref (aD g 0)), (1, .ref (aD g b)), (2, .int x2), (3, .int x3)]) hx hb dX5_refusePlace_6 hl (by decide) rfl (fun ls hl => ?_)
  refine lv_iload hx hb dX5_refusePlace_8 (lv_at hl 0 rfl) ?_
  refine lv_if_eq (tgt := 16) hx hb dX5_refusePlace_10 (by decide) (fun c_2 => ?_) (fun c_2 => ?_)
  · rw [if_pos c_2] at hf
    refine lv_aload_n hx hb dX5_refusePlace_16 rfl (lv_at hl 2 rfl) ?_
    refine lv_iload_n hx hb dX5_refusePlace_17 rfl (lv_at hl 3 rfl) ?_
    refine lv_iload_n hx hb dX5_refusePlace_18 rfl (lv_at hl 4 rfl) ?_
    obtain ⟨q_3, hq_3, hf⟩ := bind_ex hf
    refine r_Vi (As := [.int x2, .int x3]) (rest := []) (k := b) (ci := 2) ⟨hx, hb, hml, hown, hts⟩ hC hP hS (shf_k0 hsh) (shf_o hsh) (by decide) rfl (c_X3_hasPlace l g b nr hsh q_1.2 x2 x3 hq_3) (cwV 2 hts gX5_refusePlace_X3_hasPlace rfl rfl rfl (by decide +kernel) ⟨(Nat.le_trans (Nat.le_of_ble_eq_true rfl) hRf), (Nat.le_trans (Nat.le_of_ble_eq_true rfl) hRl)⟩) rfl hl.1 rfl (Nat.le_of_ble_eq_true rfl) dX5_refusePlace_19 (fun H locs hP hS => ?_)
    refine lv_if_eq (tgt := 29) hx hb dX5_refusePlace_22 (by decide) (fun c_4 => ?_) (fun c_4 => ?_)
    · rw [if_pos c_4] at hf
      refine lv_aload_n hx hb dX5_refusePlace_29 rfl (lv_at hl 1 rfl) ?_
      refine lv_iconst (v := (2 : Int32)) hx hb dX5_refusePlace_30 (by decide) ?_
      obtain ⟨q_5, hq_5, hf⟩ := bind_ex hf
      refine r_Vi (r := q_5.1) (u' := q_5.2) (As := [.int (2 : Int32)]) (rest := []) (k := 0) (ci := 4) ⟨hx, hb, hml, hown, hts⟩ hC hP hS (by decide) rfl (by decide) rfl (c_X5_found l g q_1.2 (2 : Int32) hq_5) (cwV 1 hts gX5_refusePlace_X5_found rfl rfl rfl (by decide +kernel) ⟨(Nat.le_trans (Nat.le_of_ble_eq_true rfl) hRf), (Nat.le_trans (Nat.le_of_ble_eq_true rfl) hRl)⟩) rfl hl.1 rfl (Nat.le_of_ble_eq_true rfl) dX5_refusePlace_31 (fun H locs hP hS => ?_)
      obtain ⟨rfl, rfl⟩ := sp2 hf
      exact kret _ _ _ _ dX5_refusePlace_34 hP hS trivial
    rw [if_neg c_4] at hf
    refine lv_iconst (v := (0 : Int32)) hx hb dX5_refusePlace_25 (by decide) ?_
    refine lv_goto (tgt := 34) hx hb dX5_refusePlace_26 (by decide) ?_
    obtain ⟨rfl, rfl⟩ := sp2 hf
    exact kret _ _ _ _ dX5_refusePlace_34 hP hS trivial
  rw [if_neg c_2] at hf
  refine lv_iload hx hb dX5_refusePlace_13 (lv_at hl 0 rfl) ?_
  obtain ⟨rfl, rfl⟩ := sp2 hf
  exact kret _ _ _ _ dX5_refusePlace_15 hP hS trivial
set_option maxHeartbeats 4000000 in
set_option maxRecDepth 100000 in
theorem c_X3_read (l : Launch) (g : GG) (b nr : Nat) (hsh : shf b nr) (u : UU) (x1 : Int32) (x2 : Int32) {r : Int32} (hf : f_X3_read b nr x1 x2 u = some r) : Ci l g 0 55 yX3_read wsX3_read 2 43 [.ref (aD g b), .int x1, .int x2] u r u := by
  refine ct_i (cc := cX3_read) (maxL := 3) (by decide) rfl (Nat.le_of_ble_eq_true rfl) ?_
  intro p e s m args below meth c R Q ls hx hb hml hown hts hC hP hl hRf hRl kret hS
  have hown : s.vm.findClass RX3 = some m.cls := hown
  have hl : lv_has ls 3 [(0, .ref (aD g b)), (1, .int x1), (2, .int x2)] := hl
  have hinX3 : ∀ w ∈ u_ws RX3 TX3 3, w ∈ wsX3_read := by decide +kernel
  unfold f_X3_read at hf
  refine lv_aload_n hx hb dX3_read_0 rfl (lv_at hl 0 rfl) ?_
  refine lv_iload_n hx hb dX3_read_1 rfl (lv_at hl 1 rfl) ?_
  refine lv_iload_n hx hb dX3_read_2 rfl (lv_at hl 2 rfl) ?_
  obtain ⟨q_1, hq_1, hf⟩ := bind_ex hf
  refine r_Vi (As := [.int x1, .int x2]) (rest := []) (k := b) (ci := 2) ⟨hx, hb, hml, hown, hts⟩ hC hP hS (shf_k0 hsh) (shf_o hsh) (by decide) rfl (c_X3_hasPlace l g b nr hsh u x1 x2 hq_1) (cwV 2 hts gX3_read_X3_hasPlace rfl rfl rfl (by decide +kernel) ⟨(Nat.le_trans (Nat.le_of_ble_eq_true rfl) hRf), (Nat.le_trans (Nat.le_of_ble_eq_true rfl) hRl)⟩) rfl hl.1 rfl (Nat.le_of_ble_eq_true rfl) dX3_read_3 (fun H locs hP hS => ?_)
  refine lv_if_eq (tgt := 25) hx hb dX3_read_6 (by decide) (fun c_2 => ?_) (fun c_2 => ?_)
  · rw [if_pos c_2] at hf
    refine lv_iconst (v := (0 : Int32)) hx hb dX3_read_25 (by decide) ?_
    obtain rfl := sp1 hf
    exact kret _ _ _ _ dX3_read_26 hP hS trivial
  rw [if_neg c_2] at hf
  refine lv_aload_n hx hb dX3_read_9 rfl (lv_at hl 0 rfl) ?_
  refine r_get hx hb hts hown hC hP hinX3 b (shf_k0 hsh) (ci := 2) (shf_o hsh) (by decide) rfl 2 (by decide) (hts (.fieldLink RX3 23 "LoafParts$Shelf" "cells" "[I") (by decide +kernel)) (v := .ref (aD g (b + 2))) rfl dX3_read_10 ?_
  refine lv_iload_n hx hb dX3_read_13 rfl (lv_at hl 1 rfl) ?_
  refine lv_aload_n hx hb dX3_read_14 rfl (lv_at hl 0 rfl) ?_
  refine r_get hx hb hts hown hC hP hinX3 b (shf_k0 hsh) (ci := 2) (shf_o hsh) (by decide) rfl 0 (by decide) (hts (.fieldLink RX3 13 "LoafParts$Shelf" "places" "I") (by decide +kernel)) (v := .int (ui u b 0)) rfl dX3_read_15 ?_
  refine lv_imul hx hb dX3_read_18 ?_
  refine lv_iload_n hx hb dX3_read_19 rfl (lv_at hl 2 rfl) ?_
  refine lv_iadd hx hb dX3_read_20 ?_
  obtain ⟨hi_3, hf⟩ := ix_ex hf
  refine r_ald hx hb hC hP (b + 2) (shf_k2 hsh) (shf_2 hsh) hi_3 dX3_read_21 ?_
  refine lv_goto (tgt := 26) hx hb dX3_read_22 (by decide) ?_
  obtain rfl := sp1 hf
  exact kret _ _ _ _ dX3_read_26 hP hS trivial
set_option maxHeartbeats 4000000 in
set_option maxRecDepth 100000 in
theorem c_X3_write (l : Launch) (g : GG) (b nr : Nat) (hsh : shf b nr) (u : UU) (x1 : Int32) (x2 : Int32) (x3 : Int32) {u' : UU} (hf : f_X3_write b nr x1 x2 x3 u = some u') : Cv l g 0 55 yX3_write wsX3_write 2 43 [.ref (aD g b), .int x1, .int x2, .int x3] u u' := by
  refine ct_v (cc := cX3_write) (maxL := 4) (by decide) rfl (Nat.le_of_ble_eq_true rfl) ?_
  intro p e s m args below meth c R Q ls hx hb hml hown hts hC hP hl hRf hRl kret hS
  have hown : s.vm.findClass RX3 = some m.cls := hown
  have hl : lv_has ls 4 [(0, .ref (aD g b)), (1, .int x1), (2, .int x2), (3, .int x3)] := hl
  have hinX3 : ∀ w ∈ u_ws RX3 TX3 3, w ∈ wsX3_write := by decide +kernel
  unfold f_X3_write at hf
  refine lv_aload_n hx hb dX3_write_0 rfl (lv_at hl 0 rfl) ?_
  refine lv_iload_n hx hb dX3_write_1 rfl (lv_at hl 1 rfl) ?_
  refine lv_iload_n hx hb dX3_write_2 rfl (lv_at hl 2 rfl) ?_
  obtain ⟨q_1, hq_1, hf⟩ := bind_ex hf
  refine r_Vi (As := [.int x1, .int x2]) (rest := []) (k := b) (ci := 2) ⟨hx, hb, hml, hown, hts⟩ hC hP hS (shf_k0 hsh) (shf_o hsh) (by decide) rfl (c_X3_hasPlace l g b nr hsh u x1 x2 hq_1) (cwV 2 hts gX3_write_X3_hasPlace rfl rfl rfl (by decide +kernel) ⟨(Nat.le_trans (Nat.le_of_ble_eq_true rfl) hRf), (Nat.le_trans (Nat.le_of_ble_eq_true rfl) hRl)⟩) rfl hl.1 rfl (Nat.le_of_ble_eq_true rfl) dX3_write_3 (fun H locs hP hS => ?_)
  refine lv_if_eq (tgt := 23) hx hb dX3_write_6 (by decide) (fun c_2 => ?_) (fun c_2 => ?_)
  · rw [if_pos c_2] at hf
    obtain rfl := sp1 hf
    exact kret _ _ _ _ dX3_write_23 hP hS trivial
  rw [if_neg c_2] at hf
  refine lv_aload_n hx hb dX3_write_9 rfl (lv_at hl 0 rfl) ?_
  refine r_get hx hb hts hown hC hP hinX3 b (shf_k0 hsh) (ci := 2) (shf_o hsh) (by decide) rfl 2 (by decide) (hts (.fieldLink RX3 23 "LoafParts$Shelf" "cells" "[I") (by decide +kernel)) (v := .ref (aD g (b + 2))) rfl dX3_write_10 ?_
  refine lv_iload_n hx hb dX3_write_13 rfl (lv_at hl 1 rfl) ?_
  refine lv_aload_n hx hb dX3_write_14 rfl (lv_at hl 0 rfl) ?_
  refine r_get hx hb hts hown hC hP hinX3 b (shf_k0 hsh) (ci := 2) (shf_o hsh) (by decide) rfl 0 (by decide) (hts (.fieldLink RX3 13 "LoafParts$Shelf" "places" "I") (by decide +kernel)) (v := .int (ui u b 0)) rfl dX3_write_15 ?_
  refine lv_imul hx hb dX3_write_18 ?_
  refine lv_iload_n hx hb dX3_write_19 rfl (lv_at hl 2 rfl) ?_
  refine lv_iadd hx hb dX3_write_20 ?_
  refine lv_iload_n hx hb dX3_write_21 rfl (lv_at hl 3 rfl) ?_
  obtain ⟨hi_3, hf⟩ := ix_ex hf
  obtain ⟨u_4, eu_4, hf⟩ := lt_ex hf
  refine r_ast hx hb hC hP hS (b + 2) (shf_k2 hsh) (shf_2 hsh) hi_3 eu_4 dX3_write_22 (fun H locs hP hS => ?_)
  obtain rfl := sp1 hf
  exact kret _ _ _ _ dX3_write_23 hP hS trivial
set_option maxHeartbeats 4000000 in
set_option maxRecDepth 100000 in
theorem c_X5_lay (l : Launch) (g : GG) (u : UU) (x1 : Int32) (x2 : Int32) (x3 : Int32) {r : Int32} {u' : UU} (hf : f_X5_lay x1 x2 x3 u = some (r, u')) : Ci l g 0 55 yX5_lay wsX5_lay 5 109 [.ref (aD g 0), .int x1, .int x2, .int x3] u r u' := by
  refine ct_i (cc := cX5_lay) (maxL := 5) (by decide) rfl (Nat.le_of_ble_eq_true rfl) ?_
  intro p e s m args below meth c R Q ls hx hb hml hown hts hC hP hl hRf hRl kret hS
  have hown : s.vm.findClass RX5 = some m.cls := hown
  have hl : lv_has ls 5 [(0, .ref (aD g 0)), (1, .int x1), (2, .int x2), (3, .int x3)] := hl
  have hinX5 : ∀ w ∈ u_ws RX5 TX5 12, w ∈ wsX5_lay := by decide +kernel
  unfold f_X5_lay at hf
  refine lv_aload_n hx hb dX5_lay_0 rfl (lv_at hl 0 rfl) ?_
  refine lv_aload_n hx hb dX5_lay_1 rfl (lv_at hl 0 rfl) ?_
  refine r_get hx hb hts hown hC hP hinX5 0 (by decide) (ci := 4) rfl (by decide) rfl 0 (by decide) (hts (.fieldLink RX5 14 "LoafParts" "rows" "LLoafParts$Shelf;") (by decide +kernel)) (v := .ref (aD g 1)) rfl dX5_lay_2 ?_
  refine lv_iload_n hx hb dX5_lay_5 rfl (lv_at hl 1 rfl) ?_
  refine lv_iload_n hx hb dX5_lay_6 rfl (lv_at hl 2 rfl) ?_
  obtain ⟨q_1, hq_1, hf⟩ := bind_ex hf
  refine r_Vi (r := q_1.1) (u' := q_1.2) (As := [.ref (aD g 1), .int x1, .int x2]) (rest := []) (k := 0) (ci := 4) ⟨hx, hb, hml, hown, hts⟩ hC hP hS (by decide) rfl (by decide) rfl (c_X5_refusePlace l g 1 6 shf_rows u x1 x2 hq_1) (cwV 3 hts gX5_lay_X5_refusePlace rfl rfl rfl (by decide +kernel) ⟨(Nat.le_trans (Nat.le_of_ble_eq_true rfl) hRf), (Nat.le_trans (Nat.le_of_ble_eq_true rfl) hRl)⟩) rfl hl.1 rfl (Nat.le_of_ble_eq_true rfl) dX5_lay_7 (fun H locs hP hS => ?_)
  refine lv_istore (lv' := [(4, .int q_1.1), (0, .ref (aD g 0)), (1, .int x1), (2, .int x2), (3, .int x3)]) hx hb dX5_lay_10 hl (by decide) rfl (fun ls hl => ?_)
  refine lv_iload hx hb dX5_lay_12 (lv_at hl 0 rfl) ?_
  refine lv_if_eq (tgt := 20) hx hb dX5_lay_14 (by decide) (fun c_2 => ?_) (fun c_2 => ?_)
  · rw [if_pos c_2] at hf
    refine lv_aload_n hx hb dX5_lay_20 rfl (lv_at hl 1 rfl) ?_
    refine lv_aload_n hx hb dX5_lay_21 rfl (lv_at hl 1 rfl) ?_
    refine r_get hx hb hts hown hC hP hinX5 0 (by decide) (ci := 4) rfl (by decide) rfl 0 (by decide) (hts (.fieldLink RX5 14 "LoafParts" "rows" "LLoafParts$Shelf;") (by decide +kernel)) (v := .ref (aD g 1)) rfl dX5_lay_22 ?_
    refine lv_iload_n hx hb dX5_lay_25 rfl (lv_at hl 2 rfl) ?_
    refine lv_iload_n hx hb dX5_lay_26 rfl (lv_at hl 3 rfl) ?_
    obtain ⟨q_3, hq_3, hf⟩ := bind_ex hf
    refine r_Vi (As := [.int x1, .int x2]) (rest := [.ref (aD g 0)]) (k := 1) (ci := 2) ⟨hx, hb, hml, hown, hts⟩ hC hP hS (by decide) rfl (by decide) rfl (c_X3_read l g 1 6 shf_rows q_1.2 x1 x2 hq_3) (cwV 2 hts gX5_lay_X3_read rfl rfl rfl (by decide +kernel) ⟨(Nat.le_trans (Nat.le_of_ble_eq_true rfl) hRf), (Nat.le_trans (Nat.le_of_ble_eq_true rfl) hRl)⟩) rfl hl.1 rfl (Nat.le_of_ble_eq_true rfl) dX5_lay_27 (fun H locs hP hS => ?_)
    obtain ⟨u_4, eu_4, hf⟩ := lt_ex hf
    refine r_puti hx hb hts hown hC hP hS hinX5 tyX5 tyX5_ok nmX5 0 (by decide) (ci := 4) rfl (by decide) rfl 9 (by decide) (hts (.fieldLink RX5 77 "LoafParts" "told" "I") (by decide +kernel)) rfl (ty := .int) (by decide +kernel) rfl rfl (by decide) (by decide) eu_4 dX5_lay_30 (fun H locs hP hS => ?_)
    refine lv_aload_n hx hb dX5_lay_33 rfl (lv_at hl 1 rfl) ?_
    refine r_get hx hb hts hown hC hP hinX5 0 (by decide) (ci := 4) rfl (by decide) rfl 0 (by decide) (hts (.fieldLink RX5 14 "LoafParts" "rows" "LLoafParts$Shelf;") (by decide +kernel)) (v := .ref (aD g 1)) rfl dX5_lay_34 ?_
    refine lv_iload_n hx hb dX5_lay_37 rfl (lv_at hl 2 rfl) ?_
    refine lv_iload_n hx hb dX5_lay_38 rfl (lv_at hl 3 rfl) ?_
    refine lv_iload_n hx hb dX5_lay_39 rfl (lv_at hl 4 rfl) ?_
    obtain ⟨q_5, hq_5, hf⟩ := bind_ex hf
    refine r_Vv (As := [.int x1, .int x2, .int x3]) (rest := []) (k := 1) (ci := 2) ⟨hx, hb, hml, hown, hts⟩ hC hP hS (by decide) rfl (by decide) rfl (c_X3_write l g 1 6 shf_rows u_4 x1 x2 x3 hq_5) (cwV 3 hts gX5_lay_X3_write rfl rfl rfl (by decide +kernel) ⟨(Nat.le_trans (Nat.le_of_ble_eq_true rfl) hRf), (Nat.le_trans (Nat.le_of_ble_eq_true rfl) hRl)⟩) rfl hl.1 rfl (Nat.le_of_ble_eq_true rfl) dX5_lay_40 (fun H locs hP hS => ?_)
    refine lv_iconst (v := (1 : Int32)) hx hb dX5_lay_43 (by decide) ?_
    obtain ⟨rfl, rfl⟩ := sp2 hf
    exact kret _ _ _ _ dX5_lay_44 hP hS trivial
  rw [if_neg c_2] at hf
  refine lv_iload hx hb dX5_lay_17 (lv_at hl 0 rfl) ?_
  obtain ⟨rfl, rfl⟩ := sp2 hf
  exact kret _ _ _ _ dX5_lay_19 hP hS trivial
set_option maxHeartbeats 4000000 in
set_option maxRecDepth 100000 in
theorem c_X5_at (l : Launch) (g : GG) (u : UU) (x1 : Int32) (x2 : Int32) {r : Int32} {u' : UU} (hf : f_X5_at x1 x2 u = some (r, u')) : Ci l g 0 55 yX5_at wsX5_at 5 109 [.ref (aD g 0), .int x1, .int x2] u r u' := by
  refine ct_i (cc := cX5_at) (maxL := 4) (by decide) rfl (Nat.le_of_ble_eq_true rfl) ?_
  intro p e s m args below meth c R Q ls hx hb hml hown hts hC hP hl hRf hRl kret hS
  have hown : s.vm.findClass RX5 = some m.cls := hown
  have hl : lv_has ls 4 [(0, .ref (aD g 0)), (1, .int x1), (2, .int x2)] := hl
  have hinX5 : ∀ w ∈ u_ws RX5 TX5 12, w ∈ wsX5_at := by decide +kernel
  unfold f_X5_at at hf
  refine lv_aload_n hx hb dX5_at_0 rfl (lv_at hl 0 rfl) ?_
  refine lv_aload_n hx hb dX5_at_1 rfl (lv_at hl 0 rfl) ?_
  refine r_get hx hb hts hown hC hP hinX5 0 (by decide) (ci := 4) rfl (by decide) rfl 0 (by decide) (hts (.fieldLink RX5 14 "LoafParts" "rows" "LLoafParts$Shelf;") (by decide +kernel)) (v := .ref (aD g 1)) rfl dX5_at_2 ?_
  refine lv_iload_n hx hb dX5_at_5 rfl (lv_at hl 1 rfl) ?_
  refine lv_iload_n hx hb dX5_at_6 rfl (lv_at hl 2 rfl) ?_
  obtain ⟨q_1, hq_1, hf⟩ := bind_ex hf
  refine r_Vi (r := q_1.1) (u' := q_1.2) (As := [.ref (aD g 1), .int x1, .int x2]) (rest := []) (k := 0) (ci := 4) ⟨hx, hb, hml, hown, hts⟩ hC hP hS (by decide) rfl (by decide) rfl (c_X5_refusePlace l g 1 6 shf_rows u x1 x2 hq_1) (cwV 3 hts gX5_at_X5_refusePlace rfl rfl rfl (by decide +kernel) ⟨(Nat.le_trans (Nat.le_of_ble_eq_true rfl) hRf), (Nat.le_trans (Nat.le_of_ble_eq_true rfl) hRl)⟩) rfl hl.1 rfl (Nat.le_of_ble_eq_true rfl) dX5_at_7 (fun H locs hP hS => ?_)
  refine lv_istore_n (lv' := [(3, .int q_1.1), (0, .ref (aD g 0)), (1, .int x1), (2, .int x2)]) hx hb dX5_at_10 rfl hl (by decide) rfl (fun ls hl => ?_)
  refine lv_iload_n hx hb dX5_at_11 rfl (lv_at hl 0 rfl) ?_
  refine lv_if_eq (tgt := 17) hx hb dX5_at_12 (by decide) (fun c_2 => ?_) (fun c_2 => ?_)
  · rw [if_pos c_2] at hf
    refine lv_aload_n hx hb dX5_at_17 rfl (lv_at hl 1 rfl) ?_
    refine lv_aload_n hx hb dX5_at_18 rfl (lv_at hl 1 rfl) ?_
    refine r_get hx hb hts hown hC hP hinX5 0 (by decide) (ci := 4) rfl (by decide) rfl 0 (by decide) (hts (.fieldLink RX5 14 "LoafParts" "rows" "LLoafParts$Shelf;") (by decide +kernel)) (v := .ref (aD g 1)) rfl dX5_at_19 ?_
    refine lv_iload_n hx hb dX5_at_22 rfl (lv_at hl 2 rfl) ?_
    refine lv_iload_n hx hb dX5_at_23 rfl (lv_at hl 3 rfl) ?_
    obtain ⟨q_3, hq_3, hf⟩ := bind_ex hf
    refine r_Vi (As := [.int x1, .int x2]) (rest := [.ref (aD g 0)]) (k := 1) (ci := 2) ⟨hx, hb, hml, hown, hts⟩ hC hP hS (by decide) rfl (by decide) rfl (c_X3_read l g 1 6 shf_rows q_1.2 x1 x2 hq_3) (cwV 2 hts gX5_at_X3_read rfl rfl rfl (by decide +kernel) ⟨(Nat.le_trans (Nat.le_of_ble_eq_true rfl) hRf), (Nat.le_trans (Nat.le_of_ble_eq_true rfl) hRl)⟩) rfl hl.1 rfl (Nat.le_of_ble_eq_true rfl) dX5_at_24 (fun H locs hP hS => ?_)
    obtain ⟨u_4, eu_4, hf⟩ := lt_ex hf
    refine r_puti hx hb hts hown hC hP hS hinX5 tyX5 tyX5_ok nmX5 0 (by decide) (ci := 4) rfl (by decide) rfl 9 (by decide) (hts (.fieldLink RX5 77 "LoafParts" "told" "I") (by decide +kernel)) rfl (ty := .int) (by decide +kernel) rfl rfl (by decide) (by decide) eu_4 dX5_at_27 (fun H locs hP hS => ?_)
    refine lv_iconst (v := (1 : Int32)) hx hb dX5_at_30 (by decide) ?_
    obtain ⟨rfl, rfl⟩ := sp2 hf
    exact kret _ _ _ _ dX5_at_31 hP hS trivial
  rw [if_neg c_2] at hf
  refine lv_iload_n hx hb dX5_at_15 rfl (lv_at hl 0 rfl) ?_
  obtain ⟨rfl, rfl⟩ := sp2 hf
  exact kret _ _ _ _ dX5_at_16 hP hS trivial
set_option maxHeartbeats 4000000 in
set_option maxRecDepth 100000 in
theorem c_X3_drop (l : Launch) (g : GG) (b nr : Nat) (hsh : shf b nr) (u : UU) (x1 : Int32) {u' : UU} (hf : f_X3_drop b nr x1 u = some u') : Cv l g 0 55 yX3_drop wsX3_drop 1 21 [.ref (aD g b), .int x1] u u' := by
  refine ct_v (cc := cX3_drop) (maxL := 2) (by decide) rfl (Nat.le_of_ble_eq_true rfl) ?_
  intro p e s m args below meth c R Q ls hx hb hml hown hts hC hP hl hRf hRl kret hS
  have hown : s.vm.findClass RX3 = some m.cls := hown
  have hl : lv_has ls 2 [(0, .ref (aD g b)), (1, .int x1)] := hl
  have hinX3 : ∀ w ∈ u_ws RX3 TX3 3, w ∈ wsX3_drop := by decide +kernel
  unfold f_X3_drop at hf
  refine lv_aload_n hx hb dX3_drop_0 rfl (lv_at hl 0 rfl) ?_
  refine lv_iload_n hx hb dX3_drop_1 rfl (lv_at hl 1 rfl) ?_
  obtain ⟨q_1, hq_1, hf⟩ := bind_ex hf
  refine r_Vi (As := [.int x1]) (rest := []) (k := b) (ci := 2) ⟨hx, hb, hml, hown, hts⟩ hC hP hS (shf_k0 hsh) (shf_o hsh) (by decide) rfl (c_X3_isNumber l g b nr hsh u x1 hq_1) (cwV 1 hts gX3_drop_X3_isNumber rfl rfl rfl (by decide +kernel) ⟨(Nat.le_trans (Nat.le_of_ble_eq_true rfl) hRf), (Nat.le_trans (Nat.le_of_ble_eq_true rfl) hRl)⟩) rfl hl.1 rfl (Nat.le_of_ble_eq_true rfl) dX3_drop_2 (fun H locs hP hS => ?_)
  refine lv_if_eq (tgt := 15) hx hb dX3_drop_5 (by decide) (fun c_2 => ?_) (fun c_2 => ?_)
  · rw [if_pos c_2] at hf
    obtain rfl := sp1 hf
    exact kret _ _ _ _ dX3_drop_15 hP hS trivial
  rw [if_neg c_2] at hf
  refine lv_aload_n hx hb dX3_drop_8 rfl (lv_at hl 0 rfl) ?_
  refine r_get hx hb hts hown hC hP hinX3 b (shf_k0 hsh) (ci := 2) (shf_o hsh) (by decide) rfl 1 (by decide) (hts (.fieldLink RX3 19 "LoafParts$Shelf" "sizes" "[I") (by decide +kernel)) (v := .ref (aD g (b + 1))) rfl dX3_drop_9 ?_
  refine lv_iload_n hx hb dX3_drop_12 rfl (lv_at hl 1 rfl) ?_
  refine lv_iconst (v := (-1 : Int32)) hx hb dX3_drop_13 (by decide) ?_
  obtain ⟨hi_3, hf⟩ := ix_ex hf
  obtain ⟨u_4, eu_4, hf⟩ := lt_ex hf
  refine r_ast hx hb hC hP hS (b + 1) (shf_k1 hsh) (shf_1 hsh) hi_3 eu_4 dX3_drop_14 (fun H locs hP hS => ?_)
  obtain rfl := sp1 hf
  exact kret _ _ _ _ dX3_drop_15 hP hS trivial
set_option maxHeartbeats 4000000 in
set_option maxRecDepth 100000 in
theorem c_X5_tear (l : Launch) (g : GG) (u : UU) (x1 : Int32) {r : Int32} {u' : UU} (hf : f_X5_tear x1 u = some (r, u')) : Ci l g 0 55 yX5_tear wsX5_tear 4 85 [.ref (aD g 0), .int x1] u r u' := by
  refine ct_i (cc := cX5_tear) (maxL := 3) (by decide) rfl (Nat.le_of_ble_eq_true rfl) ?_
  intro p e s m args below meth c R Q ls hx hb hml hown hts hC hP hl hRf hRl kret hS
  have hown : s.vm.findClass RX5 = some m.cls := hown
  have hl : lv_has ls 3 [(0, .ref (aD g 0)), (1, .int x1)] := hl
  have hinX5 : ∀ w ∈ u_ws RX5 TX5 12, w ∈ wsX5_tear := by decide +kernel
  unfold f_X5_tear at hf
  refine lv_aload_n hx hb dX5_tear_0 rfl (lv_at hl 0 rfl) ?_
  refine lv_aload_n hx hb dX5_tear_1 rfl (lv_at hl 0 rfl) ?_
  refine r_get hx hb hts hown hC hP hinX5 0 (by decide) (ci := 4) rfl (by decide) rfl 0 (by decide) (hts (.fieldLink RX5 14 "LoafParts" "rows" "LLoafParts$Shelf;") (by decide +kernel)) (v := .ref (aD g 1)) rfl dX5_tear_2 ?_
  refine lv_iload_n hx hb dX5_tear_5 rfl (lv_at hl 1 rfl) ?_
  obtain ⟨q_1, hq_1, hf⟩ := bind_ex hf
  refine r_Vi (r := q_1.1) (u' := q_1.2) (As := [.ref (aD g 1), .int x1]) (rest := []) (k := 0) (ci := 4) ⟨hx, hb, hml, hown, hts⟩ hC hP hS (by decide) rfl (by decide) rfl (c_X5_refuseMissing l g 1 6 shf_rows u x1 hq_1) (cwV 2 hts gX5_tear_X5_refuseMissing rfl rfl rfl (by decide +kernel) ⟨(Nat.le_trans (Nat.le_of_ble_eq_true rfl) hRf), (Nat.le_trans (Nat.le_of_ble_eq_true rfl) hRl)⟩) rfl hl.1 rfl (Nat.le_of_ble_eq_true rfl) dX5_tear_6 (fun H locs hP hS => ?_)
  refine lv_istore_n (lv' := [(2, .int q_1.1), (0, .ref (aD g 0)), (1, .int x1)]) hx hb dX5_tear_9 rfl hl (by decide) rfl (fun ls hl => ?_)
  refine lv_iload_n hx hb dX5_tear_10 rfl (lv_at hl 0 rfl) ?_
  refine lv_if_eq (tgt := 16) hx hb dX5_tear_11 (by decide) (fun c_2 => ?_) (fun c_2 => ?_)
  · rw [if_pos c_2] at hf
    refine lv_aload_n hx hb dX5_tear_16 rfl (lv_at hl 1 rfl) ?_
    refine r_get hx hb hts hown hC hP hinX5 0 (by decide) (ci := 4) rfl (by decide) rfl 0 (by decide) (hts (.fieldLink RX5 14 "LoafParts" "rows" "LLoafParts$Shelf;") (by decide +kernel)) (v := .ref (aD g 1)) rfl dX5_tear_17 ?_
    refine lv_iload_n hx hb dX5_tear_20 rfl (lv_at hl 2 rfl) ?_
    obtain ⟨q_3, hq_3, hf⟩ := bind_ex hf
    refine r_Vv (As := [.int x1]) (rest := []) (k := 1) (ci := 2) ⟨hx, hb, hml, hown, hts⟩ hC hP hS (by decide) rfl (by decide) rfl (c_X3_drop l g 1 6 shf_rows q_1.2 x1 hq_3) (cwV 1 hts gX5_tear_X3_drop rfl rfl rfl (by decide +kernel) ⟨(Nat.le_trans (Nat.le_of_ble_eq_true rfl) hRf), (Nat.le_trans (Nat.le_of_ble_eq_true rfl) hRl)⟩) rfl hl.1 rfl (Nat.le_of_ble_eq_true rfl) dX5_tear_21 (fun H locs hP hS => ?_)
    refine lv_iconst (v := (1 : Int32)) hx hb dX5_tear_24 (by decide) ?_
    obtain ⟨rfl, rfl⟩ := sp2 hf
    exact kret _ _ _ _ dX5_tear_25 hP hS trivial
  rw [if_neg c_2] at hf
  refine lv_iload_n hx hb dX5_tear_14 rfl (lv_at hl 0 rfl) ?_
  obtain ⟨rfl, rfl⟩ := sp2 hf
  exact kret _ _ _ _ dX5_tear_15 hP hS trivial
set_option maxHeartbeats 4000000 in
set_option maxRecDepth 100000 in
theorem c_X3_hasStretch (l : Launch) (g : GG) (b nr : Nat) (hsh : shf b nr) (u : UU) (x1 : Int32) (x2 : Int32) (x3 : Int32) {r : Int32} (hf : f_X3_hasStretch b nr x1 x2 x3 u = some r) : Ci l g 0 55 yX3_hasStretch wsX3_hasStretch 2 42 [.ref (aD g b), .int x1, .int x2, .int x3] u r u := by
  refine ct_z (cc := cX3_hasStretch) (maxL := 4) (by decide) rfl (Nat.le_of_ble_eq_true rfl) ?_
  intro p e s m args below meth c R Q ls hx hb hml hown hts hC hP hl hRf hRl kret hS
  have hown : s.vm.findClass RX3 = some m.cls := hown
  have hl : lv_has ls 4 [(0, .ref (aD g b)), (1, .int x1), (2, .int x2), (3, .int x3)] := hl
  unfold f_X3_hasStretch at hf
  refine lv_iload_n hx hb dX3_hasStretch_0 rfl (lv_at hl 2 rfl) ?_
  refine lv_if_lt (tgt := 27) hx hb dX3_hasStretch_1 (by decide) (fun c_1 => ?_) (fun c_1 => ?_)
  · rw [if_pos c_1] at hf
    refine lv_iconst (v := (0 : Int32)) hx hb dX3_hasStretch_27 (by decide) ?_
    obtain rfl := sp1 hf
    exact kret _ _ _ _ dX3_hasStretch_28 hP hS rfl
  rw [if_neg c_1] at hf
  refine lv_iload_n hx hb dX3_hasStretch_4 rfl (lv_at hl 3 rfl) ?_
  refine lv_if_lt (tgt := 27) hx hb dX3_hasStretch_5 (by decide) (fun c_2 => ?_) (fun c_2 => ?_)
  · rw [if_pos c_2] at hf
    refine lv_iconst (v := (0 : Int32)) hx hb dX3_hasStretch_27 (by decide) ?_
    obtain rfl := sp1 hf
    exact kret _ _ _ _ dX3_hasStretch_28 hP hS rfl
  rw [if_neg c_2] at hf
  refine lv_iload_n hx hb dX3_hasStretch_8 rfl (lv_at hl 2 rfl) ?_
  refine lv_i2l hx hb dX3_hasStretch_9 rfl ?_
  refine lv_iload_n hx hb dX3_hasStretch_10 rfl (lv_at hl 3 rfl) ?_
  refine lv_i2l hx hb dX3_hasStretch_11 rfl ?_
  refine lv_ladd hx hb dX3_hasStretch_12 ?_
  refine lv_aload_n hx hb dX3_hasStretch_13 rfl (lv_at hl 0 rfl) ?_
  refine lv_iload_n hx hb dX3_hasStretch_14 rfl (lv_at hl 1 rfl) ?_
  obtain ⟨q_3, hq_3, hf⟩ := bind_ex hf
  refine r_Vi (As := [.int x1]) (rest := [.long (((x2 : Int32).toInt64) + ((x3 : Int32).toInt64))]) (k := b) (ci := 2) ⟨hx, hb, hml, hown, hts⟩ hC hP hS (shf_k0 hsh) (shf_o hsh) (by decide) rfl (c_X3_sizeOf l g b nr hsh u x1 hq_3) (cwV 1 hts gX3_hasStretch_X3_sizeOf rfl rfl rfl (by decide +kernel) ⟨(Nat.le_trans (Nat.le_of_ble_eq_true rfl) hRf), (Nat.le_trans (Nat.le_of_ble_eq_true rfl) hRl)⟩) rfl hl.1 rfl (Nat.le_of_ble_eq_true rfl) dX3_hasStretch_15 (fun H locs hP hS => ?_)
  refine lv_i2l hx hb dX3_hasStretch_18 rfl ?_
  refine W.lcmp hx hb dX3_hasStretch_19 ?_
  refine lv_if_gt (tgt := 27) hx hb dX3_hasStretch_20 (by decide) (fun c_4 => ?_) (fun c_4 => ?_)
  · rw [if_pos c_4] at hf
    refine lv_iconst (v := (0 : Int32)) hx hb dX3_hasStretch_27 (by decide) ?_
    obtain rfl := sp1 hf
    exact kret _ _ _ _ dX3_hasStretch_28 hP hS rfl
  rw [if_neg c_4] at hf
  refine lv_iconst (v := (1 : Int32)) hx hb dX3_hasStretch_23 (by decide) ?_
  refine lv_goto (tgt := 28) hx hb dX3_hasStretch_24 (by decide) ?_
  obtain rfl := sp1 hf
  exact kret _ _ _ _ dX3_hasStretch_28 hP hS rfl
set_option maxHeartbeats 4000000 in
set_option maxRecDepth 100000 in
theorem c_X3_move (l : Launch) (g : GG) (b nr : Nat) (hsh : shf b nr) (u : UU) (x1 : Int32) (x2 : Int32) (x3 : Int32) (x4 : Int32) (x5 : Int32) {u' : UU} (hf : f_X3_move b nr x1 x2 x3 x4 x5 u = some u') : Cv l g 0 55 yX3_move wsX3_move 3 65 [.ref (aD g b), .int x1, .int x2, .int x3, .int x4, .int x5] u u' := by
  refine ct_v (cc := cX3_move) (maxL := 6) (by decide) rfl (Nat.le_of_ble_eq_true rfl) ?_
  intro p e s m args below meth c R Q ls hx hb hml hown hts hC hP hl hRf hRl kret hS
  have hown : s.vm.findClass RX3 = some m.cls := hown
  have hl : lv_has ls 6 [(0, .ref (aD g b)), (1, .int x1), (2, .int x2), (3, .int x3), (4, .int x4), (5, .int x5)] := hl
  have hinX3 : ∀ w ∈ u_ws RX3 TX3 3, w ∈ wsX3_move := by decide +kernel
  unfold f_X3_move at hf
  refine lv_aload_n hx hb dX3_move_0 rfl (lv_at hl 0 rfl) ?_
  refine lv_iload_n hx hb dX3_move_1 rfl (lv_at hl 1 rfl) ?_
  refine lv_iload_n hx hb dX3_move_2 rfl (lv_at hl 2 rfl) ?_
  refine lv_iload hx hb dX3_move_3 (lv_at hl 5 rfl) ?_
  obtain ⟨q_1, hq_1, hf⟩ := bind_ex hf
  refine r_Vi (As := [.int x1, .int x2, .int x5]) (rest := []) (k := b) (ci := 2) ⟨hx, hb, hml, hown, hts⟩ hC hP hS (shf_k0 hsh) (shf_o hsh) (by decide) rfl (c_X3_hasStretch l g b nr hsh u x1 x2 x5 hq_1) (cwV 3 hts gX3_move_X3_hasStretch rfl rfl rfl (by decide +kernel) ⟨(Nat.le_trans (Nat.le_of_ble_eq_true rfl) hRf), (Nat.le_trans (Nat.le_of_ble_eq_true rfl) hRl)⟩) rfl hl.1 rfl (Nat.le_of_ble_eq_true rfl) dX3_move_5 (fun H locs hP hS => ?_)
  refine lv_if_eq (tgt := 53) hx hb dX3_move_8 (by decide) (fun c_2 => ?_) (fun c_2 => ?_)
  · rw [if_pos c_2] at hf
    obtain rfl := sp1 hf
    exact kret _ _ _ _ dX3_move_53 hP hS trivial
  rw [if_neg c_2] at hf
  refine lv_aload_n hx hb dX3_move_11 rfl (lv_at hl 0 rfl) ?_
  refine lv_iload_n hx hb dX3_move_12 rfl (lv_at hl 3 rfl) ?_
  refine lv_iload hx hb dX3_move_13 (lv_at hl 4 rfl) ?_
  refine lv_iload hx hb dX3_move_15 (lv_at hl 5 rfl) ?_
  obtain ⟨q_3, hq_3, hf⟩ := bind_ex hf
  refine r_Vi (As := [.int x3, .int x4, .int x5]) (rest := []) (k := b) (ci := 2) ⟨hx, hb, hml, hown, hts⟩ hC hP hS (shf_k0 hsh) (shf_o hsh) (by decide) rfl (c_X3_hasStretch l g b nr hsh u x3 x4 x5 hq_3) (cwV 3 hts gX3_move_X3_hasStretch rfl rfl rfl (by decide +kernel) ⟨(Nat.le_trans (Nat.le_of_ble_eq_true rfl) hRf), (Nat.le_trans (Nat.le_of_ble_eq_true rfl) hRl)⟩) rfl hl.1 rfl (Nat.le_of_ble_eq_true rfl) dX3_move_17 (fun H locs hP hS => ?_)
  refine lv_if_eq (tgt := 53) hx hb dX3_move_20 (by decide) (fun c_4 => ?_) (fun c_4 => ?_)
  · rw [if_pos c_4] at hf
    obtain rfl := sp1 hf
    exact kret _ _ _ _ dX3_move_53 hP hS trivial
  rw [if_neg c_4] at hf
  refine lv_aload_n hx hb dX3_move_23 rfl (lv_at hl 0 rfl) ?_
  refine r_get hx hb hts hown hC hP hinX3 b (shf_k0 hsh) (ci := 2) (shf_o hsh) (by decide) rfl 2 (by decide) (hts (.fieldLink RX3 23 "LoafParts$Shelf" "cells" "[I") (by decide +kernel)) (v := .ref (aD g (b + 2))) rfl dX3_move_24 ?_
  refine lv_iload_n hx hb dX3_move_27 rfl (lv_at hl 1 rfl) ?_
  refine lv_aload_n hx hb dX3_move_28 rfl (lv_at hl 0 rfl) ?_
  refine r_get hx hb hts hown hC hP hinX3 b (shf_k0 hsh) (ci := 2) (shf_o hsh) (by decide) rfl 0 (by decide) (hts (.fieldLink RX3 13 "LoafParts$Shelf" "places" "I") (by decide +kernel)) (v := .int (ui u b 0)) rfl dX3_move_29 ?_
  refine lv_imul hx hb dX3_move_32 ?_
  refine lv_iload_n hx hb dX3_move_33 rfl (lv_at hl 2 rfl) ?_
  refine lv_iadd hx hb dX3_move_34 ?_
  refine lv_aload_n hx hb dX3_move_35 rfl (lv_at hl 0 rfl) ?_
  refine r_get hx hb hts hown hC hP hinX3 b (shf_k0 hsh) (ci := 2) (shf_o hsh) (by decide) rfl 2 (by decide) (hts (.fieldLink RX3 23 "LoafParts$Shelf" "cells" "[I") (by decide +kernel)) (v := .ref (aD g (b + 2))) rfl dX3_move_36 ?_
  refine lv_iload_n hx hb dX3_move_39 rfl (lv_at hl 3 rfl) ?_
  refine lv_aload_n hx hb dX3_move_40 rfl (lv_at hl 0 rfl) ?_
  refine r_get hx hb hts hown hC hP hinX3 b (shf_k0 hsh) (ci := 2) (shf_o hsh) (by decide) rfl 0 (by decide) (hts (.fieldLink RX3 13 "LoafParts$Shelf" "places" "I") (by decide +kernel)) (v := .int (ui u b 0)) rfl dX3_move_41 ?_
  refine lv_imul hx hb dX3_move_44 ?_
  refine lv_iload hx hb dX3_move_45 (lv_at hl 4 rfl) ?_
  refine lv_iadd hx hb dX3_move_47 ?_
  refine lv_iload hx hb dX3_move_48 (lv_at hl 5 rfl) ?_
  obtain ⟨hk_5, hf⟩ := cpk_ex hf
  obtain ⟨u_6, eu_6, hf⟩ := lt_ex hf
  refine r_copy hx hb (hml.trans hl.1.symm) hown (hts (.methodLink RX3 42 arraycopyName) (by decide +kernel)) (hts (.native arraycopyName) (by decide +kernel)) (hts (.static arraycopyName) (by decide +kernel)) (hts (.initialized "java/lang/System") (by decide +kernel)) hC hP hS (b + 2) (shf_k2 hsh) (shf_2 hsh) (b + 2) (shf_k2 hsh) (shf_2 hsh) hk_5 eu_6 (Nat.le_trans (Nat.le_of_ble_eq_true rfl) hRf) (Nat.le_trans (Nat.le_of_ble_eq_true rfl) hRl) dX3_move_50 (fun H locs hP hS => ?_)
  obtain rfl := sp1 hf
  exact kret _ _ _ _ dX3_move_53 hP hS trivial
set_option maxHeartbeats 4000000 in
set_option maxRecDepth 100000 in
theorem c_X5_copy (l : Launch) (g : GG) (u : UU) (x1 : Int32) (x2 : Int32) (x3 : Int32) (x4 : Int32) (x5 : Int32) {r : Int32} {u' : UU} (hf : f_X5_copy x1 x2 x3 x4 x5 u = some (r, u')) : Ci l g 0 55 yX5_copy wsX5_copy 4 90 [.ref (aD g 0), .int x1, .int x2, .int x3, .int x4, .int x5] u r u' := by
  refine ct_i (cc := cX5_copy) (maxL := 6) (by decide) rfl (Nat.le_of_ble_eq_true rfl) ?_
  intro p e s m args below meth c R Q ls hx hb hml hown hts hC hP hl hRf hRl kret hS
  have hown : s.vm.findClass RX5 = some m.cls := hown
  have hl : lv_has ls 6 [(0, .ref (aD g 0)), (1, .int x1), (2, .int x2), (3, .int x3), (4, .int x4), (5, .int x5)] := hl
  have hinX5 : ∀ w ∈ u_ws RX5 TX5 12, w ∈ wsX5_copy := by decide +kernel
  have w_57 : ∀ (u : UU) (H : Heap) (locs : List Loc) (ls : Array Slot), Ps g 0 55 u H → va_S (aA g) s.heap H locs → lv_has ls 6 [(0, .ref (aD g 0))] → f_X5_copy_57 u = some (r, u') → W p l e R s m args below meth c H locs 0 0 Q (F0 m 57 ls []) := by
    intro u H locs ls hP hS hl hf
    unfold f_X5_copy_57 at hf
    refine lv_aload_n hx hb dX5_copy_57 rfl (lv_at hl 0 rfl) ?_
    refine lv_iconst (v := (1 : Int32)) hx hb dX5_copy_58 (by decide) ?_
    obtain ⟨q_8, hq_8, hf⟩ := bind_ex hf
    refine r_Vi (r := q_8.1) (u' := q_8.2) (As := [.int (1 : Int32)]) (rest := []) (k := 0) (ci := 4) ⟨hx, hb, hml, hown, hts⟩ hC hP hS (by decide) rfl (by decide) rfl (c_X5_found l g u (1 : Int32) hq_8) (cwV 1 hts gX5_copy_X5_found rfl rfl rfl (by decide +kernel) ⟨(Nat.le_trans (Nat.le_of_ble_eq_true rfl) hRf), (Nat.le_trans (Nat.le_of_ble_eq_true rfl) hRl)⟩) rfl hl.1 rfl (Nat.le_of_ble_eq_true rfl) dX5_copy_59 (fun H locs hP hS => ?_)
    obtain ⟨rfl, rfl⟩ := sp2 hf
    exact kret _ _ _ _ dX5_copy_62 hP hS trivial
  have w_92 : ∀ (u : UU) (H : Heap) (locs : List Loc) (ls : Array Slot), Ps g 0 55 u H → va_S (aA g) s.heap H locs → lv_has ls 6 [(0, .ref (aD g 0))] → f_X5_copy_92 u = some (r, u') → W p l e R s m args below meth c H locs 0 0 Q (F0 m 92 ls []) := by
    intro u H locs ls hP hS hl hf
    unfold f_X5_copy_92 at hf
    refine lv_aload_n hx hb dX5_copy_92 rfl (lv_at hl 0 rfl) ?_
    refine lv_iconst (v := (2 : Int32)) hx hb dX5_copy_93 (by decide) ?_
    obtain ⟨q_13, hq_13, hf⟩ := bind_ex hf
    refine r_Vi (r := q_13.1) (u' := q_13.2) (As := [.int (2 : Int32)]) (rest := []) (k := 0) (ci := 4) ⟨hx, hb, hml, hown, hts⟩ hC hP hS (by decide) rfl (by decide) rfl (c_X5_found l g u (2 : Int32) hq_13) (cwV 1 hts gX5_copy_X5_found rfl rfl rfl (by decide +kernel) ⟨(Nat.le_trans (Nat.le_of_ble_eq_true rfl) hRf), (Nat.le_trans (Nat.le_of_ble_eq_true rfl) hRl)⟩) rfl hl.1 rfl (Nat.le_of_ble_eq_true rfl) dX5_copy_94 (fun H locs hP hS => ?_)
    obtain ⟨rfl, rfl⟩ := sp2 hf
    exact kret _ _ _ _ dX5_copy_97 hP hS trivial
  unfold f_X5_copy at hf
  refine lv_aload_n hx hb dX5_copy_0 rfl (lv_at hl 0 rfl) ?_
  refine r_get hx hb hts hown hC hP hinX5 0 (by decide) (ci := 4) rfl (by decide) rfl 0 (by decide) (hts (.fieldLink RX5 14 "LoafParts" "rows" "LLoafParts$Shelf;") (by decide +kernel)) (v := .ref (aD g 1)) rfl dX5_copy_1 ?_
  refine lv_iload_n hx hb dX5_copy_4 rfl (lv_at hl 1 rfl) ?_
  obtain ⟨q_1, hq_1, hf⟩ := bind_ex hf
  refine r_Vi (As := [.int x1]) (rest := []) (k := 1) (ci := 2) ⟨hx, hb, hml, hown, hts⟩ hC hP hS (by decide) rfl (by decide) rfl (c_X3_isNumber l g 1 6 shf_rows u x1 hq_1) (cwV 1 hts gX5_copy_X3_isNumber rfl rfl rfl (by decide +kernel) ⟨(Nat.le_trans (Nat.le_of_ble_eq_true rfl) hRf), (Nat.le_trans (Nat.le_of_ble_eq_true rfl) hRl)⟩) rfl hl.1 rfl (Nat.le_of_ble_eq_true rfl) dX5_copy_5 (fun H locs hP hS => ?_)
  refine lv_if_eq (tgt := 22) hx hb dX5_copy_8 (by decide) (fun c_2 => ?_) (fun c_2 => ?_)
  · rw [if_pos c_2] at hf
    refine lv_iconst (v := (-1 : Int32)) hx hb dX5_copy_22 (by decide) ?_
    obtain ⟨rfl, rfl⟩ := sp2 hf
    exact kret _ _ _ _ dX5_copy_23 hP hS trivial
  rw [if_neg c_2] at hf
  refine lv_aload_n hx hb dX5_copy_11 rfl (lv_at hl 0 rfl) ?_
  refine r_get hx hb hts hown hC hP hinX5 0 (by decide) (ci := 4) rfl (by decide) rfl 0 (by decide) (hts (.fieldLink RX5 14 "LoafParts" "rows" "LLoafParts$Shelf;") (by decide +kernel)) (v := .ref (aD g 1)) rfl dX5_copy_12 ?_
  refine lv_iload_n hx hb dX5_copy_15 rfl (lv_at hl 3 rfl) ?_
  obtain ⟨q_3, hq_3, hf⟩ := bind_ex hf
  refine r_Vi (As := [.int x3]) (rest := []) (k := 1) (ci := 2) ⟨hx, hb, hml, hown, hts⟩ hC hP hS (by decide) rfl (by decide) rfl (c_X3_isNumber l g 1 6 shf_rows u x3 hq_3) (cwV 1 hts gX5_copy_X3_isNumber rfl rfl rfl (by decide +kernel) ⟨(Nat.le_trans (Nat.le_of_ble_eq_true rfl) hRf), (Nat.le_trans (Nat.le_of_ble_eq_true rfl) hRl)⟩) rfl hl.1 rfl (Nat.le_of_ble_eq_true rfl) dX5_copy_16 (fun H locs hP hS => ?_)
  refine lv_if_ne (tgt := 24) hx hb dX5_copy_19 (by decide) (fun c_4 => ?_) (fun c_4 => ?_)
  · rw [if_neg c_4] at hf
    refine lv_iload hx hb dX5_copy_24 (lv_at hl 5 rfl) ?_
    refine lv_if_ge (tgt := 35) hx hb dX5_copy_26 (by decide) (fun c_5 => ?_) (fun c_5 => ?_)
    · rw [if_pos c_5] at hf
      refine lv_aload_n hx hb dX5_copy_35 rfl (lv_at hl 0 rfl) ?_
      refine r_get hx hb hts hown hC hP hinX5 0 (by decide) (ci := 4) rfl (by decide) rfl 0 (by decide) (hts (.fieldLink RX5 14 "LoafParts" "rows" "LLoafParts$Shelf;") (by decide +kernel)) (v := .ref (aD g 1)) rfl dX5_copy_36 ?_
      refine lv_iload_n hx hb dX5_copy_39 rfl (lv_at hl 1 rfl) ?_
      obtain ⟨q_6, hq_6, hf⟩ := bind_ex hf
      refine r_Vi (As := [.int x1]) (rest := []) (k := 1) (ci := 2) ⟨hx, hb, hml, hown, hts⟩ hC hP hS (by decide) rfl (by decide) rfl (c_X3_isThere l g 1 6 shf_rows u x1 hq_6) (cwV 1 hts gX5_copy_X3_isThere rfl rfl rfl (by decide +kernel) ⟨(Nat.le_trans (Nat.le_of_ble_eq_true rfl) hRf), (Nat.le_trans (Nat.le_of_ble_eq_true rfl) hRl)⟩) rfl hl.1 rfl (Nat.le_of_ble_eq_true rfl) dX5_copy_40 (fun H locs hP hS => ?_)
      refine lv_if_eq (tgt := 57) hx hb dX5_copy_43 (by decide) (fun c_7 => ?_) (fun c_7 => ?_)
      · rw [if_pos c_7] at hf
        exact w_57 u _ _ _ hP hS (lv_sub hl [0] rfl) hf
      rw [if_neg c_7] at hf
      refine lv_aload_n hx hb dX5_copy_46 rfl (lv_at hl 0 rfl) ?_
      refine r_get hx hb hts hown hC hP hinX5 0 (by decide) (ci := 4) rfl (by decide) rfl 0 (by decide) (hts (.fieldLink RX5 14 "LoafParts" "rows" "LLoafParts$Shelf;") (by decide +kernel)) (v := .ref (aD g 1)) rfl dX5_copy_47 ?_
      refine lv_iload_n hx hb dX5_copy_50 rfl (lv_at hl 3 rfl) ?_
      obtain ⟨q_9, hq_9, hf⟩ := bind_ex hf
      refine r_Vi (As := [.int x3]) (rest := []) (k := 1) (ci := 2) ⟨hx, hb, hml, hown, hts⟩ hC hP hS (by decide) rfl (by decide) rfl (c_X3_isThere l g 1 6 shf_rows u x3 hq_9) (cwV 1 hts gX5_copy_X3_isThere rfl rfl rfl (by decide +kernel) ⟨(Nat.le_trans (Nat.le_of_ble_eq_true rfl) hRf), (Nat.le_trans (Nat.le_of_ble_eq_true rfl) hRl)⟩) rfl hl.1 rfl (Nat.le_of_ble_eq_true rfl) dX5_copy_51 (fun H locs hP hS => ?_)
      refine lv_if_ne (tgt := 63) hx hb dX5_copy_54 (by decide) (fun c_10 => ?_) (fun c_10 => ?_)
      · rw [if_neg c_10] at hf
        refine lv_aload_n hx hb dX5_copy_63 rfl (lv_at hl 0 rfl) ?_
        refine r_get hx hb hts hown hC hP hinX5 0 (by decide) (ci := 4) rfl (by decide) rfl 0 (by decide) (hts (.fieldLink RX5 14 "LoafParts" "rows" "LLoafParts$Shelf;") (by decide +kernel)) (v := .ref (aD g 1)) rfl dX5_copy_64 ?_
        refine lv_iload_n hx hb dX5_copy_67 rfl (lv_at hl 1 rfl) ?_
        refine lv_iload_n hx hb dX5_copy_68 rfl (lv_at hl 2 rfl) ?_
        refine lv_iload hx hb dX5_copy_69 (lv_at hl 5 rfl) ?_
        obtain ⟨q_11, hq_11, hf⟩ := bind_ex hf
        refine r_Vi (As := [.int x1, .int x2, .int x5]) (rest := []) (k := 1) (ci := 2) ⟨hx, hb, hml, hown, hts⟩ hC hP hS (by decide) rfl (by decide) rfl (c_X3_hasStretch l g 1 6 shf_rows u x1 x2 x5 hq_11) (cwV 3 hts gX5_copy_X3_hasStretch rfl rfl rfl (by decide +kernel) ⟨(Nat.le_trans (Nat.le_of_ble_eq_true rfl) hRf), (Nat.le_trans (Nat.le_of_ble_eq_true rfl) hRl)⟩) rfl hl.1 rfl (Nat.le_of_ble_eq_true rfl) dX5_copy_71 (fun H locs hP hS => ?_)
        refine lv_if_eq (tgt := 92) hx hb dX5_copy_74 (by decide) (fun c_12 => ?_) (fun c_12 => ?_)
        · rw [if_pos c_12] at hf
          exact w_92 u _ _ _ hP hS (lv_sub hl [0] rfl) hf
        rw [if_neg c_12] at hf
        refine lv_aload_n hx hb dX5_copy_77 rfl (lv_at hl 0 rfl) ?_
        refine r_get hx hb hts hown hC hP hinX5 0 (by decide) (ci := 4) rfl (by decide) rfl 0 (by decide) (hts (.fieldLink RX5 14 "LoafParts" "rows" "LLoafParts$Shelf;") (by decide +kernel)) (v := .ref (aD g 1)) rfl dX5_copy_78 ?_
        refine lv_iload_n hx hb dX5_copy_81 rfl (lv_at hl 3 rfl) ?_
        refine lv_iload hx hb dX5_copy_82 (lv_at hl 4 rfl) ?_
        refine lv_iload hx hb dX5_copy_84 (lv_at hl 5 rfl) ?_
        obtain ⟨q_14, hq_14, hf⟩ := bind_ex hf
        refine r_Vi (As := [.int x3, .int x4, .int x5]) (rest := []) (k := 1) (ci := 2) ⟨hx, hb, hml, hown, hts⟩ hC hP hS (by decide) rfl (by decide) rfl (c_X3_hasStretch l g 1 6 shf_rows u x3 x4 x5 hq_14) (cwV 3 hts gX5_copy_X3_hasStretch rfl rfl rfl (by decide +kernel) ⟨(Nat.le_trans (Nat.le_of_ble_eq_true rfl) hRf), (Nat.le_trans (Nat.le_of_ble_eq_true rfl) hRl)⟩) rfl hl.1 rfl (Nat.le_of_ble_eq_true rfl) dX5_copy_86 (fun H locs hP hS => ?_)
        refine lv_if_ne (tgt := 98) hx hb dX5_copy_89 (by decide) (fun c_15 => ?_) (fun c_15 => ?_)
        · rw [if_neg c_15] at hf
          refine lv_aload_n hx hb dX5_copy_98 rfl (lv_at hl 0 rfl) ?_
          refine r_get hx hb hts hown hC hP hinX5 0 (by decide) (ci := 4) rfl (by decide) rfl 0 (by decide) (hts (.fieldLink RX5 14 "LoafParts" "rows" "LLoafParts$Shelf;") (by decide +kernel)) (v := .ref (aD g 1)) rfl dX5_copy_99 ?_
          refine lv_iload_n hx hb dX5_copy_102 rfl (lv_at hl 1 rfl) ?_
          refine lv_iload_n hx hb dX5_copy_103 rfl (lv_at hl 2 rfl) ?_
          refine lv_iload_n hx hb dX5_copy_104 rfl (lv_at hl 3 rfl) ?_
          refine lv_iload hx hb dX5_copy_105 (lv_at hl 4 rfl) ?_
          refine lv_iload hx hb dX5_copy_107 (lv_at hl 5 rfl) ?_
          obtain ⟨q_16, hq_16, hf⟩ := bind_ex hf
          refine r_Vv (As := [.int x1, .int x2, .int x3, .int x4, .int x5]) (rest := []) (k := 1) (ci := 2) ⟨hx, hb, hml, hown, hts⟩ hC hP hS (by decide) rfl (by decide) rfl (c_X3_move l g 1 6 shf_rows u x1 x2 x3 x4 x5 hq_16) (cwV 5 hts gX5_copy_X3_move rfl rfl rfl (by decide +kernel) ⟨(Nat.le_trans (Nat.le_of_ble_eq_true rfl) hRf), (Nat.le_trans (Nat.le_of_ble_eq_true rfl) hRl)⟩) rfl hl.1 rfl (Nat.le_of_ble_eq_true rfl) dX5_copy_109 (fun H locs hP hS => ?_)
          refine lv_iconst (v := (1 : Int32)) hx hb dX5_copy_112 (by decide) ?_
          obtain ⟨rfl, rfl⟩ := sp2 hf
          exact kret _ _ _ _ dX5_copy_113 hP hS trivial
        rw [if_pos c_15] at hf
        exact w_92 u _ _ _ hP hS (lv_sub hl [0] rfl) hf
      rw [if_pos c_10] at hf
      exact w_57 u _ _ _ hP hS (lv_sub hl [0] rfl) hf
    rw [if_neg c_5] at hf
    refine lv_aload_n hx hb dX5_copy_29 rfl (lv_at hl 0 rfl) ?_
    refine lv_iconst (v := (5 : Int32)) hx hb dX5_copy_30 (by decide) ?_
    obtain ⟨q_17, hq_17, hf⟩ := bind_ex hf
    refine r_Vi (r := q_17.1) (u' := q_17.2) (As := [.int (5 : Int32)]) (rest := []) (k := 0) (ci := 4) ⟨hx, hb, hml, hown, hts⟩ hC hP hS (by decide) rfl (by decide) rfl (c_X5_found l g u (5 : Int32) hq_17) (cwV 1 hts gX5_copy_X5_found rfl rfl rfl (by decide +kernel) ⟨(Nat.le_trans (Nat.le_of_ble_eq_true rfl) hRf), (Nat.le_trans (Nat.le_of_ble_eq_true rfl) hRl)⟩) rfl hl.1 rfl (Nat.le_of_ble_eq_true rfl) dX5_copy_31 (fun H locs hP hS => ?_)
    obtain ⟨rfl, rfl⟩ := sp2 hf
    exact kret _ _ _ _ dX5_copy_34 hP hS trivial
  rw [if_pos c_4] at hf
  refine lv_iconst (v := (-1 : Int32)) hx hb dX5_copy_22 (by decide) ?_
  obtain ⟨rfl, rfl⟩ := sp2 hf
  exact kret _ _ _ _ dX5_copy_23 hP hS trivial
set_option maxHeartbeats 4000000 in
set_option maxRecDepth 100000 in
theorem c_X5_mean (l : Launch) (g : GG) (u : UU) (x1 : Int32) {r : Int32} {u' : UU} (hf : f_X5_mean x1 u = some (r, u')) : Ci l g 0 55 yX5_mean wsX5_mean 4 85 [.ref (aD g 0), .int x1] u r u' := by
  refine ct_i (cc := cX5_mean) (maxL := 7) (by decide) rfl (Nat.le_of_ble_eq_true rfl) ?_
  intro p e s m args below meth c R Q ls hx hb hml hown hts hC hP hl hRf hRl kret hS
  have hown : s.vm.findClass RX5 = some m.cls := hown
  have hl : lv_has ls 7 [(0, .ref (aD g 0)), (1, .int x1)] := hl
  have hinX5 : ∀ w ∈ u_ws RX5 TX5 12, w ∈ wsX5_mean := by decide +kernel
  have w_41 : ∀ (n : Nat), ∀ (x1 : Int32) (x3 : Int32) (x4 : Int64) (x6 : Int32) (u : UU) (H : Heap) (locs : List Loc) (ls : Array Slot), Ps g 0 55 u H → va_S (aA g) s.heap H locs → lv_has ls 7 [(0, .ref (aD g 0)), (1, .int x1), (3, .int x3), (4, .long x4), (6, .int x6)] → f_X5_mean_41 n x1 x3 x4 x6 u = some (r, u') → W p l e R s m args below meth c H locs 0 0 Q (F0 m 41 ls []) := by
    intro n
    induction n with
    | zero =>
      intro x1 x3 x4 x6 u H locs ls hP hS hl hf
      rw [f_X5_mean_41] at hf
      cases hf
    | succ n ih =>
      intro x1 x3 x4 x6 u H locs ls hP hS hl hf
      rw [f_X5_mean_41] at hf
      refine lv_iload hx hb dX5_mean_41 (lv_at hl 4 rfl) ?_
      refine lv_iload_n hx hb dX5_mean_43 rfl (lv_at hl 2 rfl) ?_
      refine lv_icmp_ge (tgt := 69) hx hb dX5_mean_44 (by decide) (fun c_5 => ?_) (fun c_5 => ?_)
      · rw [if_pos c_5] at hf
        refine lv_aload_n hx hb dX5_mean_69 rfl (lv_at hl 0 rfl) ?_
        refine lv_lload hx hb dX5_mean_70 (lv_at hl 3 rfl) ?_
        refine lv_iload_n hx hb dX5_mean_72 rfl (lv_at hl 2 rfl) ?_
        refine lv_i2l hx hb dX5_mean_73 rfl ?_
        obtain ⟨hz_6, hf⟩ := nzl_ex hf
        refine lv_ldiv hx hb dX5_mean_74 hz_6 ?_
        refine lv_l2i hx hb dX5_mean_75 rfl ?_
        obtain ⟨u_7, eu_7, hf⟩ := lt_ex hf
        refine r_puti hx hb hts hown hC hP hS hinX5 tyX5 tyX5_ok nmX5 0 (by decide) (ci := 4) rfl (by decide) rfl 9 (by decide) (hts (.fieldLink RX5 77 "LoafParts" "told" "I") (by decide +kernel)) rfl (ty := .int) (by decide +kernel) rfl rfl (by decide) (by decide) eu_7 dX5_mean_76 (fun H locs hP hS => ?_)
        refine lv_iconst (v := (1 : Int32)) hx hb dX5_mean_79 (by decide) ?_
        obtain ⟨rfl, rfl⟩ := sp2 hf
        exact kret _ _ _ _ dX5_mean_80 hP hS trivial
      rw [if_neg c_5] at hf
      refine lv_lload hx hb dX5_mean_47 (lv_at hl 3 rfl) ?_
      refine lv_aload_n hx hb dX5_mean_49 rfl (lv_at hl 0 rfl) ?_
      refine r_get hx hb hts hown hC hP hinX5 0 (by decide) (ci := 4) rfl (by decide) rfl 0 (by decide) (hts (.fieldLink RX5 14 "LoafParts" "rows" "LLoafParts$Shelf;") (by decide +kernel)) (v := .ref (aD g 1)) rfl dX5_mean_50 ?_
      refine lv_iload_n hx hb dX5_mean_53 rfl (lv_at hl 1 rfl) ?_
      refine lv_iload hx hb dX5_mean_54 (lv_at hl 4 rfl) ?_
      obtain ⟨q_8, hq_8, hf⟩ := bind_ex hf
      refine r_Vi (As := [.int x1, .int x6]) (rest := [.long x4]) (k := 1) (ci := 2) ⟨hx, hb, hml, hown, hts⟩ hC hP hS (by decide) rfl (by decide) rfl (c_X3_read l g 1 6 shf_rows u x1 x6 hq_8) (cwV 2 hts gX5_mean_X3_read rfl rfl rfl (by decide +kernel) ⟨(Nat.le_trans (Nat.le_of_ble_eq_true rfl) hRf), (Nat.le_trans (Nat.le_of_ble_eq_true rfl) hRl)⟩) rfl hl.1 rfl (Nat.le_of_ble_eq_true rfl) dX5_mean_56 (fun H locs hP hS => ?_)
      refine lv_i2l hx hb dX5_mean_59 rfl ?_
      refine lv_ladd hx hb dX5_mean_60 ?_
      obtain ⟨x4_9, ex4_9, hf⟩ := lt_ex hf
      refine r_nml ex4_9 ?_
      refine lv_lstore (lv' := [(4, .long x4_9), (0, .ref (aD g 0)), (1, .int x1), (3, .int x3), (6, .int x6)]) hx hb dX5_mean_61 hl (by decide) rfl (fun ls hl => ?_)
      obtain ⟨x6_10, ex6_10, hf⟩ := lt_ex hf
      refine lv_iinc (v := x6_10) (lv' := [(6, .int x6_10), (4, .long x4_9), (0, .ref (aD g 0)), (1, .int x1), (3, .int x3)]) hx hb dX5_mean_63 hl (k := 4) rfl (by rw [ex6_10]; rfl) (by decide) rfl (fun ls hl => ?_)
      refine lv_goto (tgt := 41) hx hb dX5_mean_66 (by decide) ?_
      exact ih x1 x3 x4_9 x6_10 u _ _ _ hP hS (lv_sub hl [2, 3, 4, 1, 0] rfl) hf
  unfold f_X5_mean at hf
  refine lv_aload_n hx hb dX5_mean_0 rfl (lv_at hl 0 rfl) ?_
  refine lv_aload_n hx hb dX5_mean_1 rfl (lv_at hl 0 rfl) ?_
  refine r_get hx hb hts hown hC hP hinX5 0 (by decide) (ci := 4) rfl (by decide) rfl 0 (by decide) (hts (.fieldLink RX5 14 "LoafParts" "rows" "LLoafParts$Shelf;") (by decide +kernel)) (v := .ref (aD g 1)) rfl dX5_mean_2 ?_
  refine lv_iload_n hx hb dX5_mean_5 rfl (lv_at hl 1 rfl) ?_
  obtain ⟨q_1, hq_1, hf⟩ := bind_ex hf
  refine r_Vi (r := q_1.1) (u' := q_1.2) (As := [.ref (aD g 1), .int x1]) (rest := []) (k := 0) (ci := 4) ⟨hx, hb, hml, hown, hts⟩ hC hP hS (by decide) rfl (by decide) rfl (c_X5_refuseMissing l g 1 6 shf_rows u x1 hq_1) (cwV 2 hts gX5_mean_X5_refuseMissing rfl rfl rfl (by decide +kernel) ⟨(Nat.le_trans (Nat.le_of_ble_eq_true rfl) hRf), (Nat.le_trans (Nat.le_of_ble_eq_true rfl) hRl)⟩) rfl hl.1 rfl (Nat.le_of_ble_eq_true rfl) dX5_mean_6 (fun H locs hP hS => ?_)
  refine lv_istore_n (lv' := [(2, .int q_1.1), (0, .ref (aD g 0)), (1, .int x1)]) hx hb dX5_mean_9 rfl hl (by decide) rfl (fun ls hl => ?_)
  refine lv_iload_n hx hb dX5_mean_10 rfl (lv_at hl 0 rfl) ?_
  refine lv_if_eq (tgt := 16) hx hb dX5_mean_11 (by decide) (fun c_2 => ?_) (fun c_2 => ?_)
  · rw [if_pos c_2] at hf
    refine lv_aload_n hx hb dX5_mean_16 rfl (lv_at hl 1 rfl) ?_
    refine r_get hx hb hts hown hC hP hinX5 0 (by decide) (ci := 4) rfl (by decide) rfl 0 (by decide) (hts (.fieldLink RX5 14 "LoafParts" "rows" "LLoafParts$Shelf;") (by decide +kernel)) (v := .ref (aD g 1)) rfl dX5_mean_17 ?_
    refine lv_iload_n hx hb dX5_mean_20 rfl (lv_at hl 2 rfl) ?_
    obtain ⟨q_3, hq_3, hf⟩ := bind_ex hf
    refine r_Vi (As := [.int x1]) (rest := []) (k := 1) (ci := 2) ⟨hx, hb, hml, hown, hts⟩ hC hP hS (by decide) rfl (by decide) rfl (c_X3_sizeOf l g 1 6 shf_rows q_1.2 x1 hq_3) (cwV 1 hts gX5_mean_X3_sizeOf rfl rfl rfl (by decide +kernel) ⟨(Nat.le_trans (Nat.le_of_ble_eq_true rfl) hRf), (Nat.le_trans (Nat.le_of_ble_eq_true rfl) hRl)⟩) rfl hl.1 rfl (Nat.le_of_ble_eq_true rfl) dX5_mean_21 (fun H locs hP hS => ?_)
    refine lv_istore_n (lv' := [(3, .int q_3), (2, .int q_1.1), (0, .ref (aD g 0)), (1, .int x1)]) hx hb dX5_mean_24 rfl hl (by decide) rfl (fun ls hl => ?_)
    refine lv_iload_n hx hb dX5_mean_25 rfl (lv_at hl 0 rfl) ?_
    refine lv_if_gt (tgt := 35) hx hb dX5_mean_26 (by decide) (fun c_4 => ?_) (fun c_4 => ?_)
    · rw [if_pos c_4] at hf
      refine lv_lconst (v := (0 : Int64)) hx hb dX5_mean_35 (by decide) ?_
      refine lv_lstore (lv' := [(4, .long (0 : Int64)), (3, .int q_3), (2, .int q_1.1), (0, .ref (aD g 0)), (1, .int x1)]) hx hb dX5_mean_36 hl (by decide) rfl (fun ls hl => ?_)
      refine lv_iconst (v := (0 : Int32)) hx hb dX5_mean_38 (by decide) ?_
      refine lv_istore (lv' := [(6, .int (0 : Int32)), (4, .long (0 : Int64)), (3, .int q_3), (2, .int q_1.1), (0, .ref (aD g 0)), (1, .int x1)]) hx hb dX5_mean_39 hl (by decide) rfl (fun ls hl => ?_)
      exact w_41 fu x1 q_3 (0 : Int64) (0 : Int32) q_1.2 _ _ _ hP hS (lv_sub hl [4, 5, 2, 1, 0] rfl) hf
    rw [if_neg c_4] at hf
    refine lv_aload_n hx hb dX5_mean_29 rfl (lv_at hl 2 rfl) ?_
    refine lv_iconst (v := (4 : Int32)) hx hb dX5_mean_30 (by decide) ?_
    obtain ⟨q_11, hq_11, hf⟩ := bind_ex hf
    refine r_Vi (r := q_11.1) (u' := q_11.2) (As := [.int (4 : Int32)]) (rest := []) (k := 0) (ci := 4) ⟨hx, hb, hml, hown, hts⟩ hC hP hS (by decide) rfl (by decide) rfl (c_X5_found l g q_1.2 (4 : Int32) hq_11) (cwV 1 hts gX5_mean_X5_found rfl rfl rfl (by decide +kernel) ⟨(Nat.le_trans (Nat.le_of_ble_eq_true rfl) hRf), (Nat.le_trans (Nat.le_of_ble_eq_true rfl) hRl)⟩) rfl hl.1 rfl (Nat.le_of_ble_eq_true rfl) dX5_mean_31 (fun H locs hP hS => ?_)
    obtain ⟨rfl, rfl⟩ := sp2 hf
    exact kret _ _ _ _ dX5_mean_34 hP hS trivial
  rw [if_neg c_2] at hf
  refine lv_iload_n hx hb dX5_mean_14 rfl (lv_at hl 0 rfl) ?_
  obtain ⟨rfl, rfl⟩ := sp2 hf
  exact kret _ _ _ _ dX5_mean_15 hP hS trivial
set_option maxHeartbeats 4000000 in
set_option maxRecDepth 100000 in
theorem c_X5_text (l : Launch) (g : GG) (u : UU) (x1 : Int32) (x2 : Int32) {r : Int32} {u' : UU} (hf : f_X5_text x1 x2 u = some (r, u')) : Ci l g 0 55 yX5_text wsX5_text 2 45 [.ref (aD g 0), .int x1, .int x2] u r u' := by
  refine ct_i (cc := cX5_text) (maxL := 3) (by decide) rfl (Nat.le_of_ble_eq_true rfl) ?_
  intro p e s m args below meth c R Q ls hx hb hml hown hts hC hP hl hRf hRl kret hS
  have hown : s.vm.findClass RX5 = some m.cls := hown
  have hl : lv_has ls 3 [(0, .ref (aD g 0)), (1, .int x1), (2, .int x2)] := hl
  have hinX5 : ∀ w ∈ u_ws RX5 TX5 12, w ∈ wsX5_text := by decide +kernel
  unfold f_X5_text at hf
  refine lv_aload_n hx hb dX5_text_0 rfl (lv_at hl 0 rfl) ?_
  refine r_get hx hb hts hown hC hP hinX5 0 (by decide) (ci := 4) rfl (by decide) rfl 1 (by decide) (hts (.fieldLink RX5 18 "LoafParts" "texts" "LLoafParts$Shelf;") (by decide +kernel)) (v := .ref (aD g 4)) rfl dX5_text_1 ?_
  refine lv_iload_n hx hb dX5_text_4 rfl (lv_at hl 1 rfl) ?_
  obtain ⟨q_1, hq_1, hf⟩ := bind_ex hf
  refine r_Vi (As := [.int x1]) (rest := []) (k := 4) (ci := 2) ⟨hx, hb, hml, hown, hts⟩ hC hP hS (by decide) rfl (by decide) rfl (c_X3_isNumber l g 4 4 shf_texts u x1 hq_1) (cwV 1 hts gX5_text_X3_isNumber rfl rfl rfl (by decide +kernel) ⟨(Nat.le_trans (Nat.le_of_ble_eq_true rfl) hRf), (Nat.le_trans (Nat.le_of_ble_eq_true rfl) hRl)⟩) rfl hl.1 rfl (Nat.le_of_ble_eq_true rfl) dX5_text_5 (fun H locs hP hS => ?_)
  refine lv_if_eq (tgt := 17) hx hb dX5_text_8 (by decide) (fun c_2 => ?_) (fun c_2 => ?_)
  · rw [if_pos c_2] at hf
    refine lv_iconst (v := (-1 : Int32)) hx hb dX5_text_17 (by decide) ?_
    obtain ⟨rfl, rfl⟩ := sp2 hf
    exact kret _ _ _ _ dX5_text_18 hP hS trivial
  rw [if_neg c_2] at hf
  refine lv_iload_n hx hb dX5_text_11 rfl (lv_at hl 2 rfl) ?_
  refine lv_bipush (v := (60 : Int32)) hx hb dX5_text_12 (by decide) ?_
  refine lv_icmp_le (tgt := 19) hx hb dX5_text_14 (by decide) (fun c_3 => ?_) (fun c_3 => ?_)
  · rw [if_pos c_3] at hf
    refine lv_iload_n hx hb dX5_text_19 rfl (lv_at hl 2 rfl) ?_
    refine lv_if_ge (tgt := 29) hx hb dX5_text_20 (by decide) (fun c_4 => ?_) (fun c_4 => ?_)
    · rw [if_pos c_4] at hf
      refine lv_aload_n hx hb dX5_text_29 rfl (lv_at hl 0 rfl) ?_
      refine r_get hx hb hts hown hC hP hinX5 0 (by decide) (ci := 4) rfl (by decide) rfl 1 (by decide) (hts (.fieldLink RX5 18 "LoafParts" "texts" "LLoafParts$Shelf;") (by decide +kernel)) (v := .ref (aD g 4)) rfl dX5_text_30 ?_
      refine lv_iload_n hx hb dX5_text_33 rfl (lv_at hl 1 rfl) ?_
      refine lv_iload_n hx hb dX5_text_34 rfl (lv_at hl 2 rfl) ?_
      refine lv_bipush (v := (32 : Int32)) hx hb dX5_text_35 (by decide) ?_
      obtain ⟨q_5, hq_5, hf⟩ := bind_ex hf
      refine r_Vv (As := [.int x1, .int x2, .int (32 : Int32)]) (rest := []) (k := 4) (ci := 2) ⟨hx, hb, hml, hown, hts⟩ hC hP hS (by decide) rfl (by decide) rfl (c_X3_make l g 4 4 shf_texts u x1 x2 (32 : Int32) hq_5) (cwV 3 hts gX5_text_X3_make rfl rfl rfl (by decide +kernel) ⟨(Nat.le_trans (Nat.le_of_ble_eq_true rfl) hRf), (Nat.le_trans (Nat.le_of_ble_eq_true rfl) hRl)⟩) rfl hl.1 rfl (Nat.le_of_ble_eq_true rfl) dX5_text_37 (fun H locs hP hS => ?_)
      refine lv_iload_n hx hb dX5_text_40 rfl (lv_at hl 2 rfl) ?_
      obtain ⟨rfl, rfl⟩ := sp2 hf
      exact kret _ _ _ _ dX5_text_41 hP hS trivial
    rw [if_neg c_4] at hf
    refine lv_aload_n hx hb dX5_text_23 rfl (lv_at hl 0 rfl) ?_
    refine lv_iconst (v := (5 : Int32)) hx hb dX5_text_24 (by decide) ?_
    obtain ⟨q_6, hq_6, hf⟩ := bind_ex hf
    refine r_Vi (r := q_6.1) (u' := q_6.2) (As := [.int (5 : Int32)]) (rest := []) (k := 0) (ci := 4) ⟨hx, hb, hml, hown, hts⟩ hC hP hS (by decide) rfl (by decide) rfl (c_X5_found l g u (5 : Int32) hq_6) (cwV 1 hts gX5_text_X5_found rfl rfl rfl (by decide +kernel) ⟨(Nat.le_trans (Nat.le_of_ble_eq_true rfl) hRf), (Nat.le_trans (Nat.le_of_ble_eq_true rfl) hRl)⟩) rfl hl.1 rfl (Nat.le_of_ble_eq_true rfl) dX5_text_25 (fun H locs hP hS => ?_)
    obtain ⟨rfl, rfl⟩ := sp2 hf
    exact kret _ _ _ _ dX5_text_28 hP hS trivial
  rw [if_neg c_3] at hf
  refine lv_iconst (v := (-1 : Int32)) hx hb dX5_text_17 (by decide) ?_
  obtain ⟨rfl, rfl⟩ := sp2 hf
  exact kret _ _ _ _ dX5_text_18 hP hS trivial