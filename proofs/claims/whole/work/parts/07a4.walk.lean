set_option maxHeartbeats 4000000 in
set_option maxRecDepth 100000 in
theorem c_X1_lookOn (l : Launch) (g : GG) : ∀ (d : Nat) (u : UU) (x1 : Int32) (x2 : Int32) (x3 : Int32) {u' : UU}, f_X1_lookOn d x1 x2 x3 u = some u' → Cv l g 0 55 yX1_lookOn wsX1_lookOn (2 + d) (43 + d * 25) [.ref (aD g 52), .int x1, .int x2, .int x3] u u' := by
  intro d
  induction d with
  | zero =>
    intro u x1 x2 x3 u' hf
    rw [f_X1_lookOn] at hf
    cases hf
  | succ d ihr =>
    intro u x1 x2 x3 u' hf
    rw [f_X1_lookOn] at hf
    unfold f_X1_lookOn_body at hf
    generalize hrc : f_X1_lookOn d = rc at hf ihr
    clear hrc
    refine ct_v (cc := cX1_lookOn) (maxL := 6) (by decide) rfl (Nat.le_of_ble_eq_true rfl) ?_
    intro p e s m args below meth c R Q ls hx hb hml hown hts hC hP hl hRf hRl kret hS
    have hown : s.vm.findClass RX1 = some m.cls := hown
    have hl : lv_has ls 6 [(0, .ref (aD g 52)), (1, .int x1), (2, .int x2), (3, .int x3)] := hl
    have hinX1 : ∀ w ∈ u_ws RX1 TX1 5, w ∈ wsX1_lookOn := by decide +kernel
    have w_90 : ∀ (x1 : Int32) (x2 : Int32) (x3 : Int32) (u : UU) (H : Heap) (locs : List Loc) (ls : Array Slot), Ps g 0 55 u H → va_S (aA g) s.heap H locs → lv_has ls 6 [(0, .ref (aD g 52)), (1, .int x1), (2, .int x2), (3, .int x3)] → f_X1_lookOn_90 rc x1 x2 x3 u = some u' → W p l e R s m args below meth c H locs 0 0 Q (F0 m 90 ls []) := by
      intro x1 x2 x3 u H locs ls hP hS hl hf
      unfold f_X1_lookOn_90 at hf
      refine lv_aload_n hx hb dX1_lookOn_90 rfl (lv_at hl 0 rfl) ?_
      refine lv_iload_n hx hb dX1_lookOn_91 rfl (lv_at hl 1 rfl) ?_
      refine lv_iconst (v := (1 : Int32)) hx hb dX1_lookOn_92 (by decide) ?_
      refine lv_iadd hx hb dX1_lookOn_93 ?_
      refine lv_iload_n hx hb dX1_lookOn_94 rfl (lv_at hl 2 rfl) ?_
      refine lv_iload_n hx hb dX1_lookOn_95 rfl (lv_at hl 3 rfl) ?_
      obtain ⟨q_12, hq_12, hf⟩ := bind_ex hf
      refine r_Vv (As := [.int (x1 + (1 : Int32)), .int x2, .int x3]) (rest := []) (k := 52) (ci := 0) ⟨hx, hb, hml, hown, hts⟩ hC hP hS (by decide) rfl (by decide) rfl (ihr u (x1 + (1 : Int32)) x2 x3 hq_12) (cwV 3 hts gX1_lookOn_X1_lookOn rfl rfl rfl (by decide +kernel) ⟨(by dsimp only [rmm]; omega), (by dsimp only [rmm]; omega)⟩) rfl hl.1 rfl (Nat.le_of_ble_eq_true rfl) dX1_lookOn_96 (fun H locs hP hS => ?_)
      obtain rfl := sp1 hf
      exact kret _ _ _ _ dX1_lookOn_99 hP hS trivial
    refine lv_iload_n hx hb dX1_lookOn_0 rfl (lv_at hl 2 rfl) ?_
    refine lv_if_ne (tgt := 10) hx hb dX1_lookOn_1 (by decide) (fun c_1 => ?_) (fun c_1 => ?_)
    · rw [if_neg c_1] at hf
      refine lv_iload_n hx hb dX1_lookOn_10 rfl (lv_at hl 2 rfl) ?_
      refine lv_if_lt (tgt := 30) hx hb dX1_lookOn_11 (by decide) (fun c_2 => ?_) (fun c_2 => ?_)
      · rw [if_pos c_2] at hf
        obtain rfl := sp1 hf
        exact kret _ _ _ _ dX1_lookOn_30 hP hS trivial
      rw [if_neg c_2] at hf
      refine lv_iload_n hx hb dX1_lookOn_14 rfl (lv_at hl 1 rfl) ?_
      refine va_gets hx hb hC.2.2.2.1 hS hown (hts (.fieldLink RX1 33 "LoafParts$Makeup" "ORDER" "[I") (by decide +kernel)) (fun _ h => h) dX1_lookOn_15 ?_
      refine va_tlen hx hb hC.2.2.2.2.1 hS (v := (15 : Int32)) rfl dX1_lookOn_18 ?_
      refine lv_icmp_ge (tgt := 30) hx hb dX1_lookOn_19 (by decide) (fun c_3 => ?_) (fun c_3 => ?_)
      · rw [if_pos c_3] at hf
        obtain rfl := sp1 hf
        exact kret _ _ _ _ dX1_lookOn_30 hP hS trivial
      rw [if_neg c_3] at hf
      refine lv_iload_n hx hb dX1_lookOn_22 rfl (lv_at hl 1 rfl) ?_
      refine va_gets hx hb hC.2.2.2.2.2.1 hS hown (hts (.fieldLink RX1 37 "LoafParts$Makeup" "COMMON" "[I") (by decide +kernel)) (fun _ h => h) dX1_lookOn_23 ?_
      refine va_tlen hx hb hC.2.2.2.2.2.2 hS (v := (15 : Int32)) rfl dX1_lookOn_26 ?_
      refine lv_icmp_lt (tgt := 31) hx hb dX1_lookOn_27 (by decide) (fun c_4 => ?_) (fun c_4 => ?_)
      · rw [if_pos c_4] at hf
        refine va_gets hx hb hC.2.2.2.2.2.1 hS hown (hts (.fieldLink RX1 37 "LoafParts$Makeup" "COMMON" "[I") (by decide +kernel)) (fun _ h => h) dX1_lookOn_31 ?_
        refine lv_iload_n hx hb dX1_lookOn_34 rfl (lv_at hl 1 rfl) ?_
        obtain ⟨hi_5, hf⟩ := ix_ex hf
        refine va_ti hx hb hC.2.2.2.2.2.2 hS hi_5 (v := .int (comF (x1 : Int32).toNatClampNeg)) rfl dX1_lookOn_35 ?_
        obtain ⟨x4_6, ex4_6, hf⟩ := lt_ex hf
        refine r_nm ex4_6 ?_
        refine lv_istore (lv' := [(4, .int x4_6), (0, .ref (aD g 52)), (1, .int x1), (2, .int x2), (3, .int x3)]) hx hb dX1_lookOn_36 hl (by decide) rfl (fun ls hl => ?_)
        refine lv_iload hx hb dX1_lookOn_38 (lv_at hl 0 rfl) ?_
        refine lv_if_le (tgt := 50) hx hb dX1_lookOn_40 (by decide) (fun c_7 => ?_) (fun c_7 => ?_)
        · rw [if_pos c_7] at hf
          obtain rfl := sp1 hf
          exact kret _ _ _ _ dX1_lookOn_50 hP hS trivial
        rw [if_neg c_7] at hf
        refine lv_iload_n hx hb dX1_lookOn_43 rfl (lv_at hl 3 rfl) ?_
        refine lv_iload hx hb dX1_lookOn_44 (lv_at hl 0 rfl) ?_
        refine lv_irem hx hb dX1_lookOn_46 (ne_nle c_7) ?_
        refine lv_if_eq (tgt := 51) hx hb dX1_lookOn_47 (by decide) (fun c_8 => ?_) (fun c_8 => ?_)
        · rw [if_pos c_8] at hf
          refine va_gets hx hb hC.2.2.2.1 hS hown (hts (.fieldLink RX1 33 "LoafParts$Makeup" "ORDER" "[I") (by decide +kernel)) (fun _ h => h) dX1_lookOn_51 ?_
          refine lv_iload_n hx hb dX1_lookOn_54 rfl (lv_at hl 2 rfl) ?_
          obtain ⟨hi_9, hf⟩ := ix_ex hf
          refine va_ti hx hb hC.2.2.2.2.1 hS hi_9 (v := .int (ordF (x1 : Int32).toNatClampNeg)) rfl dX1_lookOn_55 ?_
          obtain ⟨x5_10, ex5_10, hf⟩ := lt_ex hf
          refine r_nm ex5_10 ?_
          refine lv_istore (lv' := [(5, .int x5_10), (4, .int x4_6), (0, .ref (aD g 52)), (1, .int x1), (2, .int x2), (3, .int x3)]) hx hb dX1_lookOn_56 hl (by decide) rfl (fun ls hl => ?_)
          refine lv_aload_n hx hb dX1_lookOn_58 rfl (lv_at hl 2 rfl) ?_
          refine r_get hx hb hts hown hC hP hinX1 52 (by decide) (ci := 0) rfl (by decide) rfl 0 (by decide) (hts (.fieldLink RX1 7 "LoafParts$Makeup" "parts" "I") (by decide +kernel)) (v := .int (ui u 52 0)) rfl dX1_lookOn_59 ?_
          refine lv_iload hx hb dX1_lookOn_62 (lv_at hl 0 rfl) ?_
          refine r_SNi (As := [.int (ui u 52 0), .int x5_10]) (rest := []) ⟨hx, hb, hml, hown, hts⟩ hC hP hS (c_X5_holds l g u (ui u 52 0) x5_10 rfl) ⟨va_cnB 2 hts gX1_lookOn_X5_holds_n40 rfl rfl rfl (hC.2.2.1.2 _ (List.mem_of_getElem? (i := 1) rfl)) (hts (.initialized RX5) (by decide +kernel)) (by decide +kernel) ⟨(by dsimp only [rmm]; omega), (by dsimp only [rmm]; omega)⟩, hts (.static yX5_holds) (by decide +kernel), trivial⟩ rfl hl.1 rfl (Nat.le_of_ble_eq_true rfl) dX1_lookOn_64 (fun H locs hP hS => ?_)
          refine lv_if_eq (tgt := 90) hx hb dX1_lookOn_67 (by decide) (fun c_11 => ?_) (fun c_11 => ?_)
          · rw [if_pos c_11] at hf
            exact w_90 x1 x2 x3 u _ _ _ hP hS (lv_sub hl [2, 3, 4, 5] rfl) hf
          rw [if_neg c_11] at hf
          refine lv_aload_n hx hb dX1_lookOn_70 rfl (lv_at hl 2 rfl) ?_
          refine lv_iload_n hx hb dX1_lookOn_71 rfl (lv_at hl 3 rfl) ?_
          refine lv_iconst (v := (1 : Int32)) hx hb dX1_lookOn_72 (by decide) ?_
          refine lv_iadd hx hb dX1_lookOn_73 ?_
          refine lv_iload_n hx hb dX1_lookOn_74 rfl (lv_at hl 4 rfl) ?_
          refine lv_iload hx hb dX1_lookOn_75 (lv_at hl 0 rfl) ?_
          refine r_SNi (As := [.int x5_10]) (rest := [.int x2, .int (x1 + (1 : Int32)), .ref (aD g 52)]) ⟨hx, hb, hml, hown, hts⟩ hC hP hS (c_X5_partSize l g u x5_10 rfl) ⟨va_cnB 1 hts gX1_lookOn_X5_partSize_n46 rfl rfl rfl (hC.2.2.1.2 _ (List.mem_of_getElem? (i := 2) rfl)) (hts (.initialized RX5) (by decide +kernel)) (by decide +kernel) ⟨(by dsimp only [rmm]; omega), (by dsimp only [rmm]; omega)⟩, hts (.static yX5_partSize) (by decide +kernel), trivial⟩ rfl hl.1 rfl (Nat.le_of_ble_eq_true rfl) dX1_lookOn_77 (fun H locs hP hS => ?_)
          refine lv_isub hx hb dX1_lookOn_80 ?_
          refine lv_iload_n hx hb dX1_lookOn_81 rfl (lv_at hl 5 rfl) ?_
          refine lv_iconst (v := (1 : Int32)) hx hb dX1_lookOn_82 (by decide) ?_
          refine lv_iload hx hb dX1_lookOn_83 (lv_at hl 0 rfl) ?_
          refine lv_ishl hx hb dX1_lookOn_85 ?_
          refine lv_ior hx hb dX1_lookOn_86 ?_
          obtain ⟨q_13, hq_13, hf⟩ := bind_ex hf
          refine r_Vv (As := [.int (x1 + (1 : Int32)), .int (x2 - (f_X5_partSize x5_10)), .int (x3 ||| ((1 : Int32) <<< (x5_10 &&& (31 : Int32))))]) (rest := []) (k := 52) (ci := 0) ⟨hx, hb, hml, hown, hts⟩ hC hP hS (by decide) rfl (by decide) rfl (ihr u (x1 + (1 : Int32)) (x2 - (f_X5_partSize x5_10)) (x3 ||| ((1 : Int32) <<< (x5_10 &&& (31 : Int32)))) hq_13) (cwV 3 hts gX1_lookOn_X1_lookOn rfl rfl rfl (by decide +kernel) ⟨(by dsimp only [rmm]; omega), (by dsimp only [rmm]; omega)⟩) rfl hl.1 rfl (Nat.le_of_ble_eq_true rfl) dX1_lookOn_87 (fun H locs hP hS => ?_)
          exact w_90 x1 x2 x3 q_13 _ _ _ hP hS (lv_sub hl [2, 3, 4, 5] rfl) hf
        rw [if_neg c_8] at hf
        obtain rfl := sp1 hf
        exact kret _ _ _ _ dX1_lookOn_50 hP hS trivial
      rw [if_neg c_4] at hf
      obtain rfl := sp1 hf
      exact kret _ _ _ _ dX1_lookOn_30 hP hS trivial
    rw [if_pos c_1] at hf
    refine lv_aload_n hx hb dX1_lookOn_4 rfl (lv_at hl 0 rfl) ?_
    refine lv_iload_n hx hb dX1_lookOn_5 rfl (lv_at hl 3 rfl) ?_
    obtain ⟨q_14, hq_14, hf⟩ := bind_ex hf
    refine r_Vv (As := [.int x3]) (rest := []) (k := 52) (ci := 0) ⟨hx, hb, hml, hown, hts⟩ hC hP hS (by decide) rfl (by decide) rfl (c_X1_note l g u x3 hq_14) (cwV 1 hts gX1_lookOn_X1_note rfl rfl rfl (by decide +kernel) ⟨(by dsimp only [rmm]; omega), (by dsimp only [rmm]; omega)⟩) rfl hl.1 rfl (Nat.le_of_ble_eq_true rfl) dX1_lookOn_6 (fun H locs hP hS => ?_)
    obtain rfl := sp1 hf
    exact kret _ _ _ _ dX1_lookOn_9 hP hS trivial
set_option maxHeartbeats 4000000 in
set_option maxRecDepth 100000 in
theorem c_X1_lookFor (l : Launch) (g : GG) (u : UU) (x1 : Int32) (x2 : Int32) {u' : UU} (hf : f_X1_lookFor x1 x2 u = some u') : Cv l g 0 55 yX1_lookFor wsX1_lookFor 23 568 [.ref (aD g 52), .int x1, .int x2] u u' := by
  refine ct_v (cc := cX1_lookFor) (maxL := 3) (by decide) rfl (Nat.le_of_ble_eq_true rfl) ?_
  intro p e s m args below meth c R Q ls hx hb hml hown hts hC hP hl hRf hRl kret hS
  have hown : s.vm.findClass RX1 = some m.cls := hown
  have hl : lv_has ls 3 [(0, .ref (aD g 52)), (1, .int x1), (2, .int x2)] := hl
  have hinX1 : ∀ w ∈ u_ws RX1 TX1 5, w ∈ wsX1_lookFor := by decide +kernel
  unfold f_X1_lookFor at hf
  refine lv_aload_n hx hb dX1_lookFor_0 rfl (lv_at hl 0 rfl) ?_
  refine lv_iload_n hx hb dX1_lookFor_1 rfl (lv_at hl 2 rfl) ?_
  obtain ⟨u_1, eu_1, hf⟩ := lt_ex hf
  refine r_puti hx hb hts hown hC hP hS hinX1 tyX1 tyX1_ok nmX1 52 (by decide) (ci := 0) rfl (by decide) rfl 0 (by decide) (hts (.fieldLink RX1 7 "LoafParts$Makeup" "parts" "I") (by decide +kernel)) rfl (ty := .int) (by decide +kernel) rfl rfl (by decide) (by decide) eu_1 dX1_lookFor_2 (fun H locs hP hS => ?_)
  refine lv_aload_n hx hb dX1_lookFor_5 rfl (lv_at hl 0 rfl) ?_
  refine lv_iconst (v := (0 : Int32)) hx hb dX1_lookFor_6 (by decide) ?_
  obtain ⟨u_2, eu_2, hf⟩ := lt_ex hf
  refine r_puti hx hb hts hown hC hP hS hinX1 tyX1 tyX1_ok nmX1 52 (by decide) (ci := 0) rfl (by decide) rfl 1 (by decide) (hts (.fieldLink RX1 13 "LoafParts$Makeup" "sets" "I") (by decide +kernel)) rfl (ty := .int) (by decide +kernel) rfl rfl (by decide) (by decide) eu_2 dX1_lookFor_7 (fun H locs hP hS => ?_)
  refine lv_aload_n hx hb dX1_lookFor_10 rfl (lv_at hl 0 rfl) ?_
  refine lv_iconst (v := (0 : Int32)) hx hb dX1_lookFor_11 (by decide) ?_
  obtain ⟨u_3, eu_3, hf⟩ := lt_ex hf
  refine r_puti hx hb hts hown hC hP hS hinX1 tyX1 tyX1_ok nmX1 52 (by decide) (ci := 0) rfl (by decide) rfl 2 (by decide) (hts (.fieldLink RX1 16 "LoafParts$Makeup" "most" "I") (by decide +kernel)) rfl (ty := .int) (by decide +kernel) rfl rfl (by decide) (by decide) eu_3 dX1_lookFor_12 (fun H locs hP hS => ?_)
  refine lv_aload_n hx hb dX1_lookFor_15 rfl (lv_at hl 0 rfl) ?_
  refine lv_iconst (v := (0 : Int32)) hx hb dX1_lookFor_16 (by decide) ?_
  obtain ⟨u_4, eu_4, hf⟩ := lt_ex hf
  refine r_puti hx hb hts hown hC hP hS hinX1 tyX1 tyX1_ok nmX1 52 (by decide) (ci := 0) rfl (by decide) rfl 3 (by decide) (hts (.fieldLink RX1 19 "LoafParts$Makeup" "fewest" "I") (by decide +kernel)) rfl (ty := .int) (by decide +kernel) rfl rfl (by decide) (by decide) eu_4 dX1_lookFor_17 (fun H locs hP hS => ?_)
  refine lv_aload_n hx hb dX1_lookFor_20 rfl (lv_at hl 0 rfl) ?_
  refine lv_iconst (v := (0 : Int32)) hx hb dX1_lookFor_21 (by decide) ?_
  obtain ⟨u_5, eu_5, hf⟩ := lt_ex hf
  refine r_puti hx hb hts hown hC hP hS hinX1 tyX1 tyX1_ok nmX1 52 (by decide) (ci := 0) rfl (by decide) rfl 4 (by decide) (hts (.fieldLink RX1 22 "LoafParts$Makeup" "fewestSet" "I") (by decide +kernel)) rfl (ty := .int) (by decide +kernel) rfl rfl (by decide) (by decide) eu_5 dX1_lookFor_22 (fun H locs hP hS => ?_)
  refine lv_aload_n hx hb dX1_lookFor_25 rfl (lv_at hl 0 rfl) ?_
  refine lv_iconst (v := (0 : Int32)) hx hb dX1_lookFor_26 (by decide) ?_
  refine lv_iload_n hx hb dX1_lookFor_27 rfl (lv_at hl 1 rfl) ?_
  refine lv_iconst (v := (0 : Int32)) hx hb dX1_lookFor_28 (by decide) ?_
  obtain ⟨q_6, hq_6, hf⟩ := bind_ex hf
  refine r_Vv (As := [.int (0 : Int32), .int x1, .int (0 : Int32)]) (rest := []) (k := 52) (ci := 0) ⟨hx, hb, hml, hown, hts⟩ hC hP hS (by decide) rfl (by decide) rfl (c_X1_lookOn l g 20 u_5 (0 : Int32) x1 (0 : Int32) hq_6) (cwV 3 hts gX1_lookFor_X1_lookOn rfl rfl rfl (by decide +kernel) ⟨(Nat.le_trans (Nat.le_of_ble_eq_true rfl) hRf), (Nat.le_trans (Nat.le_of_ble_eq_true rfl) hRl)⟩) rfl hl.1 rfl (Nat.le_of_ble_eq_true rfl) dX1_lookFor_29 (fun H locs hP hS => ?_)
  obtain rfl := sp1 hf
  exact kret _ _ _ _ dX1_lookFor_32 hP hS trivial
set_option maxHeartbeats 4000000 in
set_option maxRecDepth 100000 in
theorem c_X5_ways (l : Launch) (g : GG) (u : UU) (x1 : Int32) {r : Int32} {u' : UU} (hf : f_X5_ways x1 u = some (r, u')) : Ci l g 0 55 yX5_ways wsX5_ways 24 590 [.ref (aD g 0), .int x1] u r u' := by
  refine ct_i (cc := cX5_ways) (maxL := 2) (by decide) rfl (Nat.le_of_ble_eq_true rfl) ?_
  intro p e s m args below meth c R Q ls hx hb hml hown hts hC hP hl hRf hRl kret hS
  have hown : s.vm.findClass RX5 = some m.cls := hown
  have hl : lv_has ls 2 [(0, .ref (aD g 0)), (1, .int x1)] := hl
  have hinX1 : ∀ w ∈ u_ws RX1 TX1 5, w ∈ wsX5_ways := by decide +kernel
  have hinX4 : ∀ w ∈ u_ws RX4 TX4 13, w ∈ wsX5_ways := by decide +kernel
  have hinX5 : ∀ w ∈ u_ws RX5 TX5 12, w ∈ wsX5_ways := by decide +kernel
  unfold f_X5_ways at hf
  refine lv_aload_n hx hb dX5_ways_0 rfl (lv_at hl 0 rfl) ?_
  refine r_get hx hb hts hown hC hP hinX5 0 (by decide) (ci := 4) rfl (by decide) rfl 3 (by decide) (hts (.fieldLink RX5 31 "LoafParts" "table" "LLoafParts$Table;") (by decide +kernel)) (v := .ref (aD g 11)) rfl dX5_ways_1 ?_
  refine lv_iload_n hx hb dX5_ways_4 rfl (lv_at hl 1 rfl) ?_
  obtain ⟨q_1, hq_1, hf⟩ := bind_ex hf
  refine r_Vi (As := [.int x1]) (rest := []) (k := 11) (ci := 3) ⟨hx, hb, hml, hown, hts⟩ hC hP hS (by decide) rfl (by decide) rfl (c_X4_isWorker l g u x1 hq_1) (cwV 1 hts gX5_ways_X4_isWorker rfl rfl rfl (by decide +kernel) ⟨(Nat.le_trans (Nat.le_of_ble_eq_true rfl) hRf), (Nat.le_trans (Nat.le_of_ble_eq_true rfl) hRl)⟩) rfl hl.1 rfl (Nat.le_of_ble_eq_true rfl) dX5_ways_5 (fun H locs hP hS => ?_)
  refine lv_if_ne (tgt := 13) hx hb dX5_ways_8 (by decide) (fun c_2 => ?_) (fun c_2 => ?_)
  · rw [if_neg c_2] at hf
    refine lv_aload_n hx hb dX5_ways_13 rfl (lv_at hl 0 rfl) ?_
    refine r_get hx hb hts hown hC hP hinX5 0 (by decide) (ci := 4) rfl (by decide) rfl 5 (by decide) (hts (.fieldLink RX5 42 "LoafParts" "makeup" "LLoafParts$Makeup;") (by decide +kernel)) (v := .ref (aD g 52)) rfl dX5_ways_14 ?_
    refine lv_aload_n hx hb dX5_ways_17 rfl (lv_at hl 0 rfl) ?_
    refine r_get hx hb hts hown hC hP hinX5 0 (by decide) (ci := 4) rfl (by decide) rfl 3 (by decide) (hts (.fieldLink RX5 31 "LoafParts" "table" "LLoafParts$Table;") (by decide +kernel)) (v := .ref (aD g 11)) rfl dX5_ways_18 ?_
    refine r_getN hx hb hts hown hC hP hinX4 11 (by decide) (ci := 3) rfl (by decide) rfl 9 (by decide) 7 rfl (v := .ref (aD g 17)) rfl dX5_ways_21 ?_
    refine lv_iload_n hx hb dX5_ways_24 rfl (lv_at hl 1 rfl) ?_
    obtain ⟨hi_3, hf⟩ := ix_ex hf
    refine r_ald hx hb hC hP 17 (by decide) rfl hi_3 dX5_ways_25 ?_
    refine lv_aload_n hx hb dX5_ways_26 rfl (lv_at hl 0 rfl) ?_
    refine r_get hx hb hts hown hC hP hinX5 0 (by decide) (ci := 4) rfl (by decide) rfl 3 (by decide) (hts (.fieldLink RX5 31 "LoafParts" "table" "LLoafParts$Table;") (by decide +kernel)) (v := .ref (aD g 11)) rfl dX5_ways_27 ?_
    refine lv_iload_n hx hb dX5_ways_30 rfl (lv_at hl 1 rfl) ?_
    obtain ⟨q_4, hq_4, hf⟩ := bind_ex hf
    refine r_Vi (As := [.int x1]) (rest := [.int (ui u 17 (x1 : Int32).toNatClampNeg), .ref (aD g 52)]) (k := 11) (ci := 3) ⟨hx, hb, hml, hown, hts⟩ hC hP hS (by decide) rfl (by decide) rfl (c_X4_openTo l g u x1 hq_4) (cwV 1 hts gX5_ways_X4_openTo rfl rfl rfl (by decide +kernel) ⟨(Nat.le_trans (Nat.le_of_ble_eq_true rfl) hRf), (Nat.le_trans (Nat.le_of_ble_eq_true rfl) hRl)⟩) rfl hl.1 rfl (Nat.le_of_ble_eq_true rfl) dX5_ways_31 (fun H locs hP hS => ?_)
    obtain ⟨q_5, hq_5, hf⟩ := bind_ex hf
    refine r_Vv (As := [.int (ui u 17 (x1 : Int32).toNatClampNeg), .int q_4]) (rest := []) (k := 52) (ci := 0) ⟨hx, hb, hml, hown, hts⟩ hC hP hS (by decide) rfl (by decide) rfl (c_X1_lookFor l g u (ui u 17 (x1 : Int32).toNatClampNeg) q_4 hq_5) (cwV 2 hts gX5_ways_X1_lookFor rfl rfl rfl (by decide +kernel) ⟨(Nat.le_trans (Nat.le_of_ble_eq_true rfl) hRf), (Nat.le_trans (Nat.le_of_ble_eq_true rfl) hRl)⟩) rfl hl.1 rfl (Nat.le_of_ble_eq_true rfl) dX5_ways_34 (fun H locs hP hS => ?_)
    refine lv_aload_n hx hb dX5_ways_37 rfl (lv_at hl 0 rfl) ?_
    refine r_get hx hb hts hown hC hP hinX5 0 (by decide) (ci := 4) rfl (by decide) rfl 5 (by decide) (hts (.fieldLink RX5 42 "LoafParts" "makeup" "LLoafParts$Makeup;") (by decide +kernel)) (v := .ref (aD g 52)) rfl dX5_ways_38 ?_
    refine r_getN hx hb hts hown hC hP hinX1 52 (by decide) (ci := 0) rfl (by decide) rfl 1 (by decide) 8 rfl (v := .int (ui q_5 52 1)) rfl dX5_ways_41 ?_
    refine lv_if_ne (tgt := 50) hx hb dX5_ways_44 (by decide) (fun c_6 => ?_) (fun c_6 => ?_)
    · rw [if_neg c_6] at hf
      refine lv_aload_n hx hb dX5_ways_50 rfl (lv_at hl 0 rfl) ?_
      refine lv_aload_n hx hb dX5_ways_51 rfl (lv_at hl 0 rfl) ?_
      refine r_get hx hb hts hown hC hP hinX5 0 (by decide) (ci := 4) rfl (by decide) rfl 5 (by decide) (hts (.fieldLink RX5 42 "LoafParts" "makeup" "LLoafParts$Makeup;") (by decide +kernel)) (v := .ref (aD g 52)) rfl dX5_ways_52 ?_
      refine r_getN hx hb hts hown hC hP hinX1 52 (by decide) (ci := 0) rfl (by decide) rfl 2 (by decide) 9 rfl (v := .int (ui q_5 52 2)) rfl dX5_ways_55 ?_
      obtain ⟨u_7, eu_7, hf⟩ := lt_ex hf
      refine r_puti hx hb hts hown hC hP hS hinX5 tyX5 tyX5_ok nmX5 0 (by decide) (ci := 4) rfl (by decide) rfl 9 (by decide) (hts (.fieldLink RX5 77 "LoafParts" "told" "I") (by decide +kernel)) rfl (ty := .int) (by decide +kernel) rfl rfl (by decide) (by decide) eu_7 dX5_ways_58 (fun H locs hP hS => ?_)
      refine lv_aload_n hx hb dX5_ways_61 rfl (lv_at hl 0 rfl) ?_
      refine r_get hx hb hts hown hC hP hinX5 0 (by decide) (ci := 4) rfl (by decide) rfl 5 (by decide) (hts (.fieldLink RX5 42 "LoafParts" "makeup" "LLoafParts$Makeup;") (by decide +kernel)) (v := .ref (aD g 52)) rfl dX5_ways_62 ?_
      refine r_getN hx hb hts hown hC hP hinX1 52 (by decide) (ci := 0) rfl (by decide) rfl 1 (by decide) 8 rfl (v := .int (ui u_7 52 1)) rfl dX5_ways_65 ?_
      obtain ⟨rfl, rfl⟩ := sp2 hf
      exact kret _ _ _ _ dX5_ways_68 hP hS trivial
    rw [if_pos c_6] at hf
    refine lv_bipush (v := (-9 : Int32)) hx hb dX5_ways_47 (by decide) ?_
    obtain ⟨rfl, rfl⟩ := sp2 hf
    exact kret _ _ _ _ dX5_ways_49 hP hS trivial
  rw [if_pos c_2] at hf
  refine lv_iconst (v := (-1 : Int32)) hx hb dX5_ways_11 (by decide) ?_
  obtain ⟨rfl, rfl⟩ := sp2 hf
  exact kret _ _ _ _ dX5_ways_12 hP hS trivial
set_option maxHeartbeats 4000000 in
set_option maxRecDepth 100000 in
theorem c_X5_writes (l : Launch) (g : GG) (u : UU) (x1 : Int32) (x2 : Int32) {r : Int32} {u' : UU} (hf : f_X5_writes x1 x2 u = some (r, u')) : Ci l g 0 55 yX5_writes wsX5_writes 24 590 [.ref (aD g 0), .int x1, .int x2] u r u' := by
  refine ct_i (cc := cX5_writes) (maxL := 5) (by decide) rfl (Nat.le_of_ble_eq_true rfl) ?_
  intro p e s m args below meth c R Q ls hx hb hml hown hts hC hP hl hRf hRl kret hS
  have hown : s.vm.findClass RX5 = some m.cls := hown
  have hl : lv_has ls 5 [(0, .ref (aD g 0)), (1, .int x1), (2, .int x2)] := hl
  have hinX1 : ∀ w ∈ u_ws RX1 TX1 5, w ∈ wsX5_writes := by decide +kernel
  have hinX4 : ∀ w ∈ u_ws RX4 TX4 13, w ∈ wsX5_writes := by decide +kernel
  have hinX5 : ∀ w ∈ u_ws RX5 TX5 12, w ∈ wsX5_writes := by decide +kernel
  have w_118 : ∀ (k_82 : Int32 → Int32 → Int32 → UU → Option (Int32 × UU)) (K_82 : ∀ (x2 : Int32) (x3 : Int32) (x4 : Int32) (u : UU) (H : Heap) (locs : List Loc) (ls : Array Slot), Ps g 0 55 u H → va_S (aA g) s.heap H locs → lv_has ls 5 [(0, .ref (aD g 0)), (2, .int x2), (3, .int x3), (4, .int x4)] → k_82 x2 x3 x4 u = some (r, u') → W p l e R s m args below meth c H locs 0 0 Q (F0 m 82 ls [])), ∀ (x2 : Int32) (x3 : Int32) (x4 : Int32) (u : UU) (H : Heap) (locs : List Loc) (ls : Array Slot), Ps g 0 55 u H → va_S (aA g) s.heap H locs → lv_has ls 5 [(0, .ref (aD g 0)), (2, .int x2), (3, .int x3), (4, .int x4)] → f_X5_writes_118 k_82 x2 x3 x4 u = some (r, u') → W p l e R s m args below meth c H locs 0 0 Q (F0 m 118 ls []) := by
    intro k_82 K_82
    intro x2 x3 x4 u H locs ls hP hS hl hf
    unfold f_X5_writes_118 at hf
    obtain ⟨x4_12, ex4_12, hf⟩ := lt_ex hf
    refine lv_iinc (v := x4_12) (lv' := [(4, .int x4_12), (0, .ref (aD g 0)), (2, .int x2), (3, .int x3)]) hx hb dX5_writes_118 hl (k := 3) rfl (by rw [ex4_12]; rfl) (by decide) rfl (fun ls hl => ?_)
    refine lv_goto (tgt := 82) hx hb dX5_writes_121 (by decide) ?_
    exact K_82 x2 x3 x4_12 u _ _ _ hP hS (lv_sub hl [1, 2, 3, 0] rfl) hf
  have w_82 : ∀ (n : Nat), ∀ (x2 : Int32) (x3 : Int32) (x4 : Int32) (u : UU) (H : Heap) (locs : List Loc) (ls : Array Slot), Ps g 0 55 u H → va_S (aA g) s.heap H locs → lv_has ls 5 [(0, .ref (aD g 0)), (2, .int x2), (3, .int x3), (4, .int x4)] → f_X5_writes_82 n x2 x3 x4 u = some (r, u') → W p l e R s m args below meth c H locs 0 0 Q (F0 m 82 ls []) := by
    intro n
    induction n with
    | zero =>
      intro x2 x3 x4 u H locs ls hP hS hl hf
      rw [f_X5_writes_82] at hf
      cases hf
    | succ n ih =>
      intro x2 x3 x4 u H locs ls hP hS hl hf
      rw [f_X5_writes_82] at hf
      refine lv_iload hx hb dX5_writes_82 (lv_at hl 3 rfl) ?_
      refine lv_bipush (v := (16 : Int32)) hx hb dX5_writes_84 (by decide) ?_
      refine lv_icmp_gt (tgt := 124) hx hb dX5_writes_86 (by decide) (fun c_10 => ?_) (fun c_10 => ?_)
      · rw [if_pos c_10] at hf
        refine lv_aload_n hx hb dX5_writes_124 rfl (lv_at hl 0 rfl) ?_
        refine r_get hx hb hts hown hC hP hinX5 0 (by decide) (ci := 4) rfl (by decide) rfl 5 (by decide) (hts (.fieldLink RX5 42 "LoafParts" "makeup" "LLoafParts$Makeup;") (by decide +kernel)) (v := .ref (aD g 52)) rfl dX5_writes_125 ?_
        refine r_getN hx hb hts hown hC hP hinX1 52 (by decide) (ci := 0) rfl (by decide) rfl 3 (by decide) 10 rfl (v := .int (ui u 52 3)) rfl dX5_writes_128 ?_
        obtain ⟨rfl, rfl⟩ := sp2 hf
        exact kret _ _ _ _ dX5_writes_131 hP hS trivial
      rw [if_neg c_10] at hf
      refine lv_aload_n hx hb dX5_writes_89 rfl (lv_at hl 0 rfl) ?_
      refine r_get hx hb hts hown hC hP hinX5 0 (by decide) (ci := 4) rfl (by decide) rfl 5 (by decide) (hts (.fieldLink RX5 42 "LoafParts" "makeup" "LLoafParts$Makeup;") (by decide +kernel)) (v := .ref (aD g 52)) rfl dX5_writes_90 ?_
      refine r_getN hx hb hts hown hC hP hinX1 52 (by decide) (ci := 0) rfl (by decide) rfl 4 (by decide) 11 rfl (v := .int (ui u 52 4)) rfl dX5_writes_93 ?_
      refine lv_iload hx hb dX5_writes_96 (lv_at hl 3 rfl) ?_
      refine r_Si (As := [.int (ui u 52 4), .int x4]) (rest := []) ⟨hx, hb, hml, hown, hts⟩ hC hP hS (c_X5_holds l g u (ui u 52 4) x4 rfl) (va_cwS 2 hts gX5_writes_X5_holds rfl rfl rfl (by decide +kernel) ⟨(Nat.le_trans (Nat.le_of_ble_eq_true rfl) hRf), (Nat.le_trans (Nat.le_of_ble_eq_true rfl) hRl)⟩) rfl hl.1 rfl (Nat.le_of_ble_eq_true rfl) dX5_writes_98 (fun H locs hP hS => ?_)
      refine lv_if_eq (tgt := 118) hx hb dX5_writes_101 (by decide) (fun c_11 => ?_) (fun c_11 => ?_)
      · rw [if_pos c_11] at hf
        exact w_118 (f_X5_writes_82 n) ih x2 x3 x4 u _ _ _ hP hS (lv_sub hl [0, 1, 2, 3] rfl) hf
      rw [if_neg c_11] at hf
      refine lv_aload_n hx hb dX5_writes_104 rfl (lv_at hl 0 rfl) ?_
      refine r_get hx hb hts hown hC hP hinX5 0 (by decide) (ci := 4) rfl (by decide) rfl 0 (by decide) (hts (.fieldLink RX5 14 "LoafParts" "rows" "LLoafParts$Shelf;") (by decide +kernel)) (v := .ref (aD g 1)) rfl dX5_writes_105 ?_
      refine lv_iload_n hx hb dX5_writes_108 rfl (lv_at hl 1 rfl) ?_
      refine lv_iload_n hx hb dX5_writes_109 rfl (lv_at hl 2 rfl) ?_
      refine lv_iload hx hb dX5_writes_110 (lv_at hl 3 rfl) ?_
      obtain ⟨q_13, hq_13, hf⟩ := bind_ex hf
      refine r_Vv (As := [.int x2, .int x3, .int x4]) (rest := []) (k := 1) (ci := 2) ⟨hx, hb, hml, hown, hts⟩ hC hP hS (by decide) rfl (by decide) rfl (c_X3_write l g 1 6 shf_rows u x2 x3 x4 hq_13) (cwV 3 hts gX5_writes_X3_write rfl rfl rfl (by decide +kernel) ⟨(Nat.le_trans (Nat.le_of_ble_eq_true rfl) hRf), (Nat.le_trans (Nat.le_of_ble_eq_true rfl) hRl)⟩) rfl hl.1 rfl (Nat.le_of_ble_eq_true rfl) dX5_writes_112 (fun H locs hP hS => ?_)
      obtain ⟨x3_14, ex3_14, hf⟩ := lt_ex hf
      refine lv_iinc (v := x3_14) (lv' := [(3, .int x3_14), (0, .ref (aD g 0)), (2, .int x2), (4, .int x4)]) hx hb dX5_writes_115 hl (k := 2) rfl (by rw [ex3_14]; rfl) (by decide) rfl (fun ls hl => ?_)
      exact w_118 (f_X5_writes_82 n) ih x2 x3_14 x4 q_13 _ _ _ hP hS (lv_sub hl [1, 2, 0, 3] rfl) hf
  unfold f_X5_writes at hf
  refine lv_aload_n hx hb dX5_writes_0 rfl (lv_at hl 0 rfl) ?_
  refine r_get hx hb hts hown hC hP hinX5 0 (by decide) (ci := 4) rfl (by decide) rfl 3 (by decide) (hts (.fieldLink RX5 31 "LoafParts" "table" "LLoafParts$Table;") (by decide +kernel)) (v := .ref (aD g 11)) rfl dX5_writes_1 ?_
  refine lv_iload_n hx hb dX5_writes_4 rfl (lv_at hl 1 rfl) ?_
  obtain ⟨q_1, hq_1, hf⟩ := bind_ex hf
  refine r_Vi (As := [.int x1]) (rest := []) (k := 11) (ci := 3) ⟨hx, hb, hml, hown, hts⟩ hC hP hS (by decide) rfl (by decide) rfl (c_X4_isWorker l g u x1 hq_1) (cwV 1 hts gX5_writes_X4_isWorker rfl rfl rfl (by decide +kernel) ⟨(Nat.le_trans (Nat.le_of_ble_eq_true rfl) hRf), (Nat.le_trans (Nat.le_of_ble_eq_true rfl) hRl)⟩) rfl hl.1 rfl (Nat.le_of_ble_eq_true rfl) dX5_writes_5 (fun H locs hP hS => ?_)
  refine lv_if_eq (tgt := 22) hx hb dX5_writes_8 (by decide) (fun c_2 => ?_) (fun c_2 => ?_)
  · rw [if_pos c_2] at hf
    refine lv_iconst (v := (-1 : Int32)) hx hb dX5_writes_22 (by decide) ?_
    obtain ⟨rfl, rfl⟩ := sp2 hf
    exact kret _ _ _ _ dX5_writes_23 hP hS trivial
  rw [if_neg c_2] at hf
  refine lv_aload_n hx hb dX5_writes_11 rfl (lv_at hl 0 rfl) ?_
  refine r_get hx hb hts hown hC hP hinX5 0 (by decide) (ci := 4) rfl (by decide) rfl 0 (by decide) (hts (.fieldLink RX5 14 "LoafParts" "rows" "LLoafParts$Shelf;") (by decide +kernel)) (v := .ref (aD g 1)) rfl dX5_writes_12 ?_
  refine lv_iload_n hx hb dX5_writes_15 rfl (lv_at hl 2 rfl) ?_
  obtain ⟨q_3, hq_3, hf⟩ := bind_ex hf
  refine r_Vi (As := [.int x2]) (rest := []) (k := 1) (ci := 2) ⟨hx, hb, hml, hown, hts⟩ hC hP hS (by decide) rfl (by decide) rfl (c_X3_isNumber l g 1 6 shf_rows u x2 hq_3) (cwV 1 hts gX5_writes_X3_isNumber rfl rfl rfl (by decide +kernel) ⟨(Nat.le_trans (Nat.le_of_ble_eq_true rfl) hRf), (Nat.le_trans (Nat.le_of_ble_eq_true rfl) hRl)⟩) rfl hl.1 rfl (Nat.le_of_ble_eq_true rfl) dX5_writes_16 (fun H locs hP hS => ?_)
  refine lv_if_ne (tgt := 24) hx hb dX5_writes_19 (by decide) (fun c_4 => ?_) (fun c_4 => ?_)
  · rw [if_neg c_4] at hf
    refine lv_aload_n hx hb dX5_writes_24 rfl (lv_at hl 0 rfl) ?_
    refine r_get hx hb hts hown hC hP hinX5 0 (by decide) (ci := 4) rfl (by decide) rfl 5 (by decide) (hts (.fieldLink RX5 42 "LoafParts" "makeup" "LLoafParts$Makeup;") (by decide +kernel)) (v := .ref (aD g 52)) rfl dX5_writes_25 ?_
    refine lv_aload_n hx hb dX5_writes_28 rfl (lv_at hl 0 rfl) ?_
    refine r_get hx hb hts hown hC hP hinX5 0 (by decide) (ci := 4) rfl (by decide) rfl 3 (by decide) (hts (.fieldLink RX5 31 "LoafParts" "table" "LLoafParts$Table;") (by decide +kernel)) (v := .ref (aD g 11)) rfl dX5_writes_29 ?_
    refine r_getN hx hb hts hown hC hP hinX4 11 (by decide) (ci := 3) rfl (by decide) rfl 9 (by decide) 7 rfl (v := .ref (aD g 17)) rfl dX5_writes_32 ?_
    refine lv_iload_n hx hb dX5_writes_35 rfl (lv_at hl 1 rfl) ?_
    obtain ⟨hi_5, hf⟩ := ix_ex hf
    refine r_ald hx hb hC hP 17 (by decide) rfl hi_5 dX5_writes_36 ?_
    refine lv_aload_n hx hb dX5_writes_37 rfl (lv_at hl 0 rfl) ?_
    refine r_get hx hb hts hown hC hP hinX5 0 (by decide) (ci := 4) rfl (by decide) rfl 3 (by decide) (hts (.fieldLink RX5 31 "LoafParts" "table" "LLoafParts$Table;") (by decide +kernel)) (v := .ref (aD g 11)) rfl dX5_writes_38 ?_
    refine lv_iload_n hx hb dX5_writes_41 rfl (lv_at hl 1 rfl) ?_
    obtain ⟨q_6, hq_6, hf⟩ := bind_ex hf
    refine r_Vi (As := [.int x1]) (rest := [.int (ui u 17 (x1 : Int32).toNatClampNeg), .ref (aD g 52)]) (k := 11) (ci := 3) ⟨hx, hb, hml, hown, hts⟩ hC hP hS (by decide) rfl (by decide) rfl (c_X4_openTo l g u x1 hq_6) (cwV 1 hts gX5_writes_X4_openTo rfl rfl rfl (by decide +kernel) ⟨(Nat.le_trans (Nat.le_of_ble_eq_true rfl) hRf), (Nat.le_trans (Nat.le_of_ble_eq_true rfl) hRl)⟩) rfl hl.1 rfl (Nat.le_of_ble_eq_true rfl) dX5_writes_42 (fun H locs hP hS => ?_)
    obtain ⟨q_7, hq_7, hf⟩ := bind_ex hf
    refine r_Vv (As := [.int (ui u 17 (x1 : Int32).toNatClampNeg), .int q_6]) (rest := []) (k := 52) (ci := 0) ⟨hx, hb, hml, hown, hts⟩ hC hP hS (by decide) rfl (by decide) rfl (c_X1_lookFor l g u (ui u 17 (x1 : Int32).toNatClampNeg) q_6 hq_7) (cwV 2 hts gX5_writes_X1_lookFor rfl rfl rfl (by decide +kernel) ⟨(Nat.le_trans (Nat.le_of_ble_eq_true rfl) hRf), (Nat.le_trans (Nat.le_of_ble_eq_true rfl) hRl)⟩) rfl hl.1 rfl (Nat.le_of_ble_eq_true rfl) dX5_writes_45 (fun H locs hP hS => ?_)
    refine lv_aload_n hx hb dX5_writes_48 rfl (lv_at hl 0 rfl) ?_
    refine r_get hx hb hts hown hC hP hinX5 0 (by decide) (ci := 4) rfl (by decide) rfl 5 (by decide) (hts (.fieldLink RX5 42 "LoafParts" "makeup" "LLoafParts$Makeup;") (by decide +kernel)) (v := .ref (aD g 52)) rfl dX5_writes_49 ?_
    refine r_getN hx hb hts hown hC hP hinX1 52 (by decide) (ci := 0) rfl (by decide) rfl 1 (by decide) 8 rfl (v := .int (ui q_7 52 1)) rfl dX5_writes_52 ?_
    refine lv_if_ne (tgt := 61) hx hb dX5_writes_55 (by decide) (fun c_8 => ?_) (fun c_8 => ?_)
    · rw [if_neg c_8] at hf
      refine lv_aload_n hx hb dX5_writes_61 rfl (lv_at hl 0 rfl) ?_
      refine r_get hx hb hts hown hC hP hinX5 0 (by decide) (ci := 4) rfl (by decide) rfl 0 (by decide) (hts (.fieldLink RX5 14 "LoafParts" "rows" "LLoafParts$Shelf;") (by decide +kernel)) (v := .ref (aD g 1)) rfl dX5_writes_62 ?_
      refine lv_iload_n hx hb dX5_writes_65 rfl (lv_at hl 2 rfl) ?_
      refine lv_aload_n hx hb dX5_writes_66 rfl (lv_at hl 0 rfl) ?_
      refine r_get hx hb hts hown hC hP hinX5 0 (by decide) (ci := 4) rfl (by decide) rfl 5 (by decide) (hts (.fieldLink RX5 42 "LoafParts" "makeup" "LLoafParts$Makeup;") (by decide +kernel)) (v := .ref (aD g 52)) rfl dX5_writes_67 ?_
      refine r_getN hx hb hts hown hC hP hinX1 52 (by decide) (ci := 0) rfl (by decide) rfl 3 (by decide) 10 rfl (v := .int (ui q_7 52 3)) rfl dX5_writes_70 ?_
      refine lv_iconst (v := (0 : Int32)) hx hb dX5_writes_73 (by decide) ?_
      obtain ⟨q_9, hq_9, hf⟩ := bind_ex hf
      refine r_Vv (As := [.int x2, .int (ui q_7 52 3), .int (0 : Int32)]) (rest := []) (k := 1) (ci := 2) ⟨hx, hb, hml, hown, hts⟩ hC hP hS (by decide) rfl (by decide) rfl (c_X3_make l g 1 6 shf_rows q_7 x2 (ui q_7 52 3) (0 : Int32) hq_9) (cwV 3 hts gX5_writes_X3_make rfl rfl rfl (by decide +kernel) ⟨(Nat.le_trans (Nat.le_of_ble_eq_true rfl) hRf), (Nat.le_trans (Nat.le_of_ble_eq_true rfl) hRl)⟩) rfl hl.1 rfl (Nat.le_of_ble_eq_true rfl) dX5_writes_74 (fun H locs hP hS => ?_)
      refine lv_iconst (v := (0 : Int32)) hx hb dX5_writes_77 (by decide) ?_
      refine lv_istore_n (lv' := [(3, .int (0 : Int32)), (0, .ref (aD g 0)), (1, .int x1), (2, .int x2)]) hx hb dX5_writes_78 rfl hl (by decide) rfl (fun ls hl => ?_)
      refine lv_iconst (v := (2 : Int32)) hx hb dX5_writes_79 (by decide) ?_
      refine lv_istore (lv' := [(4, .int (2 : Int32)), (3, .int (0 : Int32)), (0, .ref (aD g 0)), (1, .int x1), (2, .int x2)]) hx hb dX5_writes_80 hl (by decide) rfl (fun ls hl => ?_)
      exact w_82 fu x2 (0 : Int32) (2 : Int32) q_9 _ _ _ hP hS (lv_sub hl [2, 4, 1, 0] rfl) hf
    rw [if_pos c_8] at hf
    refine lv_bipush (v := (-9 : Int32)) hx hb dX5_writes_58 (by decide) ?_
    obtain ⟨rfl, rfl⟩ := sp2 hf
    exact kret _ _ _ _ dX5_writes_60 hP hS trivial
  rw [if_pos c_4] at hf
  refine lv_iconst (v := (-1 : Int32)) hx hb dX5_writes_22 (by decide) ?_
  obtain ⟨rfl, rfl⟩ := sp2 hf
  exact kret _ _ _ _ dX5_writes_23 hP hS trivial
set_option maxHeartbeats 4000000 in
set_option maxRecDepth 100000 in
theorem c_X5_greedy (l : Launch) (g : GG) (u : UU) (x1 : Int32) {r : Int32} {u' : UU} (hf : f_X5_greedy x1 u = some (r, u')) : Ci l g 0 55 yX5_greedy wsX5_greedy 2 41 [.ref (aD g 0), .int x1] u r u' := by
  refine ct_i (cc := cX5_greedy) (maxL := 7) (by decide) rfl (Nat.le_of_ble_eq_true rfl) ?_
  intro p e s m args below meth c R Q ls hx hb hml hown hts hC hP hl hRf hRl kret hS
  have hown : s.vm.findClass RX5 = some m.cls := hown
  have hl : lv_has ls 7 [(0, .ref (aD g 0)), (1, .int x1)] := hl
  have hinX4 : ∀ w ∈ u_ws RX4 TX4 13, w ∈ wsX5_greedy := by decide +kernel
  have hinX5 : ∀ w ∈ u_ws RX5 TX5 12, w ∈ wsX5_greedy := by decide +kernel
  have w_81 : ∀ (k_41 : Int32 → Int32 → Int32 → Int32 → Int32 → UU → Option (Int32 × UU)) (K_41 : ∀ (x2 : Int32) (x3 : Int32) (x4 : Int32) (x5 : Int32) (x6 : Int32) (u : UU) (H : Heap) (locs : List Loc) (ls : Array Slot), Ps g 0 55 u H → va_S (aA g) s.heap H locs → lv_has ls 7 [(0, .ref (aD g 0)), (2, .int x2), (3, .int x3), (4, .int x4), (5, .int x5), (6, .int x6)] → k_41 x2 x3 x4 x5 x6 u = some (r, u') → W p l e R s m args below meth c H locs 0 0 Q (F0 m 41 ls [])), ∀ (x2 : Int32) (x3 : Int32) (x4 : Int32) (x5 : Int32) (x6 : Int32) (u : UU) (H : Heap) (locs : List Loc) (ls : Array Slot), Ps g 0 55 u H → va_S (aA g) s.heap H locs → lv_has ls 7 [(0, .ref (aD g 0)), (2, .int x2), (3, .int x3), (4, .int x4), (5, .int x5), (6, .int x6)] → f_X5_greedy_81 k_41 x2 x3 x4 x5 x6 u = some (r, u') → W p l e R s m args below meth c H locs 0 0 Q (F0 m 81 ls []) := by
    intro k_41 K_41
    intro x2 x3 x4 x5 x6 u H locs ls hP hS hl hf
    unfold f_X5_greedy_81 at hf
    obtain ⟨x6_10, ex6_10, hf⟩ := lt_ex hf
    refine lv_iinc (v := x6_10) (lv' := [(6, .int x6_10), (0, .ref (aD g 0)), (2, .int x2), (3, .int x3), (4, .int x4), (5, .int x5)]) hx hb dX5_greedy_81 hl (k := 5) rfl (by rw [ex6_10]; rfl) (by decide) rfl (fun ls hl => ?_)
    refine lv_goto (tgt := 41) hx hb dX5_greedy_84 (by decide) ?_
    exact K_41 x2 x3 x4 x5 x6_10 u _ _ _ hP hS (lv_sub hl [1, 2, 3, 4, 5, 0] rfl) hf
  have w_41 : ∀ (n : Nat), ∀ (x2 : Int32) (x3 : Int32) (x4 : Int32) (x5 : Int32) (x6 : Int32) (u : UU) (H : Heap) (locs : List Loc) (ls : Array Slot), Ps g 0 55 u H → va_S (aA g) s.heap H locs → lv_has ls 7 [(0, .ref (aD g 0)), (2, .int x2), (3, .int x3), (4, .int x4), (5, .int x5), (6, .int x6)] → f_X5_greedy_41 n x2 x3 x4 x5 x6 u = some (r, u') → W p l e R s m args below meth c H locs 0 0 Q (F0 m 41 ls []) := by
    intro n
    induction n with
    | zero =>
      intro x2 x3 x4 x5 x6 u H locs ls hP hS hl hf
      rw [f_X5_greedy_41] at hf
      cases hf
    | succ n ih =>
      intro x2 x3 x4 x5 x6 u H locs ls hP hS hl hf
      rw [f_X5_greedy_41] at hf
      refine lv_iload hx hb dX5_greedy_41 (lv_at hl 5 rfl) ?_
      refine lv_bipush (v := (16 : Int32)) hx hb dX5_greedy_43 (by decide) ?_
      refine lv_icmp_gt (tgt := 87) hx hb dX5_greedy_45 (by decide) (fun c_6 => ?_) (fun c_6 => ?_)
      · rw [if_pos c_6] at hf
        refine lv_iload_n hx hb dX5_greedy_87 rfl (lv_at hl 2 rfl) ?_
        refine lv_if_eq (tgt := 94) hx hb dX5_greedy_88 (by decide) (fun c_7 => ?_) (fun c_7 => ?_)
        · rw [if_pos c_7] at hf
          refine lv_aload_n hx hb dX5_greedy_94 rfl (lv_at hl 0 rfl) ?_
          refine lv_iload hx hb dX5_greedy_95 (lv_at hl 4 rfl) ?_
          obtain ⟨u_8, eu_8, hf⟩ := lt_ex hf
          refine r_puti hx hb hts hown hC hP hS hinX5 tyX5 tyX5_ok nmX5 0 (by decide) (ci := 4) rfl (by decide) rfl 9 (by decide) (hts (.fieldLink RX5 77 "LoafParts" "told" "I") (by decide +kernel)) rfl (ty := .int) (by decide +kernel) rfl rfl (by decide) (by decide) eu_8 dX5_greedy_97 (fun H locs hP hS => ?_)
          refine lv_iload hx hb dX5_greedy_100 (lv_at hl 3 rfl) ?_
          obtain ⟨rfl, rfl⟩ := sp2 hf
          exact kret _ _ _ _ dX5_greedy_102 hP hS trivial
        rw [if_neg c_7] at hf
        refine lv_bipush (v := (-9 : Int32)) hx hb dX5_greedy_91 (by decide) ?_
        obtain ⟨rfl, rfl⟩ := sp2 hf
        exact kret _ _ _ _ dX5_greedy_93 hP hS trivial
      rw [if_neg c_6] at hf
      refine lv_iload_n hx hb dX5_greedy_48 rfl (lv_at hl 1 rfl) ?_
      refine lv_iload hx hb dX5_greedy_49 (lv_at hl 5 rfl) ?_
      refine r_Si (As := [.int x2, .int x6]) (rest := []) ⟨hx, hb, hml, hown, hts⟩ hC hP hS (c_X5_holds l g u x2 x6 rfl) (va_cwS 2 hts gX5_greedy_X5_holds rfl rfl rfl (by decide +kernel) ⟨(Nat.le_trans (Nat.le_of_ble_eq_true rfl) hRf), (Nat.le_trans (Nat.le_of_ble_eq_true rfl) hRl)⟩) rfl hl.1 rfl (Nat.le_of_ble_eq_true rfl) dX5_greedy_51 (fun H locs hP hS => ?_)
      refine lv_if_eq (tgt := 81) hx hb dX5_greedy_54 (by decide) (fun c_9 => ?_) (fun c_9 => ?_)
      · rw [if_pos c_9] at hf
        exact w_81 (f_X5_greedy_41 n) ih x2 x3 x4 x5 x6 u _ _ _ hP hS (lv_sub hl [0, 1, 2, 3, 4, 5] rfl) hf
      rw [if_neg c_9] at hf
      refine lv_ldc (v := (720720 : Int32)) hx hb hown (hts (.constant RX5 227 (720720)) (by decide +kernel)) dX5_greedy_57 ?_
      refine lv_iload hx hb dX5_greedy_59 (lv_at hl 5 rfl) ?_
      obtain ⟨hz_11, hf⟩ := nz_ex hf
      refine lv_idiv hx hb dX5_greedy_61 hz_11 ?_
      refine lv_iload_n hx hb dX5_greedy_62 rfl (lv_at hl 2 rfl) ?_
      refine lv_icmp_gt (tgt := 81) hx hb dX5_greedy_63 (by decide) (fun c_12 => ?_) (fun c_12 => ?_)
      · rw [if_pos c_12] at hf
        exact w_81 (f_X5_greedy_41 n) ih x2 x3 x4 x5 x6 u _ _ _ hP hS (lv_sub hl [0, 1, 2, 3, 4, 5] rfl) hf
      rw [if_neg c_12] at hf
      refine lv_iload_n hx hb dX5_greedy_66 rfl (lv_at hl 2 rfl) ?_
      refine lv_ldc (v := (720720 : Int32)) hx hb hown (hts (.constant RX5 227 (720720)) (by decide +kernel)) dX5_greedy_67 ?_
      refine lv_iload hx hb dX5_greedy_69 (lv_at hl 5 rfl) ?_
      obtain ⟨hz_13, hf⟩ := nz_ex hf
      refine lv_idiv hx hb dX5_greedy_71 hz_13 ?_
      refine lv_isub hx hb dX5_greedy_72 ?_
      obtain ⟨x3_14, ex3_14, hf⟩ := lt_ex hf
      refine r_nm ex3_14 ?_
      refine lv_istore_n (lv' := [(3, .int x3_14), (0, .ref (aD g 0)), (2, .int x2), (4, .int x4), (5, .int x5), (6, .int x6)]) hx hb dX5_greedy_73 rfl hl (by decide) rfl (fun ls hl => ?_)
      obtain ⟨x4_15, ex4_15, hf⟩ := lt_ex hf
      refine lv_iinc (v := x4_15) (lv' := [(4, .int x4_15), (3, .int x3_14), (0, .ref (aD g 0)), (2, .int x2), (5, .int x5), (6, .int x6)]) hx hb dX5_greedy_74 hl (k := 3) rfl (by rw [ex4_15]; rfl) (by decide) rfl (fun ls hl => ?_)
      refine lv_iload hx hb dX5_greedy_77 (lv_at hl 5 rfl) ?_
      refine lv_istore (lv' := [(5, .int x6), (4, .int x4_15), (3, .int x3_14), (0, .ref (aD g 0)), (2, .int x2), (6, .int x6)]) hx hb dX5_greedy_79 hl (by decide) rfl (fun ls hl => ?_)
      exact w_81 (f_X5_greedy_41 n) ih x2 x3_14 x4_15 x6 x6 u _ _ _ hP hS (lv_sub hl [3, 4, 2, 1, 0, 5] rfl) hf
  unfold f_X5_greedy at hf
  refine lv_aload_n hx hb dX5_greedy_0 rfl (lv_at hl 0 rfl) ?_
  refine r_get hx hb hts hown hC hP hinX5 0 (by decide) (ci := 4) rfl (by decide) rfl 3 (by decide) (hts (.fieldLink RX5 31 "LoafParts" "table" "LLoafParts$Table;") (by decide +kernel)) (v := .ref (aD g 11)) rfl dX5_greedy_1 ?_
  refine lv_iload_n hx hb dX5_greedy_4 rfl (lv_at hl 1 rfl) ?_
  obtain ⟨q_1, hq_1, hf⟩ := bind_ex hf
  refine r_Vi (As := [.int x1]) (rest := []) (k := 11) (ci := 3) ⟨hx, hb, hml, hown, hts⟩ hC hP hS (by decide) rfl (by decide) rfl (c_X4_isWorker l g u x1 hq_1) (cwV 1 hts gX5_greedy_X4_isWorker rfl rfl rfl (by decide +kernel) ⟨(Nat.le_trans (Nat.le_of_ble_eq_true rfl) hRf), (Nat.le_trans (Nat.le_of_ble_eq_true rfl) hRl)⟩) rfl hl.1 rfl (Nat.le_of_ble_eq_true rfl) dX5_greedy_5 (fun H locs hP hS => ?_)
  refine lv_if_ne (tgt := 13) hx hb dX5_greedy_8 (by decide) (fun c_2 => ?_) (fun c_2 => ?_)
  · rw [if_neg c_2] at hf
    refine lv_aload_n hx hb dX5_greedy_13 rfl (lv_at hl 0 rfl) ?_
    refine r_get hx hb hts hown hC hP hinX5 0 (by decide) (ci := 4) rfl (by decide) rfl 3 (by decide) (hts (.fieldLink RX5 31 "LoafParts" "table" "LLoafParts$Table;") (by decide +kernel)) (v := .ref (aD g 11)) rfl dX5_greedy_14 ?_
    refine lv_iload_n hx hb dX5_greedy_17 rfl (lv_at hl 1 rfl) ?_
    obtain ⟨q_3, hq_3, hf⟩ := bind_ex hf
    refine r_Vi (As := [.int x1]) (rest := []) (k := 11) (ci := 3) ⟨hx, hb, hml, hown, hts⟩ hC hP hS (by decide) rfl (by decide) rfl (c_X4_openTo l g u x1 hq_3) (cwV 1 hts gX5_greedy_X4_openTo rfl rfl rfl (by decide +kernel) ⟨(Nat.le_trans (Nat.le_of_ble_eq_true rfl) hRf), (Nat.le_trans (Nat.le_of_ble_eq_true rfl) hRl)⟩) rfl hl.1 rfl (Nat.le_of_ble_eq_true rfl) dX5_greedy_18 (fun H locs hP hS => ?_)
    refine lv_istore_n (lv' := [(2, .int q_3), (0, .ref (aD g 0)), (1, .int x1)]) hx hb dX5_greedy_21 rfl hl (by decide) rfl (fun ls hl => ?_)
    refine lv_aload_n hx hb dX5_greedy_22 rfl (lv_at hl 1 rfl) ?_
    refine r_get hx hb hts hown hC hP hinX5 0 (by decide) (ci := 4) rfl (by decide) rfl 3 (by decide) (hts (.fieldLink RX5 31 "LoafParts" "table" "LLoafParts$Table;") (by decide +kernel)) (v := .ref (aD g 11)) rfl dX5_greedy_23 ?_
    refine r_getN hx hb hts hown hC hP hinX4 11 (by decide) (ci := 3) rfl (by decide) rfl 9 (by decide) 7 rfl (v := .ref (aD g 17)) rfl dX5_greedy_26 ?_
    refine lv_iload_n hx hb dX5_greedy_29 rfl (lv_at hl 2 rfl) ?_
    obtain ⟨hi_4, hf⟩ := ix_ex hf
    refine r_ald hx hb hC hP 17 (by decide) rfl hi_4 dX5_greedy_30 ?_
    obtain ⟨x3_5, ex3_5, hf⟩ := lt_ex hf
    refine r_nm ex3_5 ?_
    refine lv_istore_n (lv' := [(3, .int x3_5), (2, .int q_3), (0, .ref (aD g 0)), (1, .int x1)]) hx hb dX5_greedy_31 rfl hl (by decide) rfl (fun ls hl => ?_)
    refine lv_iconst (v := (0 : Int32)) hx hb dX5_greedy_32 (by decide) ?_
    refine lv_istore (lv' := [(4, .int (0 : Int32)), (3, .int x3_5), (2, .int q_3), (0, .ref (aD g 0)), (1, .int x1)]) hx hb dX5_greedy_33 hl (by decide) rfl (fun ls hl => ?_)
    refine lv_iconst (v := (0 : Int32)) hx hb dX5_greedy_35 (by decide) ?_
    refine lv_istore (lv' := [(5, .int (0 : Int32)), (4, .int (0 : Int32)), (3, .int x3_5), (2, .int q_3), (0, .ref (aD g 0)), (1, .int x1)]) hx hb dX5_greedy_36 hl (by decide) rfl (fun ls hl => ?_)
    refine lv_iconst (v := (2 : Int32)) hx hb dX5_greedy_38 (by decide) ?_
    refine lv_istore (lv' := [(6, .int (2 : Int32)), (5, .int (0 : Int32)), (4, .int (0 : Int32)), (3, .int x3_5), (2, .int q_3), (0, .ref (aD g 0)), (1, .int x1)]) hx hb dX5_greedy_39 hl (by decide) rfl (fun ls hl => ?_)
    exact w_41 fu q_3 x3_5 (0 : Int32) (0 : Int32) (2 : Int32) u _ _ _ hP hS (lv_sub hl [5, 4, 3, 2, 1, 0] rfl) hf
  rw [if_pos c_2] at hf
  refine lv_iconst (v := (-1 : Int32)) hx hb dX5_greedy_11 (by decide) ?_
  obtain ⟨rfl, rfl⟩ := sp2 hf
  exact kret _ _ _ _ dX5_greedy_12 hP hS trivial
set_option maxHeartbeats 4000000 in
set_option maxRecDepth 100000 in
theorem c_X5_serve (l : Launch) (g : GG) (u : UU) (x1 : Int32) {r : Int32} {u' : UU} (hf : f_X5_serve x1 u = some (r, u')) : Ci l g 0 55 yX5_serve wsX5_serve 24 590 [.ref (aD g 0), .int x1] u r u' := by
  refine ct_i (cc := cX5_serve) (maxL := 2) (by decide) rfl (Nat.le_of_ble_eq_true rfl) ?_
  intro p e s m args below meth c R Q ls hx hb hml hown hts hC hP hl hRf hRl kret hS
  have hown : s.vm.findClass RX5 = some m.cls := hown
  have hl : lv_has ls 2 [(0, .ref (aD g 0)), (1, .int x1)] := hl
  have hinX1 : ∀ w ∈ u_ws RX1 TX1 5, w ∈ wsX5_serve := by decide +kernel
  have hinX4 : ∀ w ∈ u_ws RX4 TX4 13, w ∈ wsX5_serve := by decide +kernel
  have hinX5 : ∀ w ∈ u_ws RX5 TX5 12, w ∈ wsX5_serve := by decide +kernel
  unfold f_X5_serve at hf
  refine lv_aload_n hx hb dX5_serve_0 rfl (lv_at hl 0 rfl) ?_
  refine r_get hx hb hts hown hC hP hinX5 0 (by decide) (ci := 4) rfl (by decide) rfl 3 (by decide) (hts (.fieldLink RX5 31 "LoafParts" "table" "LLoafParts$Table;") (by decide +kernel)) (v := .ref (aD g 11)) rfl dX5_serve_1 ?_
  refine lv_iload_n hx hb dX5_serve_4 rfl (lv_at hl 1 rfl) ?_
  obtain ⟨q_1, hq_1, hf⟩ := bind_ex hf
  refine r_Vi (As := [.int x1]) (rest := []) (k := 11) (ci := 3) ⟨hx, hb, hml, hown, hts⟩ hC hP hS (by decide) rfl (by decide) rfl (c_X4_isWorker l g u x1 hq_1) (cwV 1 hts gX5_serve_X4_isWorker rfl rfl rfl (by decide +kernel) ⟨(Nat.le_trans (Nat.le_of_ble_eq_true rfl) hRf), (Nat.le_trans (Nat.le_of_ble_eq_true rfl) hRl)⟩) rfl hl.1 rfl (Nat.le_of_ble_eq_true rfl) dX5_serve_5 (fun H locs hP hS => ?_)
  refine lv_if_ne (tgt := 13) hx hb dX5_serve_8 (by decide) (fun c_2 => ?_) (fun c_2 => ?_)
  · rw [if_neg c_2] at hf
    refine lv_aload_n hx hb dX5_serve_13 rfl (lv_at hl 0 rfl) ?_
    refine r_get hx hb hts hown hC hP hinX5 0 (by decide) (ci := 4) rfl (by decide) rfl 5 (by decide) (hts (.fieldLink RX5 42 "LoafParts" "makeup" "LLoafParts$Makeup;") (by decide +kernel)) (v := .ref (aD g 52)) rfl dX5_serve_14 ?_
    refine lv_aload_n hx hb dX5_serve_17 rfl (lv_at hl 0 rfl) ?_
    refine r_get hx hb hts hown hC hP hinX5 0 (by decide) (ci := 4) rfl (by decide) rfl 3 (by decide) (hts (.fieldLink RX5 31 "LoafParts" "table" "LLoafParts$Table;") (by decide +kernel)) (v := .ref (aD g 11)) rfl dX5_serve_18 ?_
    refine r_getN hx hb hts hown hC hP hinX4 11 (by decide) (ci := 3) rfl (by decide) rfl 9 (by decide) 7 rfl (v := .ref (aD g 17)) rfl dX5_serve_21 ?_
    refine lv_iload_n hx hb dX5_serve_24 rfl (lv_at hl 1 rfl) ?_
    obtain ⟨hi_3, hf⟩ := ix_ex hf
    refine r_ald hx hb hC hP 17 (by decide) rfl hi_3 dX5_serve_25 ?_
    refine lv_aload_n hx hb dX5_serve_26 rfl (lv_at hl 0 rfl) ?_
    refine r_get hx hb hts hown hC hP hinX5 0 (by decide) (ci := 4) rfl (by decide) rfl 3 (by decide) (hts (.fieldLink RX5 31 "LoafParts" "table" "LLoafParts$Table;") (by decide +kernel)) (v := .ref (aD g 11)) rfl dX5_serve_27 ?_
    refine lv_iload_n hx hb dX5_serve_30 rfl (lv_at hl 1 rfl) ?_
    obtain ⟨q_4, hq_4, hf⟩ := bind_ex hf
    refine r_Vi (As := [.int x1]) (rest := [.int (ui u 17 (x1 : Int32).toNatClampNeg), .ref (aD g 52)]) (k := 11) (ci := 3) ⟨hx, hb, hml, hown, hts⟩ hC hP hS (by decide) rfl (by decide) rfl (c_X4_openTo l g u x1 hq_4) (cwV 1 hts gX5_serve_X4_openTo rfl rfl rfl (by decide +kernel) ⟨(Nat.le_trans (Nat.le_of_ble_eq_true rfl) hRf), (Nat.le_trans (Nat.le_of_ble_eq_true rfl) hRl)⟩) rfl hl.1 rfl (Nat.le_of_ble_eq_true rfl) dX5_serve_31 (fun H locs hP hS => ?_)
    refine lv_aload_n hx hb dX5_serve_34 rfl (lv_at hl 0 rfl) ?_
    refine r_get hx hb hts hown hC hP hinX5 0 (by decide) (ci := 4) rfl (by decide) rfl 3 (by decide) (hts (.fieldLink RX5 31 "LoafParts" "table" "LLoafParts$Table;") (by decide +kernel)) (v := .ref (aD g 11)) rfl dX5_serve_35 ?_
    refine r_getN hx hb hts hown hC hP hinX4 11 (by decide) (ci := 3) rfl (by decide) rfl 4 (by decide) 2 rfl (v := .int (ui u 11 4)) rfl dX5_serve_38 ?_
    refine lv_iand hx hb dX5_serve_41 ?_
    obtain ⟨q_5, hq_5, hf⟩ := bind_ex hf
    refine r_Vv (As := [.int (ui u 17 (x1 : Int32).toNatClampNeg), .int (q_4 &&& (ui u 11 4))]) (rest := []) (k := 52) (ci := 0) ⟨hx, hb, hml, hown, hts⟩ hC hP hS (by decide) rfl (by decide) rfl (c_X1_lookFor l g u (ui u 17 (x1 : Int32).toNatClampNeg) (q_4 &&& (ui u 11 4)) hq_5) (cwV 2 hts gX5_serve_X1_lookFor rfl rfl rfl (by decide +kernel) ⟨(Nat.le_trans (Nat.le_of_ble_eq_true rfl) hRf), (Nat.le_trans (Nat.le_of_ble_eq_true rfl) hRl)⟩) rfl hl.1 rfl (Nat.le_of_ble_eq_true rfl) dX5_serve_42 (fun H locs hP hS => ?_)
    refine lv_aload_n hx hb dX5_serve_45 rfl (lv_at hl 0 rfl) ?_
    refine r_get hx hb hts hown hC hP hinX5 0 (by decide) (ci := 4) rfl (by decide) rfl 5 (by decide) (hts (.fieldLink RX5 42 "LoafParts" "makeup" "LLoafParts$Makeup;") (by decide +kernel)) (v := .ref (aD g 52)) rfl dX5_serve_46 ?_
    refine r_getN hx hb hts hown hC hP hinX1 52 (by decide) (ci := 0) rfl (by decide) rfl 1 (by decide) 8 rfl (v := .int (ui q_5 52 1)) rfl dX5_serve_49 ?_
    refine lv_if_ne (tgt := 58) hx hb dX5_serve_52 (by decide) (fun c_6 => ?_) (fun c_6 => ?_)
    · rw [if_neg c_6] at hf
      refine lv_aload_n hx hb dX5_serve_58 rfl (lv_at hl 0 rfl) ?_
      refine lv_aload_n hx hb dX5_serve_59 rfl (lv_at hl 0 rfl) ?_
      refine r_get hx hb hts hown hC hP hinX5 0 (by decide) (ci := 4) rfl (by decide) rfl 5 (by decide) (hts (.fieldLink RX5 42 "LoafParts" "makeup" "LLoafParts$Makeup;") (by decide +kernel)) (v := .ref (aD g 52)) rfl dX5_serve_60 ?_
      refine r_getN hx hb hts hown hC hP hinX1 52 (by decide) (ci := 0) rfl (by decide) rfl 3 (by decide) 10 rfl (v := .int (ui q_5 52 3)) rfl dX5_serve_63 ?_
      obtain ⟨u_7, eu_7, hf⟩ := lt_ex hf
      refine r_puti hx hb hts hown hC hP hS hinX5 tyX5 tyX5_ok nmX5 0 (by decide) (ci := 4) rfl (by decide) rfl 9 (by decide) (hts (.fieldLink RX5 77 "LoafParts" "told" "I") (by decide +kernel)) rfl (ty := .int) (by decide +kernel) rfl rfl (by decide) (by decide) eu_7 dX5_serve_66 (fun H locs hP hS => ?_)
      refine lv_aload_n hx hb dX5_serve_69 rfl (lv_at hl 0 rfl) ?_
      refine r_get hx hb hts hown hC hP hinX5 0 (by decide) (ci := 4) rfl (by decide) rfl 5 (by decide) (hts (.fieldLink RX5 42 "LoafParts" "makeup" "LLoafParts$Makeup;") (by decide +kernel)) (v := .ref (aD g 52)) rfl dX5_serve_70 ?_
      refine r_getN hx hb hts hown hC hP hinX1 52 (by decide) (ci := 0) rfl (by decide) rfl 4 (by decide) 11 rfl (v := .int (ui u_7 52 4)) rfl dX5_serve_73 ?_
      obtain ⟨rfl, rfl⟩ := sp2 hf
      exact kret _ _ _ _ dX5_serve_76 hP hS trivial
    rw [if_pos c_6] at hf
    refine lv_bipush (v := (-9 : Int32)) hx hb dX5_serve_55 (by decide) ?_
    obtain ⟨rfl, rfl⟩ := sp2 hf
    exact kret _ _ _ _ dX5_serve_57 hP hS trivial
  rw [if_pos c_2] at hf
  refine lv_iconst (v := (-1 : Int32)) hx hb dX5_serve_11 (by decide) ?_
  obtain ⟨rfl, rfl⟩ := sp2 hf
  exact kret _ _ _ _ dX5_serve_12 hP hS trivial
set_option maxHeartbeats 4000000 in
set_option maxRecDepth 100000 in
theorem c_X5_countWanted (l : Launch) (g : GG) (u : UU) {r : Int32} {u' : UU} (hf : f_X5_countWanted u = some (r, u')) : Ci l g 0 55 yX5_countWanted wsX5_countWanted 24 590 [.ref (aD g 0)] u r u' := by
  refine ct_i (cc := cX5_countWanted) (maxL := 4) (by decide) rfl (Nat.le_of_ble_eq_true rfl) ?_
  intro p e s m args below meth c R Q ls hx hb hml hown hts hC hP hl hRf hRl kret hS
  have hown : s.vm.findClass RX5 = some m.cls := hown
  have hl : lv_has ls 4 [(0, .ref (aD g 0))] := hl
  have hinX1 : ∀ w ∈ u_ws RX1 TX1 5, w ∈ wsX5_countWanted := by decide +kernel
  have hinX4 : ∀ w ∈ u_ws RX4 TX4 13, w ∈ wsX5_countWanted := by decide +kernel
  have hinX5 : ∀ w ∈ u_ws RX5 TX5 12, w ∈ wsX5_countWanted := by decide +kernel
  have w_118 : ∀ (k_28 : Int32 → Int32 → UU → Option (Int32 × UU)) (K_28 : ∀ (x1 : Int32) (x2 : Int32) (u : UU) (H : Heap) (locs : List Loc) (ls : Array Slot), Ps g 0 55 u H → va_S (aA g) s.heap H locs → lv_has ls 4 [(0, .ref (aD g 0)), (1, .int x1), (2, .int x2)] → k_28 x1 x2 u = some (r, u') → W p l e R s m args below meth c H locs 0 0 Q (F0 m 28 ls [])), ∀ (x1 : Int32) (x2 : Int32) (u : UU) (H : Heap) (locs : List Loc) (ls : Array Slot), Ps g 0 55 u H → va_S (aA g) s.heap H locs → lv_has ls 4 [(0, .ref (aD g 0)), (1, .int x1), (2, .int x2)] → f_X5_countWanted_118 k_28 x1 x2 u = some (r, u') → W p l e R s m args below meth c H locs 0 0 Q (F0 m 118 ls []) := by
    intro k_28 K_28
    intro x1 x2 u H locs ls hP hS hl hf
    unfold f_X5_countWanted_118 at hf
    obtain ⟨x2_7, ex2_7, hf⟩ := lt_ex hf
    refine lv_iinc (v := x2_7) (lv' := [(2, .int x2_7), (0, .ref (aD g 0)), (1, .int x1)]) hx hb dX5_countWanted_118 hl (k := 2) rfl (by rw [ex2_7]; rfl) (by decide) rfl (fun ls hl => ?_)
    refine lv_goto (tgt := 28) hx hb dX5_countWanted_121 (by decide) ?_
    exact K_28 x1 x2_7 u _ _ _ hP hS (lv_sub hl [1, 2, 0] rfl) hf
  have w_110 : ∀ (k_28 : Int32 → Int32 → UU → Option (Int32 × UU)) (K_28 : ∀ (x1 : Int32) (x2 : Int32) (u : UU) (H : Heap) (locs : List Loc) (ls : Array Slot), Ps g 0 55 u H → va_S (aA g) s.heap H locs → lv_has ls 4 [(0, .ref (aD g 0)), (1, .int x1), (2, .int x2)] → k_28 x1 x2 u = some (r, u') → W p l e R s m args below meth c H locs 0 0 Q (F0 m 28 ls [])) (k_78 : Int32 → Int32 → Int32 → UU → Option (Int32 × UU)) (K_78 : ∀ (x1 : Int32) (x2 : Int32) (x3 : Int32) (u : UU) (H : Heap) (locs : List Loc) (ls : Array Slot), Ps g 0 55 u H → va_S (aA g) s.heap H locs → lv_has ls 4 [(0, .ref (aD g 0)), (1, .int x1), (2, .int x2), (3, .int x3)] → k_78 x1 x2 x3 u = some (r, u') → W p l e R s m args below meth c H locs 0 0 Q (F0 m 78 ls [])), ∀ (x1 : Int32) (x2 : Int32) (x3 : Int32) (t0 : Int32) (t1 : Int32) (t2 : Int32) (u : UU) (H : Heap) (locs : List Loc) (ls : Array Slot), Ps g 0 55 u H → va_S (aA g) s.heap H locs → lv_has ls 4 [(0, .ref (aD g 0)), (1, .int x1), (2, .int x2), (3, .int x3)] → f_X5_countWanted_110 k_28 k_78 x1 x2 x3 t0 t1 t2 u = some (r, u') → W p l e R s m args below meth c H locs 0 0 Q (F0 m 110 ls [.int t0, .int t1, .int t2, .ref (aD g 53)]) := by
    intro k_28 K_28 k_78 K_78
    intro x1 x2 x3 t0 t1 t2 u H locs ls hP hS hl hf
    unfold f_X5_countWanted_110 at hf
    refine lv_iadd hx hb dX5_countWanted_110 ?_
    obtain ⟨hi_12, hf⟩ := ix_ex hf
    obtain ⟨u_13, eu_13, hf⟩ := lt_ex hf
    refine r_ast hx hb hC hP hS 53 (by decide) rfl hi_12 eu_13 dX5_countWanted_111 (fun H locs hP hS => ?_)
    obtain ⟨x3_14, ex3_14, hf⟩ := lt_ex hf
    refine lv_iinc (v := x3_14) (lv' := [(3, .int x3_14), (0, .ref (aD g 0)), (1, .int x1), (2, .int x2)]) hx hb dX5_countWanted_112 hl (k := 3) rfl (by rw [ex3_14]; rfl) (by decide) rfl (fun ls hl => ?_)
    refine lv_goto (tgt := 78) hx hb dX5_countWanted_115 (by decide) ?_
    exact K_78 x1 x2 x3_14 u_13 _ _ _ hP hS (lv_sub hl [1, 2, 3, 0] rfl) hf
  have w_78 : ∀ (k_28 : Int32 → Int32 → UU → Option (Int32 × UU)) (K_28 : ∀ (x1 : Int32) (x2 : Int32) (u : UU) (H : Heap) (locs : List Loc) (ls : Array Slot), Ps g 0 55 u H → va_S (aA g) s.heap H locs → lv_has ls 4 [(0, .ref (aD g 0)), (1, .int x1), (2, .int x2)] → k_28 x1 x2 u = some (r, u') → W p l e R s m args below meth c H locs 0 0 Q (F0 m 28 ls [])) (n : Nat), ∀ (x1 : Int32) (x2 : Int32) (x3 : Int32) (u : UU) (H : Heap) (locs : List Loc) (ls : Array Slot), Ps g 0 55 u H → va_S (aA g) s.heap H locs → lv_has ls 4 [(0, .ref (aD g 0)), (1, .int x1), (2, .int x2), (3, .int x3)] → f_X5_countWanted_78 k_28 n x1 x2 x3 u = some (r, u') → W p l e R s m args below meth c H locs 0 0 Q (F0 m 78 ls []) := by
    intro k_28 K_28 n
    induction n with
    | zero =>
      intro x1 x2 x3 u H locs ls hP hS hl hf
      rw [f_X5_countWanted_78] at hf
      cases hf
    | succ n ih =>
      intro x1 x2 x3 u H locs ls hP hS hl hf
      rw [f_X5_countWanted_78] at hf
      refine lv_iload_n hx hb dX5_countWanted_78 rfl (lv_at hl 3 rfl) ?_
      refine lv_bipush (v := (16 : Int32)) hx hb dX5_countWanted_79 (by decide) ?_
      refine lv_icmp_gt (tgt := 118) hx hb dX5_countWanted_81 (by decide) (fun c_9 => ?_) (fun c_9 => ?_)
      · rw [if_pos c_9] at hf
        exact w_118 (k_28) K_28 x1 x2 u _ _ _ hP hS (lv_sub hl [0, 1, 2] rfl) hf
      rw [if_neg c_9] at hf
      refine lv_aload_n hx hb dX5_countWanted_84 rfl (lv_at hl 0 rfl) ?_
      refine r_get hx hb hts hown hC hP hinX5 0 (by decide) (ci := 4) rfl (by decide) rfl 6 (by decide) (hts (.fieldLink RX5 46 "LoafParts" "wanted" "[I") (by decide +kernel)) (v := .ref (aD g 53)) rfl dX5_countWanted_85 ?_
      refine lv_iload_n hx hb dX5_countWanted_88 rfl (lv_at hl 3 rfl) ?_
      refine lv_dup2_11 hx hb dX5_countWanted_89 rfl rfl ?_
      obtain ⟨hi_10, hf⟩ := ix_ex hf
      refine r_ald hx hb hC hP 53 (by decide) rfl hi_10 dX5_countWanted_90 ?_
      refine lv_aload_n hx hb dX5_countWanted_91 rfl (lv_at hl 0 rfl) ?_
      refine r_get hx hb hts hown hC hP hinX5 0 (by decide) (ci := 4) rfl (by decide) rfl 5 (by decide) (hts (.fieldLink RX5 42 "LoafParts" "makeup" "LLoafParts$Makeup;") (by decide +kernel)) (v := .ref (aD g 52)) rfl dX5_countWanted_92 ?_
      refine r_getN hx hb hts hown hC hP hinX1 52 (by decide) (ci := 0) rfl (by decide) rfl 4 (by decide) 11 rfl (v := .int (ui u 52 4)) rfl dX5_countWanted_95 ?_
      refine lv_iload_n hx hb dX5_countWanted_98 rfl (lv_at hl 3 rfl) ?_
      refine r_Si (As := [.int (ui u 52 4), .int x3]) (rest := [.int (ui u 53 (x3 : Int32).toNatClampNeg), .int x3, .ref (aD g 53)]) ⟨hx, hb, hml, hown, hts⟩ hC hP hS (c_X5_holds l g u (ui u 52 4) x3 rfl) (va_cwS 2 hts gX5_countWanted_X5_holds rfl rfl rfl (by decide +kernel) ⟨(Nat.le_trans (Nat.le_of_ble_eq_true rfl) hRf), (Nat.le_trans (Nat.le_of_ble_eq_true rfl) hRl)⟩) rfl hl.1 rfl (Nat.le_of_ble_eq_true rfl) dX5_countWanted_99 (fun H locs hP hS => ?_)
      refine lv_if_eq (tgt := 109) hx hb dX5_countWanted_102 (by decide) (fun c_11 => ?_) (fun c_11 => ?_)
      · rw [if_pos c_11] at hf
        refine lv_iconst (v := (0 : Int32)) hx hb dX5_countWanted_109 (by decide) ?_
        exact w_110 (k_28) K_28 (f_X5_countWanted_78 k_28 n) ih x1 x2 x3 (0 : Int32) (ui u 53 (x3 : Int32).toNatClampNeg) x3 u _ _ _ hP hS (lv_sub hl [0, 1, 2, 3] rfl) hf
      rw [if_neg c_11] at hf
      refine lv_iconst (v := (1 : Int32)) hx hb dX5_countWanted_105 (by decide) ?_
      refine lv_goto (tgt := 110) hx hb dX5_countWanted_106 (by decide) ?_
      exact w_110 (k_28) K_28 (f_X5_countWanted_78 k_28 n) ih x1 x2 x3 (1 : Int32) (ui u 53 (x3 : Int32).toNatClampNeg) x3 u _ _ _ hP hS (lv_sub hl [0, 1, 2, 3] rfl) hf
  have w_28 : ∀ (n : Nat), ∀ (x1 : Int32) (x2 : Int32) (u : UU) (H : Heap) (locs : List Loc) (ls : Array Slot), Ps g 0 55 u H → va_S (aA g) s.heap H locs → lv_has ls 4 [(0, .ref (aD g 0)), (1, .int x1), (2, .int x2)] → f_X5_countWanted_28 n x1 x2 u = some (r, u') → W p l e R s m args below meth c H locs 0 0 Q (F0 m 28 ls []) := by
    intro n
    induction n with
    | zero =>
      intro x1 x2 u H locs ls hP hS hl hf
      rw [f_X5_countWanted_28] at hf
      cases hf
    | succ n ih =>
      intro x1 x2 u H locs ls hP hS hl hf
      rw [f_X5_countWanted_28] at hf
      refine lv_iload_n hx hb dX5_countWanted_28 rfl (lv_at hl 2 rfl) ?_
      refine lv_aload_n hx hb dX5_countWanted_29 rfl (lv_at hl 0 rfl) ?_
      refine r_get hx hb hts hown hC hP hinX5 0 (by decide) (ci := 4) rfl (by decide) rfl 3 (by decide) (hts (.fieldLink RX5 31 "LoafParts" "table" "LLoafParts$Table;") (by decide +kernel)) (v := .ref (aD g 11)) rfl dX5_countWanted_30 ?_
      refine r_getN hx hb hts hown hC hP hinX4 11 (by decide) (ci := 3) rfl (by decide) rfl 0 (by decide) 0 rfl (v := .int (ui u 11 0)) rfl dX5_countWanted_33 ?_
      refine lv_icmp_ge (tgt := 124) hx hb dX5_countWanted_36 (by decide) (fun c_2 => ?_) (fun c_2 => ?_)
      · rw [if_pos c_2] at hf
        refine lv_iload_n hx hb dX5_countWanted_124 rfl (lv_at hl 1 rfl) ?_
        obtain ⟨rfl, rfl⟩ := sp2 hf
        exact kret _ _ _ _ dX5_countWanted_125 hP hS trivial
      rw [if_neg c_2] at hf
      refine lv_aload_n hx hb dX5_countWanted_39 rfl (lv_at hl 0 rfl) ?_
      refine r_get hx hb hts hown hC hP hinX5 0 (by decide) (ci := 4) rfl (by decide) rfl 5 (by decide) (hts (.fieldLink RX5 42 "LoafParts" "makeup" "LLoafParts$Makeup;") (by decide +kernel)) (v := .ref (aD g 52)) rfl dX5_countWanted_40 ?_
      refine lv_aload_n hx hb dX5_countWanted_43 rfl (lv_at hl 0 rfl) ?_
      refine r_get hx hb hts hown hC hP hinX5 0 (by decide) (ci := 4) rfl (by decide) rfl 3 (by decide) (hts (.fieldLink RX5 31 "LoafParts" "table" "LLoafParts$Table;") (by decide +kernel)) (v := .ref (aD g 11)) rfl dX5_countWanted_44 ?_
      refine r_getN hx hb hts hown hC hP hinX4 11 (by decide) (ci := 3) rfl (by decide) rfl 9 (by decide) 7 rfl (v := .ref (aD g 17)) rfl dX5_countWanted_47 ?_
      refine lv_iload_n hx hb dX5_countWanted_50 rfl (lv_at hl 2 rfl) ?_
      obtain ⟨hi_3, hf⟩ := ix_ex hf
      refine r_ald hx hb hC hP 17 (by decide) rfl hi_3 dX5_countWanted_51 ?_
      refine lv_aload_n hx hb dX5_countWanted_52 rfl (lv_at hl 0 rfl) ?_
      refine r_get hx hb hts hown hC hP hinX5 0 (by decide) (ci := 4) rfl (by decide) rfl 3 (by decide) (hts (.fieldLink RX5 31 "LoafParts" "table" "LLoafParts$Table;") (by decide +kernel)) (v := .ref (aD g 11)) rfl dX5_countWanted_53 ?_
      refine lv_iload_n hx hb dX5_countWanted_56 rfl (lv_at hl 2 rfl) ?_
      obtain ⟨q_4, hq_4, hf⟩ := bind_ex hf
      refine r_Vi (As := [.int x2]) (rest := [.int (ui u 17 (x2 : Int32).toNatClampNeg), .ref (aD g 52)]) (k := 11) (ci := 3) ⟨hx, hb, hml, hown, hts⟩ hC hP hS (by decide) rfl (by decide) rfl (c_X4_openTo l g u x2 hq_4) (cwV 1 hts gX5_countWanted_X4_openTo rfl rfl rfl (by decide +kernel) ⟨(Nat.le_trans (Nat.le_of_ble_eq_true rfl) hRf), (Nat.le_trans (Nat.le_of_ble_eq_true rfl) hRl)⟩) rfl hl.1 rfl (Nat.le_of_ble_eq_true rfl) dX5_countWanted_57 (fun H locs hP hS => ?_)
      obtain ⟨q_5, hq_5, hf⟩ := bind_ex hf
      refine r_Vv (As := [.int (ui u 17 (x2 : Int32).toNatClampNeg), .int q_4]) (rest := []) (k := 52) (ci := 0) ⟨hx, hb, hml, hown, hts⟩ hC hP hS (by decide) rfl (by decide) rfl (c_X1_lookFor l g u (ui u 17 (x2 : Int32).toNatClampNeg) q_4 hq_5) (cwV 2 hts gX5_countWanted_X1_lookFor rfl rfl rfl (by decide +kernel) ⟨(Nat.le_trans (Nat.le_of_ble_eq_true rfl) hRf), (Nat.le_trans (Nat.le_of_ble_eq_true rfl) hRl)⟩) rfl hl.1 rfl (Nat.le_of_ble_eq_true rfl) dX5_countWanted_60 (fun H locs hP hS => ?_)
      refine lv_aload_n hx hb dX5_countWanted_63 rfl (lv_at hl 0 rfl) ?_
      refine r_get hx hb hts hown hC hP hinX5 0 (by decide) (ci := 4) rfl (by decide) rfl 5 (by decide) (hts (.fieldLink RX5 42 "LoafParts" "makeup" "LLoafParts$Makeup;") (by decide +kernel)) (v := .ref (aD g 52)) rfl dX5_countWanted_64 ?_
      refine r_getN hx hb hts hown hC hP hinX1 52 (by decide) (ci := 0) rfl (by decide) rfl 1 (by decide) 8 rfl (v := .int (ui q_5 52 1)) rfl dX5_countWanted_67 ?_
      refine lv_if_le (tgt := 118) hx hb dX5_countWanted_70 (by decide) (fun c_6 => ?_) (fun c_6 => ?_)
      · rw [if_pos c_6] at hf
        exact w_118 (f_X5_countWanted_28 n) ih x1 x2 q_5 _ _ _ hP hS (lv_sub hl [0, 1, 2] rfl) hf
      rw [if_neg c_6] at hf
      obtain ⟨x1_8, ex1_8, hf⟩ := lt_ex hf
      refine lv_iinc (v := x1_8) (lv' := [(1, .int x1_8), (0, .ref (aD g 0)), (2, .int x2)]) hx hb dX5_countWanted_73 hl (k := 1) rfl (by rw [ex1_8]; rfl) (by decide) rfl (fun ls hl => ?_)
      refine lv_iconst (v := (2 : Int32)) hx hb dX5_countWanted_76 (by decide) ?_
      refine lv_istore_n (lv' := [(3, .int (2 : Int32)), (1, .int x1_8), (0, .ref (aD g 0)), (2, .int x2)]) hx hb dX5_countWanted_77 rfl hl (by decide) rfl (fun ls hl => ?_)
      exact w_78 (f_X5_countWanted_28 n) ih fu x1_8 x2 (2 : Int32) q_5 _ _ _ hP hS (lv_sub hl [2, 1, 3, 0] rfl) hf
  have w_2 : ∀ (n : Nat), ∀ (x1 : Int32) (u : UU) (H : Heap) (locs : List Loc) (ls : Array Slot), Ps g 0 55 u H → va_S (aA g) s.heap H locs → lv_has ls 4 [(0, .ref (aD g 0)), (1, .int x1)] → f_X5_countWanted_2 n x1 u = some (r, u') → W p l e R s m args below meth c H locs 0 0 Q (F0 m 2 ls []) := by
    intro n
    induction n with
    | zero =>
      intro x1 u H locs ls hP hS hl hf
      rw [f_X5_countWanted_2] at hf
      cases hf
    | succ n ih =>
      intro x1 u H locs ls hP hS hl hf
      rw [f_X5_countWanted_2] at hf
      refine lv_iload_n hx hb dX5_countWanted_2 rfl (lv_at hl 1 rfl) ?_
      refine lv_aload_n hx hb dX5_countWanted_3 rfl (lv_at hl 0 rfl) ?_
      refine r_get hx hb hts hown hC hP hinX5 0 (by decide) (ci := 4) rfl (by decide) rfl 6 (by decide) (hts (.fieldLink RX5 46 "LoafParts" "wanted" "[I") (by decide +kernel)) (v := .ref (aD g 53)) rfl dX5_countWanted_4 ?_
      refine r_alen hx hb hC hP 53 (by decide) rfl (v := (17 : Int32)) rfl dX5_countWanted_7 ?_
      refine lv_icmp_ge (tgt := 24) hx hb dX5_countWanted_8 (by decide) (fun c_1 => ?_) (fun c_1 => ?_)
      · rw [if_pos c_1] at hf
        refine lv_iconst (v := (0 : Int32)) hx hb dX5_countWanted_24 (by decide) ?_
        refine lv_istore_n (lv' := [(1, .int (0 : Int32)), (0, .ref (aD g 0))]) hx hb dX5_countWanted_25 rfl hl (by decide) rfl (fun ls hl => ?_)
        refine lv_iconst (v := (0 : Int32)) hx hb dX5_countWanted_26 (by decide) ?_
        refine lv_istore_n (lv' := [(2, .int (0 : Int32)), (1, .int (0 : Int32)), (0, .ref (aD g 0))]) hx hb dX5_countWanted_27 rfl hl (by decide) rfl (fun ls hl => ?_)
        exact w_28 fu (0 : Int32) (0 : Int32) u _ _ _ hP hS (lv_sub hl [2, 1, 0] rfl) hf
      rw [if_neg c_1] at hf
      refine lv_aload_n hx hb dX5_countWanted_11 rfl (lv_at hl 0 rfl) ?_
      refine r_get hx hb hts hown hC hP hinX5 0 (by decide) (ci := 4) rfl (by decide) rfl 6 (by decide) (hts (.fieldLink RX5 46 "LoafParts" "wanted" "[I") (by decide +kernel)) (v := .ref (aD g 53)) rfl dX5_countWanted_12 ?_
      refine lv_iload_n hx hb dX5_countWanted_15 rfl (lv_at hl 1 rfl) ?_
      refine lv_iconst (v := (0 : Int32)) hx hb dX5_countWanted_16 (by decide) ?_
      obtain ⟨hi_15, hf⟩ := ix_ex hf
      obtain ⟨u_16, eu_16, hf⟩ := lt_ex hf
      refine r_ast hx hb hC hP hS 53 (by decide) rfl hi_15 eu_16 dX5_countWanted_17 (fun H locs hP hS => ?_)
      obtain ⟨x1_17, ex1_17, hf⟩ := lt_ex hf
      refine lv_iinc (v := x1_17) (lv' := [(1, .int x1_17), (0, .ref (aD g 0))]) hx hb dX5_countWanted_18 hl (k := 1) rfl (by rw [ex1_17]; rfl) (by decide) rfl (fun ls hl => ?_)
      refine lv_goto (tgt := 2) hx hb dX5_countWanted_21 (by decide) ?_
      exact ih x1_17 u_16 _ _ _ hP hS (lv_sub hl [1, 0] rfl) hf
  unfold f_X5_countWanted at hf
  refine lv_iconst (v := (0 : Int32)) hx hb dX5_countWanted_0 (by decide) ?_
  refine lv_istore_n (lv' := [(1, .int (0 : Int32)), (0, .ref (aD g 0))]) hx hb dX5_countWanted_1 rfl hl (by decide) rfl (fun ls hl => ?_)
  exact w_2 fu (0 : Int32) u _ _ _ hP hS (lv_sub hl [1, 0] rfl) hf
set_option maxHeartbeats 4000000 in
set_option maxRecDepth 100000 in
theorem c_X5_need (l : Launch) (g : GG) (u : UU) {r : Int32} {u' : UU} (hf : f_X5_need u = some (r, u')) : Ci l g 0 55 yX5_need wsX5_need 25 613 [.ref (aD g 0)] u r u' := by
  refine ct_i (cc := cX5_need) (maxL := 4) (by decide) rfl (Nat.le_of_ble_eq_true rfl) ?_
  intro p e s m args below meth c R Q ls hx hb hml hown hts hC hP hl hRf hRl kret hS
  have hown : s.vm.findClass RX5 = some m.cls := hown
  have hl : lv_has ls 4 [(0, .ref (aD g 0))] := hl
  have hinX4 : ∀ w ∈ u_ws RX4 TX4 13, w ∈ wsX5_need := by decide +kernel
  have hinX5 : ∀ w ∈ u_ws RX5 TX5 12, w ∈ wsX5_need := by decide +kernel
  have w_62 : ∀ (k_25 : Int32 → Int32 → UU → Option (Int32 × UU)) (K_25 : ∀ (x1 : Int32) (x2 : Int32) (u : UU) (H : Heap) (locs : List Loc) (ls : Array Slot), Ps g 0 55 u H → va_S (aA g) s.heap H locs → lv_has ls 4 [(0, .ref (aD g 0)), (1, .int x1), (2, .int x2)] → k_25 x1 x2 u = some (r, u') → W p l e R s m args below meth c H locs 0 0 Q (F0 m 25 ls [])), ∀ (x1 : Int32) (x2 : Int32) (u : UU) (H : Heap) (locs : List Loc) (ls : Array Slot), Ps g 0 55 u H → va_S (aA g) s.heap H locs → lv_has ls 4 [(0, .ref (aD g 0)), (1, .int x1), (2, .int x2)] → f_X5_need_62 k_25 x1 x2 u = some (r, u') → W p l e R s m args below meth c H locs 0 0 Q (F0 m 62 ls []) := by
    intro k_25 K_25
    intro x1 x2 u H locs ls hP hS hl hf
    unfold f_X5_need_62 at hf
    obtain ⟨x2_9, ex2_9, hf⟩ := lt_ex hf
    refine lv_iinc (v := x2_9) (lv' := [(2, .int x2_9), (0, .ref (aD g 0)), (1, .int x1)]) hx hb dX5_need_62 hl (k := 2) rfl (by rw [ex2_9]; rfl) (by decide) rfl (fun ls hl => ?_)
    refine lv_goto (tgt := 25) hx hb dX5_need_65 (by decide) ?_
    exact K_25 x1 x2_9 u _ _ _ hP hS (lv_sub hl [1, 2, 0] rfl) hf
  have w_25 : ∀ (n : Nat), ∀ (x1 : Int32) (x2 : Int32) (u : UU) (H : Heap) (locs : List Loc) (ls : Array Slot), Ps g 0 55 u H → va_S (aA g) s.heap H locs → lv_has ls 4 [(0, .ref (aD g 0)), (1, .int x1), (2, .int x2)] → f_X5_need_25 n x1 x2 u = some (r, u') → W p l e R s m args below meth c H locs 0 0 Q (F0 m 25 ls []) := by
    intro n
    induction n with
    | zero =>
      intro x1 x2 u H locs ls hP hS hl hf
      rw [f_X5_need_25] at hf
      cases hf
    | succ n ih =>
      intro x1 x2 u H locs ls hP hS hl hf
      rw [f_X5_need_25] at hf
      refine lv_iload_n hx hb dX5_need_25 rfl (lv_at hl 2 rfl) ?_
      refine lv_bipush (v := (16 : Int32)) hx hb dX5_need_26 (by decide) ?_
      refine lv_icmp_gt (tgt := 68) hx hb dX5_need_28 (by decide) (fun c_4 => ?_) (fun c_4 => ?_)
      · rw [if_pos c_4] at hf
        refine lv_iload_n hx hb dX5_need_68 rfl (lv_at hl 1 rfl) ?_
        obtain ⟨rfl, rfl⟩ := sp2 hf
        exact kret _ _ _ _ dX5_need_69 hP hS trivial
      rw [if_neg c_4] at hf
      refine lv_aload_n hx hb dX5_need_31 rfl (lv_at hl 0 rfl) ?_
      refine r_get hx hb hts hown hC hP hinX5 0 (by decide) (ci := 4) rfl (by decide) rfl 6 (by decide) (hts (.fieldLink RX5 46 "LoafParts" "wanted" "[I") (by decide +kernel)) (v := .ref (aD g 53)) rfl dX5_need_32 ?_
      refine lv_iload_n hx hb dX5_need_35 rfl (lv_at hl 2 rfl) ?_
      obtain ⟨hi_5, hf⟩ := ix_ex hf
      refine r_ald hx hb hC hP 53 (by decide) rfl hi_5 dX5_need_36 ?_
      refine lv_aload_n hx hb dX5_need_37 rfl (lv_at hl 0 rfl) ?_
      refine r_get hx hb hts hown hC hP hinX5 0 (by decide) (ci := 4) rfl (by decide) rfl 3 (by decide) (hts (.fieldLink RX5 31 "LoafParts" "table" "LLoafParts$Table;") (by decide +kernel)) (v := .ref (aD g 11)) rfl dX5_need_38 ?_
      refine r_getN hx hb hts hown hC hP hinX4 11 (by decide) (ci := 3) rfl (by decide) rfl 3 (by decide) 3 rfl (v := .ref (aD g 12)) rfl dX5_need_41 ?_
      refine lv_iload_n hx hb dX5_need_44 rfl (lv_at hl 2 rfl) ?_
      obtain ⟨hi_6, hf⟩ := ix_ex hf
      refine r_ald hx hb hC hP 12 (by decide) rfl hi_6 dX5_need_45 ?_
      refine lv_isub hx hb dX5_need_46 ?_
      obtain ⟨x3_7, ex3_7, hf⟩ := lt_ex hf
      refine r_nm ex3_7 ?_
      refine lv_istore_n (lv' := [(3, .int x3_7), (0, .ref (aD g 0)), (1, .int x1), (2, .int x2)]) hx hb dX5_need_47 rfl hl (by decide) rfl (fun ls hl => ?_)
      refine lv_iload_n hx hb dX5_need_48 rfl (lv_at hl 0 rfl) ?_
      refine lv_if_le (tgt := 62) hx hb dX5_need_49 (by decide) (fun c_8 => ?_) (fun c_8 => ?_)
      · rw [if_pos c_8] at hf
        exact w_62 (f_X5_need_25 n) ih x1 x2 u _ _ _ hP hS (lv_sub hl [1, 2, 3] rfl) hf
      rw [if_neg c_8] at hf
      refine lv_iload_n hx hb dX5_need_52 rfl (lv_at hl 2 rfl) ?_
      refine lv_iload_n hx hb dX5_need_53 rfl (lv_at hl 0 rfl) ?_
      refine lv_iload_n hx hb dX5_need_54 rfl (lv_at hl 3 rfl) ?_
      refine lv_iadd hx hb dX5_need_55 ?_
      refine lv_iconst (v := (1 : Int32)) hx hb dX5_need_56 (by decide) ?_
      refine lv_isub hx hb dX5_need_57 ?_
      refine lv_iload_n hx hb dX5_need_58 rfl (lv_at hl 3 rfl) ?_
      obtain ⟨hz_10, hf⟩ := nz_ex hf
      refine lv_idiv hx hb dX5_need_59 hz_10 ?_
      refine lv_iadd hx hb dX5_need_60 ?_
      obtain ⟨x1_11, ex1_11, hf⟩ := lt_ex hf
      refine r_nm ex1_11 ?_
      refine lv_istore_n (lv' := [(1, .int x1_11), (3, .int x3_7), (0, .ref (aD g 0)), (2, .int x2)]) hx hb dX5_need_61 rfl hl (by decide) rfl (fun ls hl => ?_)
      exact w_62 (f_X5_need_25 n) ih x1_11 x2 u _ _ _ hP hS (lv_sub hl [2, 0, 3] rfl) hf
  unfold f_X5_need at hf
  refine lv_aload_n hx hb dX5_need_0 rfl (lv_at hl 0 rfl) ?_
  refine r_get hx hb hts hown hC hP hinX5 0 (by decide) (ci := 4) rfl (by decide) rfl 3 (by decide) (hts (.fieldLink RX5 31 "LoafParts" "table" "LLoafParts$Table;") (by decide +kernel)) (v := .ref (aD g 11)) rfl dX5_need_1 ?_
  refine r_getN hx hb hts hown hC hP hinX4 11 (by decide) (ci := 3) rfl (by decide) rfl 0 (by decide) 0 rfl (v := .int (ui u 11 0)) rfl dX5_need_4 ?_
  refine lv_if_ne (tgt := 13) hx hb dX5_need_7 (by decide) (fun c_1 => ?_) (fun c_1 => ?_)
  · rw [if_neg c_1] at hf
    refine lv_aload_n hx hb dX5_need_13 rfl (lv_at hl 0 rfl) ?_
    refine lv_aload_n hx hb dX5_need_14 rfl (lv_at hl 0 rfl) ?_
    obtain ⟨q_2, hq_2, hf⟩ := bind_ex hf
    refine r_Vi (r := q_2.1) (u' := q_2.2) (As := []) (rest := [.ref (aD g 0)]) (k := 0) (ci := 4) ⟨hx, hb, hml, hown, hts⟩ hC hP hS (by decide) rfl (by decide) rfl (c_X5_countWanted l g u hq_2) (cwV 0 hts gX5_need_X5_countWanted rfl rfl rfl (by decide +kernel) ⟨(Nat.le_trans (Nat.le_of_ble_eq_true rfl) hRf), (Nat.le_trans (Nat.le_of_ble_eq_true rfl) hRl)⟩) rfl hl.1 rfl (Nat.le_of_ble_eq_true rfl) dX5_need_15 (fun H locs hP hS => ?_)
    obtain ⟨u_3, eu_3, hf⟩ := lt_ex hf
    refine r_puti hx hb hts hown hC hP hS hinX5 tyX5 tyX5_ok nmX5 0 (by decide) (ci := 4) rfl (by decide) rfl 9 (by decide) (hts (.fieldLink RX5 77 "LoafParts" "told" "I") (by decide +kernel)) rfl (ty := .int) (by decide +kernel) rfl rfl (by decide) (by decide) eu_3 dX5_need_18 (fun H locs hP hS => ?_)
    refine lv_iconst (v := (0 : Int32)) hx hb dX5_need_21 (by decide) ?_
    refine lv_istore_n (lv' := [(1, .int (0 : Int32)), (0, .ref (aD g 0))]) hx hb dX5_need_22 rfl hl (by decide) rfl (fun ls hl => ?_)
    refine lv_iconst (v := (2 : Int32)) hx hb dX5_need_23 (by decide) ?_
    refine lv_istore_n (lv' := [(2, .int (2 : Int32)), (1, .int (0 : Int32)), (0, .ref (aD g 0))]) hx hb dX5_need_24 rfl hl (by decide) rfl (fun ls hl => ?_)
    exact w_25 fu (0 : Int32) (2 : Int32) u_3 _ _ _ hP hS (lv_sub hl [2, 1, 0] rfl) hf
  rw [if_pos c_1] at hf
  refine lv_bipush (v := (-4 : Int32)) hx hb dX5_need_10 (by decide) ?_
  obtain ⟨rfl, rfl⟩ := sp2 hf
  exact kret _ _ _ _ dX5_need_12 hP hS trivial
set_option maxHeartbeats 4000000 in
set_option maxRecDepth 100000 in
theorem c_X5_poor (l : Launch) (g : GG) (u : UU) {r : Int32} {u' : UU} (hf : f_X5_poor u = some (r, u')) : Ci l g 0 55 yX5_poor wsX5_poor 2 56 [.ref (aD g 0)] u r u' := by
  refine ct_i (cc := cX5_poor) (maxL := 3) (by decide) rfl (Nat.le_of_ble_eq_true rfl) ?_
  intro p e s m args below meth c R Q ls hx hb hml hown hts hC hP hl hRf hRl kret hS
  have hown : s.vm.findClass RX5 = some m.cls := hown
  have hl : lv_has ls 3 [(0, .ref (aD g 0))] := hl
  have hinX4 : ∀ w ∈ u_ws RX4 TX4 13, w ∈ wsX5_poor := by decide +kernel
  have hinX5 : ∀ w ∈ u_ws RX5 TX5 12, w ∈ wsX5_poor := by decide +kernel
  have w_51 : ∀ (k_17 : Int32 → Int32 → UU → Option (Int32 × UU)) (K_17 : ∀ (x1 : Int32) (x2 : Int32) (u : UU) (H : Heap) (locs : List Loc) (ls : Array Slot), Ps g 0 55 u H → va_S (aA g) s.heap H locs → lv_has ls 3 [(0, .ref (aD g 0)), (1, .int x1), (2, .int x2)] → k_17 x1 x2 u = some (r, u') → W p l e R s m args below meth c H locs 0 0 Q (F0 m 17 ls [])), ∀ (x1 : Int32) (x2 : Int32) (u : UU) (H : Heap) (locs : List Loc) (ls : Array Slot), Ps g 0 55 u H → va_S (aA g) s.heap H locs → lv_has ls 3 [(0, .ref (aD g 0)), (1, .int x1), (2, .int x2)] → f_X5_poor_51 k_17 x1 x2 u = some (r, u') → W p l e R s m args below meth c H locs 0 0 Q (F0 m 51 ls []) := by
    intro k_17 K_17
    intro x1 x2 u H locs ls hP hS hl hf
    unfold f_X5_poor_51 at hf
    obtain ⟨x2_8, ex2_8, hf⟩ := lt_ex hf
    refine lv_iinc (v := x2_8) (lv' := [(2, .int x2_8), (0, .ref (aD g 0)), (1, .int x1)]) hx hb dX5_poor_51 hl (k := 2) rfl (by rw [ex2_8]; rfl) (by decide) rfl (fun ls hl => ?_)
    refine lv_goto (tgt := 17) hx hb dX5_poor_54 (by decide) ?_
    exact K_17 x1 x2_8 u _ _ _ hP hS (lv_sub hl [1, 2, 0] rfl) hf
  have w_17 : ∀ (n : Nat), ∀ (x1 : Int32) (x2 : Int32) (u : UU) (H : Heap) (locs : List Loc) (ls : Array Slot), Ps g 0 55 u H → va_S (aA g) s.heap H locs → lv_has ls 3 [(0, .ref (aD g 0)), (1, .int x1), (2, .int x2)] → f_X5_poor_17 n x1 x2 u = some (r, u') → W p l e R s m args below meth c H locs 0 0 Q (F0 m 17 ls []) := by
    intro n
    induction n with
    | zero =>
      intro x1 x2 u H locs ls hP hS hl hf
      rw [f_X5_poor_17] at hf
      cases hf
    | succ n ih =>
      intro x1 x2 u H locs ls hP hS hl hf
      rw [f_X5_poor_17] at hf
      refine lv_iload_n hx hb dX5_poor_17 rfl (lv_at hl 2 rfl) ?_
      refine lv_aload_n hx hb dX5_poor_18 rfl (lv_at hl 0 rfl) ?_
      refine r_get hx hb hts hown hC hP hinX5 0 (by decide) (ci := 4) rfl (by decide) rfl 3 (by decide) (hts (.fieldLink RX5 31 "LoafParts" "table" "LLoafParts$Table;") (by decide +kernel)) (v := .ref (aD g 11)) rfl dX5_poor_19 ?_
      refine r_getN hx hb hts hown hC hP hinX4 11 (by decide) (ci := 3) rfl (by decide) rfl 0 (by decide) 0 rfl (v := .int (ui u 11 0)) rfl dX5_poor_22 ?_
      refine lv_icmp_ge (tgt := 57) hx hb dX5_poor_25 (by decide) (fun c_2 => ?_) (fun c_2 => ?_)
      · rw [if_pos c_2] at hf
        refine lv_aload_n hx hb dX5_poor_57 rfl (lv_at hl 0 rfl) ?_
        refine lv_aload_n hx hb dX5_poor_58 rfl (lv_at hl 0 rfl) ?_
        refine r_get hx hb hts hown hC hP hinX5 0 (by decide) (ci := 4) rfl (by decide) rfl 3 (by decide) (hts (.fieldLink RX5 31 "LoafParts" "table" "LLoafParts$Table;") (by decide +kernel)) (v := .ref (aD g 11)) rfl dX5_poor_59 ?_
        refine r_getN hx hb hts hown hC hP hinX4 11 (by decide) (ci := 3) rfl (by decide) rfl 9 (by decide) 7 rfl (v := .ref (aD g 17)) rfl dX5_poor_62 ?_
        refine lv_iload_n hx hb dX5_poor_65 rfl (lv_at hl 1 rfl) ?_
        obtain ⟨hi_3, hf⟩ := ix_ex hf
        refine r_ald hx hb hC hP 17 (by decide) rfl hi_3 dX5_poor_66 ?_
        refine lv_i2l hx hb dX5_poor_67 rfl ?_
        refine lv_ldc2 (v := (720720 : Int64)) hx hb hown (hts (.constantLong RX5 203 (720720)) (by decide +kernel)) dX5_poor_68 ?_
        obtain ⟨q_4, hq_4, hf⟩ := bind_ex hf
        refine r_Vv (As := [.long (((ui u 17 (x1 : Int32).toNatClampNeg) : Int32).toInt64), .long (720720 : Int64)]) (rest := []) (k := 0) (ci := 4) ⟨hx, hb, hml, hown, hts⟩ hC hP hS (by decide) rfl (by decide) rfl (c_X5_tellFraction l g u (((ui u 17 (x1 : Int32).toNatClampNeg) : Int32).toInt64) (720720 : Int64) hq_4) (cwV 2 hts gX5_poor_X5_tellFraction rfl rfl rfl (by decide +kernel) ⟨(Nat.le_trans (Nat.le_of_ble_eq_true rfl) hRf), (Nat.le_trans (Nat.le_of_ble_eq_true rfl) hRl)⟩) rfl hl.1 rfl (Nat.le_of_ble_eq_true rfl) dX5_poor_71 (fun H locs hP hS => ?_)
        refine lv_iload_n hx hb dX5_poor_74 rfl (lv_at hl 1 rfl) ?_
        obtain ⟨rfl, rfl⟩ := sp2 hf
        exact kret _ _ _ _ dX5_poor_75 hP hS trivial
      rw [if_neg c_2] at hf
      refine lv_aload_n hx hb dX5_poor_28 rfl (lv_at hl 0 rfl) ?_
      refine r_get hx hb hts hown hC hP hinX5 0 (by decide) (ci := 4) rfl (by decide) rfl 3 (by decide) (hts (.fieldLink RX5 31 "LoafParts" "table" "LLoafParts$Table;") (by decide +kernel)) (v := .ref (aD g 11)) rfl dX5_poor_29 ?_
      refine r_getN hx hb hts hown hC hP hinX4 11 (by decide) (ci := 3) rfl (by decide) rfl 9 (by decide) 7 rfl (v := .ref (aD g 17)) rfl dX5_poor_32 ?_
      refine lv_iload_n hx hb dX5_poor_35 rfl (lv_at hl 2 rfl) ?_
      obtain ⟨hi_5, hf⟩ := ix_ex hf
      refine r_ald hx hb hC hP 17 (by decide) rfl hi_5 dX5_poor_36 ?_
      refine lv_aload_n hx hb dX5_poor_37 rfl (lv_at hl 0 rfl) ?_
      refine r_get hx hb hts hown hC hP hinX5 0 (by decide) (ci := 4) rfl (by decide) rfl 3 (by decide) (hts (.fieldLink RX5 31 "LoafParts" "table" "LLoafParts$Table;") (by decide +kernel)) (v := .ref (aD g 11)) rfl dX5_poor_38 ?_
      refine r_getN hx hb hts hown hC hP hinX4 11 (by decide) (ci := 3) rfl (by decide) rfl 9 (by decide) 7 rfl (v := .ref (aD g 17)) rfl dX5_poor_41 ?_
      refine lv_iload_n hx hb dX5_poor_44 rfl (lv_at hl 1 rfl) ?_
      obtain ⟨hi_6, hf⟩ := ix_ex hf
      refine r_ald hx hb hC hP 17 (by decide) rfl hi_6 dX5_poor_45 ?_
      refine lv_icmp_le (tgt := 51) hx hb dX5_poor_46 (by decide) (fun c_7 => ?_) (fun c_7 => ?_)
      · rw [if_pos c_7] at hf
        exact w_51 (f_X5_poor_17 n) ih x1 x2 u _ _ _ hP hS (lv_sub hl [0, 1, 2] rfl) hf
      rw [if_neg c_7] at hf
      refine lv_iload_n hx hb dX5_poor_49 rfl (lv_at hl 2 rfl) ?_
      refine lv_istore_n (lv' := [(1, .int x2), (0, .ref (aD g 0)), (2, .int x2)]) hx hb dX5_poor_50 rfl hl (by decide) rfl (fun ls hl => ?_)
      exact w_51 (f_X5_poor_17 n) ih x2 x2 u _ _ _ hP hS (lv_sub hl [1, 0, 2] rfl) hf
  unfold f_X5_poor at hf
  refine lv_aload_n hx hb dX5_poor_0 rfl (lv_at hl 0 rfl) ?_
  refine r_get hx hb hts hown hC hP hinX5 0 (by decide) (ci := 4) rfl (by decide) rfl 3 (by decide) (hts (.fieldLink RX5 31 "LoafParts" "table" "LLoafParts$Table;") (by decide +kernel)) (v := .ref (aD g 11)) rfl dX5_poor_1 ?_
  refine r_getN hx hb hts hown hC hP hinX4 11 (by decide) (ci := 3) rfl (by decide) rfl 0 (by decide) 0 rfl (v := .int (ui u 11 0)) rfl dX5_poor_4 ?_
  refine lv_if_ne (tgt := 13) hx hb dX5_poor_7 (by decide) (fun c_1 => ?_) (fun c_1 => ?_)
  · rw [if_neg c_1] at hf
    refine lv_iconst (v := (0 : Int32)) hx hb dX5_poor_13 (by decide) ?_
    refine lv_istore_n (lv' := [(1, .int (0 : Int32)), (0, .ref (aD g 0))]) hx hb dX5_poor_14 rfl hl (by decide) rfl (fun ls hl => ?_)
    refine lv_iconst (v := (1 : Int32)) hx hb dX5_poor_15 (by decide) ?_
    refine lv_istore_n (lv' := [(2, .int (1 : Int32)), (1, .int (0 : Int32)), (0, .ref (aD g 0))]) hx hb dX5_poor_16 rfl hl (by decide) rfl (fun ls hl => ?_)
    exact w_17 fu (0 : Int32) (1 : Int32) u _ _ _ hP hS (lv_sub hl [2, 1, 0] rfl) hf
  rw [if_pos c_1] at hf
  refine lv_bipush (v := (-4 : Int32)) hx hb dX5_poor_10 (by decide) ?_
  obtain ⟨rfl, rfl⟩ := sp2 hf
  exact kret _ _ _ _ dX5_poor_12 hP hS trivial
set_option maxHeartbeats 4000000 in
set_option maxRecDepth 100000 in
theorem c_X5_payableBy (l : Launch) (g : GG) (u : UU) (x1 : Int32) {r : Int32} {u' : UU} (hf : f_X5_payableBy x1 u = some (r, u')) : Ci l g 0 55 yX5_payableBy wsX5_payableBy 24 590 [.ref (aD g 0), .int x1] u r u' := by
  refine ct_i (cc := cX5_payableBy) (maxL := 4) (by decide) rfl (Nat.le_of_ble_eq_true rfl) ?_
  intro p e s m args below meth c R Q ls hx hb hml hown hts hC hP hl hRf hRl kret hS
  have hown : s.vm.findClass RX5 = some m.cls := hown
  have hl : lv_has ls 4 [(0, .ref (aD g 0)), (1, .int x1)] := hl
  have hinX1 : ∀ w ∈ u_ws RX1 TX1 5, w ∈ wsX5_payableBy := by decide +kernel
  have hinX4 : ∀ w ∈ u_ws RX4 TX4 13, w ∈ wsX5_payableBy := by decide +kernel
  have hinX5 : ∀ w ∈ u_ws RX5 TX5 12, w ∈ wsX5_payableBy := by decide +kernel
  have w_59 : ∀ (k_4 : Int32 → Int32 → Int32 → UU → Option (Int32 × UU)) (K_4 : ∀ (x1 : Int32) (x2 : Int32) (x3 : Int32) (u : UU) (H : Heap) (locs : List Loc) (ls : Array Slot), Ps g 0 55 u H → va_S (aA g) s.heap H locs → lv_has ls 4 [(0, .ref (aD g 0)), (1, .int x1), (2, .int x2), (3, .int x3)] → k_4 x1 x2 x3 u = some (r, u') → W p l e R s m args below meth c H locs 0 0 Q (F0 m 4 ls [])), ∀ (x1 : Int32) (x3 : Int32) (t0 : Int32) (t1 : Int32) (u : UU) (H : Heap) (locs : List Loc) (ls : Array Slot), Ps g 0 55 u H → va_S (aA g) s.heap H locs → lv_has ls 4 [(0, .ref (aD g 0)), (1, .int x1), (3, .int x3)] → f_X5_payableBy_59 k_4 x1 x3 t0 t1 u = some (r, u') → W p l e R s m args below meth c H locs 0 0 Q (F0 m 59 ls [.int t0, .int t1]) := by
    intro k_4 K_4
    intro x1 x3 t0 t1 u H locs ls hP hS hl hf
    unfold f_X5_payableBy_59 at hf
    refine lv_ior hx hb dX5_payableBy_59 ?_
    obtain ⟨x2_6, ex2_6, hf⟩ := lt_ex hf
    refine r_nm ex2_6 ?_
    refine lv_istore_n (lv' := [(2, .int x2_6), (0, .ref (aD g 0)), (1, .int x1), (3, .int x3)]) hx hb dX5_payableBy_60 rfl hl (by decide) rfl (fun ls hl => ?_)
    obtain ⟨x3_7, ex3_7, hf⟩ := lt_ex hf
    refine lv_iinc (v := x3_7) (lv' := [(3, .int x3_7), (2, .int x2_6), (0, .ref (aD g 0)), (1, .int x1)]) hx hb dX5_payableBy_61 hl (k := 3) rfl (by rw [ex3_7]; rfl) (by decide) rfl (fun ls hl => ?_)
    refine lv_goto (tgt := 4) hx hb dX5_payableBy_64 (by decide) ?_
    exact K_4 x1 x2_6 x3_7 u _ _ _ hP hS (lv_sub hl [2, 3, 1, 0] rfl) hf
  have w_4 : ∀ (n : Nat), ∀ (x1 : Int32) (x2 : Int32) (x3 : Int32) (u : UU) (H : Heap) (locs : List Loc) (ls : Array Slot), Ps g 0 55 u H → va_S (aA g) s.heap H locs → lv_has ls 4 [(0, .ref (aD g 0)), (1, .int x1), (2, .int x2), (3, .int x3)] → f_X5_payableBy_4 n x1 x2 x3 u = some (r, u') → W p l e R s m args below meth c H locs 0 0 Q (F0 m 4 ls []) := by
    intro n
    induction n with
    | zero =>
      intro x1 x2 x3 u H locs ls hP hS hl hf
      rw [f_X5_payableBy_4] at hf
      cases hf
    | succ n ih =>
      intro x1 x2 x3 u H locs ls hP hS hl hf
      rw [f_X5_payableBy_4] at hf
      refine lv_iload_n hx hb dX5_payableBy_4 rfl (lv_at hl 3 rfl) ?_
      refine lv_aload_n hx hb dX5_payableBy_5 rfl (lv_at hl 0 rfl) ?_
      refine r_get hx hb hts hown hC hP hinX5 0 (by decide) (ci := 4) rfl (by decide) rfl 3 (by decide) (hts (.fieldLink RX5 31 "LoafParts" "table" "LLoafParts$Table;") (by decide +kernel)) (v := .ref (aD g 11)) rfl dX5_payableBy_6 ?_
      refine r_getN hx hb hts hown hC hP hinX4 11 (by decide) (ci := 3) rfl (by decide) rfl 0 (by decide) 0 rfl (v := .int (ui u 11 0)) rfl dX5_payableBy_9 ?_
      refine lv_icmp_ge (tgt := 67) hx hb dX5_payableBy_12 (by decide) (fun c_1 => ?_) (fun c_1 => ?_)
      · rw [if_pos c_1] at hf
        refine lv_iload_n hx hb dX5_payableBy_67 rfl (lv_at hl 2 rfl) ?_
        obtain ⟨rfl, rfl⟩ := sp2 hf
        exact kret _ _ _ _ dX5_payableBy_68 hP hS trivial
      rw [if_neg c_1] at hf
      refine lv_aload_n hx hb dX5_payableBy_15 rfl (lv_at hl 0 rfl) ?_
      refine r_get hx hb hts hown hC hP hinX5 0 (by decide) (ci := 4) rfl (by decide) rfl 5 (by decide) (hts (.fieldLink RX5 42 "LoafParts" "makeup" "LLoafParts$Makeup;") (by decide +kernel)) (v := .ref (aD g 52)) rfl dX5_payableBy_16 ?_
      refine lv_aload_n hx hb dX5_payableBy_19 rfl (lv_at hl 0 rfl) ?_
      refine r_get hx hb hts hown hC hP hinX5 0 (by decide) (ci := 4) rfl (by decide) rfl 3 (by decide) (hts (.fieldLink RX5 31 "LoafParts" "table" "LLoafParts$Table;") (by decide +kernel)) (v := .ref (aD g 11)) rfl dX5_payableBy_20 ?_
      refine r_getN hx hb hts hown hC hP hinX4 11 (by decide) (ci := 3) rfl (by decide) rfl 9 (by decide) 7 rfl (v := .ref (aD g 17)) rfl dX5_payableBy_23 ?_
      refine lv_iload_n hx hb dX5_payableBy_26 rfl (lv_at hl 3 rfl) ?_
      obtain ⟨hi_2, hf⟩ := ix_ex hf
      refine r_ald hx hb hC hP 17 (by decide) rfl hi_2 dX5_payableBy_27 ?_
      refine lv_aload_n hx hb dX5_payableBy_28 rfl (lv_at hl 0 rfl) ?_
      refine r_get hx hb hts hown hC hP hinX5 0 (by decide) (ci := 4) rfl (by decide) rfl 3 (by decide) (hts (.fieldLink RX5 31 "LoafParts" "table" "LLoafParts$Table;") (by decide +kernel)) (v := .ref (aD g 11)) rfl dX5_payableBy_29 ?_
      refine lv_iload_n hx hb dX5_payableBy_32 rfl (lv_at hl 3 rfl) ?_
      obtain ⟨q_3, hq_3, hf⟩ := bind_ex hf
      refine r_Vi (As := [.int x3]) (rest := [.int (ui u 17 (x3 : Int32).toNatClampNeg), .ref (aD g 52)]) (k := 11) (ci := 3) ⟨hx, hb, hml, hown, hts⟩ hC hP hS (by decide) rfl (by decide) rfl (c_X4_openTo l g u x3 hq_3) (cwV 1 hts gX5_payableBy_X4_openTo rfl rfl rfl (by decide +kernel) ⟨(Nat.le_trans (Nat.le_of_ble_eq_true rfl) hRf), (Nat.le_trans (Nat.le_of_ble_eq_true rfl) hRl)⟩) rfl hl.1 rfl (Nat.le_of_ble_eq_true rfl) dX5_payableBy_33 (fun H locs hP hS => ?_)
      refine lv_iload_n hx hb dX5_payableBy_36 rfl (lv_at hl 1 rfl) ?_
      refine lv_iand hx hb dX5_payableBy_37 ?_
      obtain ⟨q_4, hq_4, hf⟩ := bind_ex hf
      refine r_Vv (As := [.int (ui u 17 (x3 : Int32).toNatClampNeg), .int (q_3 &&& x1)]) (rest := []) (k := 52) (ci := 0) ⟨hx, hb, hml, hown, hts⟩ hC hP hS (by decide) rfl (by decide) rfl (c_X1_lookFor l g u (ui u 17 (x3 : Int32).toNatClampNeg) (q_3 &&& x1) hq_4) (cwV 2 hts gX5_payableBy_X1_lookFor rfl rfl rfl (by decide +kernel) ⟨(Nat.le_trans (Nat.le_of_ble_eq_true rfl) hRf), (Nat.le_trans (Nat.le_of_ble_eq_true rfl) hRl)⟩) rfl hl.1 rfl (Nat.le_of_ble_eq_true rfl) dX5_payableBy_38 (fun H locs hP hS => ?_)
      refine lv_iload_n hx hb dX5_payableBy_41 rfl (lv_at hl 2 rfl) ?_
      refine lv_aload_n hx hb dX5_payableBy_42 rfl (lv_at hl 0 rfl) ?_
      refine r_get hx hb hts hown hC hP hinX5 0 (by decide) (ci := 4) rfl (by decide) rfl 5 (by decide) (hts (.fieldLink RX5 42 "LoafParts" "makeup" "LLoafParts$Makeup;") (by decide +kernel)) (v := .ref (aD g 52)) rfl dX5_payableBy_43 ?_
      refine r_getN hx hb hts hown hC hP hinX1 52 (by decide) (ci := 0) rfl (by decide) rfl 1 (by decide) 8 rfl (v := .int (ui q_4 52 1)) rfl dX5_payableBy_46 ?_
      refine lv_if_le (tgt := 58) hx hb dX5_payableBy_49 (by decide) (fun c_5 => ?_) (fun c_5 => ?_)
      · rw [if_pos c_5] at hf
        refine lv_iconst (v := (0 : Int32)) hx hb dX5_payableBy_58 (by decide) ?_
        exact w_59 (f_X5_payableBy_4 n) ih x1 x3 (0 : Int32) x2 q_4 _ _ _ hP hS (lv_sub hl [0, 1, 3] rfl) hf
      rw [if_neg c_5] at hf
      refine lv_iconst (v := (1 : Int32)) hx hb dX5_payableBy_52 (by decide) ?_
      refine lv_iload_n hx hb dX5_payableBy_53 rfl (lv_at hl 3 rfl) ?_
      refine lv_ishl hx hb dX5_payableBy_54 ?_
      refine lv_goto (tgt := 59) hx hb dX5_payableBy_55 (by decide) ?_
      exact w_59 (f_X5_payableBy_4 n) ih x1 x3 ((1 : Int32) <<< (x3 &&& (31 : Int32))) x2 q_4 _ _ _ hP hS (lv_sub hl [0, 1, 3] rfl) hf
  unfold f_X5_payableBy at hf
  refine lv_iconst (v := (0 : Int32)) hx hb dX5_payableBy_0 (by decide) ?_
  refine lv_istore_n (lv' := [(2, .int (0 : Int32)), (0, .ref (aD g 0)), (1, .int x1)]) hx hb dX5_payableBy_1 rfl hl (by decide) rfl (fun ls hl => ?_)
  refine lv_iconst (v := (0 : Int32)) hx hb dX5_payableBy_2 (by decide) ?_
  refine lv_istore_n (lv' := [(3, .int (0 : Int32)), (2, .int (0 : Int32)), (0, .ref (aD g 0)), (1, .int x1)]) hx hb dX5_payableBy_3 rfl hl (by decide) rfl (fun ls hl => ?_)
  exact w_4 fu x1 (0 : Int32) (0 : Int32) u _ _ _ hP hS (lv_sub hl [2, 3, 1, 0] rfl) hf