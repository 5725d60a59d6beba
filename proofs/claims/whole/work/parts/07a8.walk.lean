set_option maxHeartbeats 4000000 in
set_option maxRecDepth 100000 in
theorem c_X6_meets (l : Launch) (g : GG) (u : UU) (x1 : Int32) {r : Int32} {u' : UU} (hf : f_X6_meets x1 u = some (r, u')) : Ci l g 55 20 yX6_meets wsX6_meets 0 0 [.ref (aD g 55), .int x1] u r u' := by
  refine ct_i (cc := cX6_meets) (maxL := 2) (by decide) rfl (Nat.le_of_ble_eq_true rfl) ?_
  intro p e s m args below meth c R Q ls hx hb hml hown hts hC hP hl hRf hRl kret hS
  have hown : s.vm.findClass RX6 = some m.cls := hown
  have hl : lv_has ls 2 [(0, .ref (aD g 55)), (1, .int x1)] := hl
  have hinX6 : ∀ w ∈ u_ws RX6 TX6 34, w ∈ wsX6_meets := by decide +kernel
  unfold f_X6_meets at hf
  refine lv_aload_n hx hb dX6_meets_0 rfl (lv_at hl 0 rfl) ?_
  refine lv_iload_n hx hb dX6_meets_1 rfl (lv_at hl 1 rfl) ?_
  obtain ⟨u_1, eu_1, hf⟩ := lt_ex hf
  refine r_puti hx hb hts hown hC hP hS hinX6 tyX6 tyX6_ok nmX6 55 (by decide) (ci := 5) rfl (by decide) rfl 3 (by decide) (hts (.fieldLink RX6 73 "LoafPartsModel" "latest" "I") (by decide +kernel)) rfl (ty := .int) (by decide +kernel) rfl rfl (by decide) (by decide) eu_1 dX6_meets_2 (fun H locs hP hS => ?_)
  refine lv_aload_n hx hb dX6_meets_5 rfl (lv_at hl 0 rfl) ?_
  refine r_get hx hb hts hown hC hP hinX6 55 (by decide) (ci := 5) rfl (by decide) rfl 4 (by decide) (hts (.fieldLink RX6 13 "LoafPartsModel" "came" "[I") (by decide +kernel)) (v := .ref (aD g 56)) rfl dX6_meets_6 ?_
  refine lv_iload_n hx hb dX6_meets_9 rfl (lv_at hl 1 rfl) ?_
  refine lv_dup2_11 hx hb dX6_meets_10 rfl rfl ?_
  obtain ⟨hi_2, hf⟩ := ix_ex hf
  refine r_ald hx hb hC hP 56 (by decide) rfl hi_2 dX6_meets_11 ?_
  refine lv_iconst (v := (1 : Int32)) hx hb dX6_meets_12 (by decide) ?_
  refine lv_iadd hx hb dX6_meets_13 ?_
  obtain ⟨hi_3, hf⟩ := ix_ex hf
  obtain ⟨u_4, eu_4, hf⟩ := lt_ex hf
  refine r_ast hx hb hC hP hS 56 (by decide) rfl hi_3 eu_4 dX6_meets_14 (fun H locs hP hS => ?_)
  refine lv_bipush (v := (-3 : Int32)) hx hb dX6_meets_15 (by decide) ?_
  obtain ⟨rfl, rfl⟩ := sp2 hf
  exact kret _ _ _ _ dX6_meets_17 hP hS trivial
set_option maxHeartbeats 4000000 in
set_option maxRecDepth 100000 in
theorem c_X6_tells (l : Launch) (g : GG) (u : UU) (x1 : Int32) (x2 : Int32) {r : Int32} {u' : UU} (hf : f_X6_tells x1 x2 u = some (r, u')) : Ci l g 55 20 yX6_tells wsX6_tells 0 0 [.ref (aD g 55), .int x1, .int x2] u r u' := by
  refine ct_i (cc := cX6_tells) (maxL := 3) (by decide) rfl (Nat.le_of_ble_eq_true rfl) ?_
  intro p e s m args below meth c R Q ls hx hb hml hown hts hC hP hl hRf hRl kret hS
  have hown : s.vm.findClass RX6 = some m.cls := hown
  have hl : lv_has ls 3 [(0, .ref (aD g 55)), (1, .int x1), (2, .int x2)] := hl
  have hinX6 : ∀ w ∈ u_ws RX6 TX6 34, w ∈ wsX6_tells := by decide +kernel
  unfold f_X6_tells at hf
  refine lv_aload_n hx hb dX6_tells_0 rfl (lv_at hl 0 rfl) ?_
  refine lv_iload_n hx hb dX6_tells_1 rfl (lv_at hl 1 rfl) ?_
  obtain ⟨u_1, eu_1, hf⟩ := lt_ex hf
  refine r_puti hx hb hts hown hC hP hS hinX6 tyX6 tyX6_ok nmX6 55 (by decide) (ci := 5) rfl (by decide) rfl 0 (by decide) (hts (.fieldLink RX6 77 "LoafPartsModel" "told" "I") (by decide +kernel)) rfl (ty := .int) (by decide +kernel) rfl rfl (by decide) (by decide) eu_1 dX6_tells_2 (fun H locs hP hS => ?_)
  refine lv_iload_n hx hb dX6_tells_5 rfl (lv_at hl 2 rfl) ?_
  obtain ⟨rfl, rfl⟩ := sp2 hf
  exact kret _ _ _ _ dX6_tells_6 hP hS trivial
set_option maxHeartbeats 4000000 in
set_option maxRecDepth 100000 in
theorem c_X6_asked (l : Launch) (g : GG) (u : UU) {r : Int32} (hf : f_X6_asked u = some r) : Ci l g 55 20 yX6_asked wsX6_asked 0 0 [.ref (aD g 55)] u r u := by
  refine ct_i (cc := cX6_asked) (maxL := 1) (by decide) rfl (Nat.le_of_ble_eq_true rfl) ?_
  intro p e s m args below meth c R Q ls hx hb hml hown hts hC hP hl hRf hRl kret hS
  have hown : s.vm.findClass RX6 = some m.cls := hown
  have hl : lv_has ls 1 [(0, .ref (aD g 55))] := hl
  have hinX6 : ∀ w ∈ u_ws RX6 TX6 34, w ∈ wsX6_asked := by decide +kernel
  unfold f_X6_asked at hf
  refine lv_aload_n hx hb dX6_asked_0 rfl (lv_at hl 0 rfl) ?_
  refine r_get hx hb hts hown hC hP hinX6 55 (by decide) (ci := 5) rfl (by decide) rfl 0 (by decide) (hts (.fieldLink RX6 77 "LoafPartsModel" "told" "I") (by decide +kernel)) (v := .int (ui u 55 0)) rfl dX6_asked_1 ?_
  obtain rfl := sp1 hf
  exact kret _ _ _ _ dX6_asked_4 hP hS trivial
set_option maxHeartbeats 4000000 in
set_option maxRecDepth 100000 in
theorem c_X6_upper (l : Launch) (g : GG) (u : UU) {r : Int64} (hf : f_X6_upper u = some r) : Cl l g 55 20 yX6_upper wsX6_upper 0 0 [.ref (aD g 55)] u r u := by
  refine ct_l (cc := cX6_upper) (maxL := 1) (by decide) rfl (Nat.le_of_ble_eq_true rfl) ?_
  intro p e s m args below meth c R Q ls hx hb hml hown hts hC hP hl hRf hRl kret hS
  have hown : s.vm.findClass RX6 = some m.cls := hown
  have hl : lv_has ls 1 [(0, .ref (aD g 55))] := hl
  have hinX6 : ∀ w ∈ u_ws RX6 TX6 34, w ∈ wsX6_upper := by decide +kernel
  unfold f_X6_upper at hf
  refine lv_aload_n hx hb dX6_upper_0 rfl (lv_at hl 0 rfl) ?_
  refine r_get hx hb hts hown hC hP hinX6 55 (by decide) (ci := 5) rfl (by decide) rfl 1 (by decide) (hts (.fieldLink RX6 80 "LoafPartsModel" "above" "J") (by decide +kernel)) (v := .long (ul u 55 1)) rfl dX6_upper_1 ?_
  obtain rfl := sp1 hf
  exact kret _ _ _ _ dX6_upper_4 hP hS trivial
set_option maxHeartbeats 4000000 in
set_option maxRecDepth 100000 in
theorem c_X6_lower (l : Launch) (g : GG) (u : UU) {r : Int64} (hf : f_X6_lower u = some r) : Cl l g 55 20 yX6_lower wsX6_lower 0 0 [.ref (aD g 55)] u r u := by
  refine ct_l (cc := cX6_lower) (maxL := 1) (by decide) rfl (Nat.le_of_ble_eq_true rfl) ?_
  intro p e s m args below meth c R Q ls hx hb hml hown hts hC hP hl hRf hRl kret hS
  have hown : s.vm.findClass RX6 = some m.cls := hown
  have hl : lv_has ls 1 [(0, .ref (aD g 55))] := hl
  have hinX6 : ∀ w ∈ u_ws RX6 TX6 34, w ∈ wsX6_lower := by decide +kernel
  unfold f_X6_lower at hf
  refine lv_aload_n hx hb dX6_lower_0 rfl (lv_at hl 0 rfl) ?_
  refine r_get hx hb hts hown hC hP hinX6 55 (by decide) (ci := 5) rfl (by decide) rfl 2 (by decide) (hts (.fieldLink RX6 7 "LoafPartsModel" "below" "J") (by decide +kernel)) (v := .long (ul u 55 2)) rfl dX6_lower_1 ?_
  obtain rfl := sp1 hf
  exact kret _ _ _ _ dX6_lower_4 hP hS trivial
set_option maxHeartbeats 4000000 in
set_option maxRecDepth 100000 in
theorem c_X6_lowest (l : Launch) (g : GG) (u : UU) (x1 : Int64) (x3 : Int64) (x5 : Int32) {r : Int32} {u' : UU} (hf : f_X6_lowest x1 x3 x5 u = some (r, u')) : Ci l g 55 20 yX6_lowest wsX6_lowest 0 0 [.ref (aD g 55), .long x1, .long x3, .int x5] u r u' := by
  refine ct_i (cc := cX6_lowest) (maxL := 12) (by decide) rfl (Nat.le_of_ble_eq_true rfl) ?_
  intro p e s m args below meth c R Q ls hx hb hml hown hts hC hP hl hRf hRl kret hS
  have hown : s.vm.findClass RX6 = some m.cls := hown
  have hl : lv_has ls 12 [(0, .ref (aD g 55)), (1, .long x1), (3, .long x3), (5, .int x5)] := hl
  have hinX6 : ∀ w ∈ u_ws RX6 TX6 34, w ∈ wsX6_lowest := by decide +kernel
  have w_6 : ∀ (n : Nat), ∀ (x1 : Int64) (x3 : Int64) (x5 : Int32) (x6 : Int64) (x8 : Int64) (u : UU) (H : Heap) (locs : List Loc) (ls : Array Slot), Ps g 55 20 u H → va_S (aA g) s.heap H locs → lv_has ls 12 [(0, .ref (aD g 55)), (1, .long x1), (3, .long x3), (5, .int x5), (6, .long x6), (8, .long x8)] → f_X6_lowest_6 n x1 x3 x5 x6 x8 u = some (r, u') → W p l e R s m args below meth c H locs 0 0 Q (F0 m 6 ls []) := by
    intro n
    induction n with
    | zero =>
      intro x1 x3 x5 x6 x8 u H locs ls hP hS hl hf
      rw [f_X6_lowest_6] at hf
      cases hf
    | succ n ih =>
      intro x1 x3 x5 x6 x8 u H locs ls hP hS hl hf
      rw [f_X6_lowest_6] at hf
      refine lv_lload hx hb dX6_lowest_6 (lv_at hl 5 rfl) ?_
      refine lv_lconst (v := (0 : Int64)) hx hb dX6_lowest_8 (by decide) ?_
      refine W.lcmp hx hb dX6_lowest_9 ?_
      refine lv_if_eq (tgt := 31) hx hb dX6_lowest_10 (by decide) (fun c_1 => ?_) (fun c_1 => ?_)
      · rw [if_pos c_1] at hf
        refine lv_aload_n hx hb dX6_lowest_31 rfl (lv_at hl 0 rfl) ?_
        refine lv_lload_n hx hb dX6_lowest_32 rfl (lv_at hl 1 rfl) ?_
        refine lv_lload hx hb dX6_lowest_33 (lv_at hl 4 rfl) ?_
        obtain ⟨hz_2, hf⟩ := nzl_ex hf
        refine lv_ldiv hx hb dX6_lowest_35 hz_2 ?_
        obtain ⟨u_3, eu_3, hf⟩ := lt_ex hf
        refine r_putl hx hb hts hown hC hP hS hinX6 tyX6 tyX6_ok nmX6 55 (by decide) (ci := 5) rfl (by decide) rfl 1 (by decide) (hts (.fieldLink RX6 80 "LoafPartsModel" "above" "J") (by decide +kernel)) rfl (by decide +kernel) (by decide) (by decide) eu_3 dX6_lowest_36 (fun H locs hP hS => ?_)
        refine lv_aload_n hx hb dX6_lowest_39 rfl (lv_at hl 0 rfl) ?_
        refine lv_lload_n hx hb dX6_lowest_40 rfl (lv_at hl 2 rfl) ?_
        refine lv_lload hx hb dX6_lowest_41 (lv_at hl 4 rfl) ?_
        obtain ⟨hz_4, hf⟩ := nzl_ex hf
        refine lv_ldiv hx hb dX6_lowest_43 hz_4 ?_
        obtain ⟨u_5, eu_5, hf⟩ := lt_ex hf
        refine r_putl hx hb hts hown hC hP hS hinX6 tyX6 tyX6_ok nmX6 55 (by decide) (ci := 5) rfl (by decide) rfl 2 (by decide) (hts (.fieldLink RX6 7 "LoafPartsModel" "below" "J") (by decide +kernel)) rfl (by decide +kernel) (by decide) (by decide) eu_5 dX6_lowest_44 (fun H locs hP hS => ?_)
        refine lv_iload hx hb dX6_lowest_47 (lv_at hl 3 rfl) ?_
        obtain ⟨rfl, rfl⟩ := sp2 hf
        exact kret _ _ _ _ dX6_lowest_49 hP hS trivial
      rw [if_neg c_1] at hf
      refine lv_lload hx hb dX6_lowest_13 (lv_at hl 4 rfl) ?_
      refine lv_lload hx hb dX6_lowest_15 (lv_at hl 5 rfl) ?_
      obtain ⟨hz_6, hf⟩ := nzl_ex hf
      refine lv_lrem hx hb dX6_lowest_17 hz_6 ?_
      obtain ⟨x10_7, ex10_7, hf⟩ := lt_ex hf
      refine r_nml ex10_7 ?_
      refine lv_lstore (lv' := [(10, .long x10_7), (0, .ref (aD g 55)), (1, .long x1), (3, .long x3), (5, .int x5), (6, .long x6), (8, .long x8)]) hx hb dX6_lowest_18 hl (by decide) rfl (fun ls hl => ?_)
      refine lv_lload hx hb dX6_lowest_20 (lv_at hl 6 rfl) ?_
      refine lv_lstore (lv' := [(6, .long x8), (10, .long x10_7), (0, .ref (aD g 55)), (1, .long x1), (3, .long x3), (5, .int x5), (8, .long x8)]) hx hb dX6_lowest_22 hl (by decide) rfl (fun ls hl => ?_)
      refine lv_lload hx hb dX6_lowest_24 (lv_at hl 1 rfl) ?_
      refine lv_lstore (lv' := [(8, .long x10_7), (6, .long x8), (10, .long x10_7), (0, .ref (aD g 55)), (1, .long x1), (3, .long x3), (5, .int x5)]) hx hb dX6_lowest_26 hl (by decide) rfl (fun ls hl => ?_)
      refine lv_goto (tgt := 6) hx hb dX6_lowest_28 (by decide) ?_
      exact ih x1 x3 x5 x8 x10_7 u _ _ _ hP hS (lv_sub hl [3, 4, 5, 6, 1, 0] rfl) hf
  unfold f_X6_lowest at hf
  refine lv_lload_n hx hb dX6_lowest_0 rfl (lv_at hl 1 rfl) ?_
  refine lv_lstore (lv' := [(6, .long x1), (0, .ref (aD g 55)), (1, .long x1), (3, .long x3), (5, .int x5)]) hx hb dX6_lowest_1 hl (by decide) rfl (fun ls hl => ?_)
  refine lv_lload_n hx hb dX6_lowest_3 rfl (lv_at hl 3 rfl) ?_
  refine lv_lstore (lv' := [(8, .long x3), (6, .long x1), (0, .ref (aD g 55)), (1, .long x1), (3, .long x3), (5, .int x5)]) hx hb dX6_lowest_4 hl (by decide) rfl (fun ls hl => ?_)
  exact w_6 fu x1 x3 x5 x1 x3 u _ _ _ hP hS (lv_sub hl [2, 3, 4, 5, 1, 0] rfl) hf
set_option maxHeartbeats 4000000 in
set_option maxRecDepth 100000 in
theorem c_X6_finding (l : Launch) (g : GG) (u : UU) {r : Int32} (hf : f_X6_finding u = some r) : Ci l g 55 20 yX6_finding wsX6_finding 0 0 [.ref (aD g 55)] u r u := by
  refine ct_i (cc := cX6_finding) (maxL := 1) (by decide) rfl (Nat.le_of_ble_eq_true rfl) ?_
  intro p e s m args below meth c R Q ls hx hb hml hown hts hC hP hl hRf hRl kret hS
  have hown : s.vm.findClass RX6 = some m.cls := hown
  have hl : lv_has ls 1 [(0, .ref (aD g 55))] := hl
  have hinX6 : ∀ w ∈ u_ws RX6 TX6 34, w ∈ wsX6_finding := by decide +kernel
  unfold f_X6_finding at hf
  refine lv_aload_n hx hb dX6_finding_0 rfl (lv_at hl 0 rfl) ?_
  refine r_get hx hb hts hown hC hP hinX6 55 (by decide) (ci := 5) rfl (by decide) rfl 3 (by decide) (hts (.fieldLink RX6 73 "LoafPartsModel" "latest" "I") (by decide +kernel)) (v := .int (ui u 55 3)) rfl dX6_finding_1 ?_
  obtain rfl := sp1 hf
  exact kret _ _ _ _ dX6_finding_4 hP hS trivial
set_option maxHeartbeats 4000000 in
set_option maxRecDepth 100000 in
theorem c_X6_findings (l : Launch) (g : GG) (u : UU) (x1 : Int32) {r : Int32} (hf : f_X6_findings x1 u = some r) : Ci l g 55 20 yX6_findings wsX6_findings 1 22 [.ref (aD g 55), .int x1] u r u := by
  refine ct_i (cc := cX6_findings) (maxL := 2) (by decide) rfl (Nat.le_of_ble_eq_true rfl) ?_
  intro p e s m args below meth c R Q ls hx hb hml hown hts hC hP hl hRf hRl kret hS
  have hown : s.vm.findClass RX6 = some m.cls := hown
  have hl : lv_has ls 2 [(0, .ref (aD g 55)), (1, .int x1)] := hl
  have hinX6 : ∀ w ∈ u_ws RX6 TX6 34, w ∈ wsX6_findings := by decide +kernel
  unfold f_X6_findings at hf
  refine lv_iload_n hx hb dX6_findings_0 rfl (lv_at hl 1 rfl) ?_
  refine lv_iconst (v := (1 : Int32)) hx hb dX6_findings_1 (by decide) ?_
  refine lv_iconst (v := (5 : Int32)) hx hb dX6_findings_2 (by decide) ?_
  refine r_Si (As := [.int x1, .int (1 : Int32), .int (5 : Int32)]) (rest := []) ⟨hx, hb, hml, hown, hts⟩ hC hP hS (c_X6_in l g u x1 (1 : Int32) (5 : Int32) rfl) (va_cwS 3 hts gX6_findings_X6_in rfl rfl rfl (by decide +kernel) ⟨(Nat.le_trans (Nat.le_of_ble_eq_true rfl) hRf), (Nat.le_trans (Nat.le_of_ble_eq_true rfl) hRl)⟩) rfl hl.1 rfl (Nat.le_of_ble_eq_true rfl) dX6_findings_3 (fun H locs hP hS => ?_)
  refine lv_if_eq (tgt := 18) hx hb dX6_findings_6 (by decide) (fun c_1 => ?_) (fun c_1 => ?_)
  · rw [if_pos c_1] at hf
    refine lv_iconst (v := (-1 : Int32)) hx hb dX6_findings_18 (by decide) ?_
    obtain rfl := sp1 hf
    exact kret _ _ _ _ dX6_findings_19 hP hS trivial
  rw [if_neg c_1] at hf
  refine lv_aload_n hx hb dX6_findings_9 rfl (lv_at hl 0 rfl) ?_
  refine r_get hx hb hts hown hC hP hinX6 55 (by decide) (ci := 5) rfl (by decide) rfl 4 (by decide) (hts (.fieldLink RX6 13 "LoafPartsModel" "came" "[I") (by decide +kernel)) (v := .ref (aD g 56)) rfl dX6_findings_10 ?_
  refine lv_iload_n hx hb dX6_findings_13 rfl (lv_at hl 1 rfl) ?_
  obtain ⟨hi_2, hf⟩ := ix_ex hf
  refine r_ald hx hb hC hP 56 (by decide) rfl hi_2 dX6_findings_14 ?_
  refine lv_goto (tgt := 19) hx hb dX6_findings_15 (by decide) ?_
  obtain rfl := sp1 hf
  exact kret _ _ _ _ dX6_findings_19 hP hS trivial
set_option maxHeartbeats 4000000 in
set_option maxRecDepth 100000 in
theorem c_X6_isRow (l : Launch) (g : GG) (u : UU) (x0 : Int32) {r : Int32} (hf : f_X6_isRow x0 = r) : Ci l g 55 20 yX6_isRow wsX6_isRow 1 22 [.int x0] u r u := by
  refine ct_z (cc := cX6_isRow) (maxL := 1) (by decide) rfl (Nat.le_of_ble_eq_true rfl) ?_
  intro p e s m args below meth c R Q ls hx hb hml hown hts hC hP hl hRf hRl kret hS
  have hown : s.vm.findClass RX6 = some m.cls := hown
  have hl : lv_has ls 1 [(0, .int x0)] := hl
  unfold f_X6_isRow at hf
  refine lv_iload_n hx hb dX6_isRow_0 rfl (lv_at hl 0 rfl) ?_
  refine lv_iconst (v := (0 : Int32)) hx hb dX6_isRow_1 (by decide) ?_
  refine lv_iconst (v := (5 : Int32)) hx hb dX6_isRow_2 (by decide) ?_
  refine r_Si (As := [.int x0, .int (0 : Int32), .int (5 : Int32)]) (rest := []) ⟨hx, hb, hml, hown, hts⟩ hC hP hS (c_X6_in l g u x0 (0 : Int32) (5 : Int32) rfl) (va_cwS 3 hts gX6_isRow_X6_in rfl rfl rfl (by decide +kernel) ⟨(Nat.le_trans (Nat.le_of_ble_eq_true rfl) hRf), (Nat.le_trans (Nat.le_of_ble_eq_true rfl) hRl)⟩) rfl hl.1 rfl (Nat.le_of_ble_eq_true rfl) dX6_isRow_3 (fun H locs hP hS => ?_)
  obtain rfl := hf
  exact kret _ _ _ _ dX6_isRow_6 hP hS (z_X6_in x0 (0 : Int32) (5 : Int32)).1
set_option maxHeartbeats 4000000 in
set_option maxRecDepth 100000 in
theorem c_X6_rowAt (l : Launch) (g : GG) (u : UU) (x1 : Int32) (x2 : Int32) {r : Int32} (hf : f_X6_rowAt x1 x2 u = some r) : Ci l g 55 20 yX6_rowAt wsX6_rowAt 0 0 [.ref (aD g 55), .int x1, .int x2] u r u := by
  refine ct_i (cc := cX6_rowAt) (maxL := 3) (by decide) rfl (Nat.le_of_ble_eq_true rfl) ?_
  intro p e s m args below meth c R Q ls hx hb hml hown hts hC hP hl hRf hRl kret hS
  have hown : s.vm.findClass RX6 = some m.cls := hown
  have hl : lv_has ls 3 [(0, .ref (aD g 55)), (1, .int x1), (2, .int x2)] := hl
  have hinX6 : ∀ w ∈ u_ws RX6 TX6 34, w ∈ wsX6_rowAt := by decide +kernel
  unfold f_X6_rowAt at hf
  refine lv_aload_n hx hb dX6_rowAt_0 rfl (lv_at hl 0 rfl) ?_
  refine r_get hx hb hts hown hC hP hinX6 55 (by decide) (ci := 5) rfl (by decide) rfl 6 (by decide) (hts (.fieldLink RX6 20 "LoafPartsModel" "rows" "[I") (by decide +kernel)) (v := .ref (aD g 58)) rfl dX6_rowAt_1 ?_
  refine lv_bipush (v := (40 : Int32)) hx hb dX6_rowAt_4 (by decide) ?_
  refine lv_iload_n hx hb dX6_rowAt_6 rfl (lv_at hl 1 rfl) ?_
  refine lv_imul hx hb dX6_rowAt_7 ?_
  refine lv_iload_n hx hb dX6_rowAt_8 rfl (lv_at hl 2 rfl) ?_
  refine lv_iadd hx hb dX6_rowAt_9 ?_
  obtain ⟨hi_1, hf⟩ := ix_ex hf
  refine r_ald hx hb hC hP 58 (by decide) rfl hi_1 dX6_rowAt_10 ?_
  obtain rfl := sp1 hf
  exact kret _ _ _ _ dX6_rowAt_11 hP hS trivial
set_option maxHeartbeats 4000000 in
set_option maxRecDepth 100000 in
theorem c_X6_row (l : Launch) (g : GG) (u : UU) (x1 : Int32) (x2 : Int32) {r : Int32} {u' : UU} (hf : f_X6_row x1 x2 u = some (r, u')) : Ci l g 55 20 yX6_row wsX6_row 2 42 [.ref (aD g 55), .int x1, .int x2] u r u' := by
  refine ct_i (cc := cX6_row) (maxL := 4) (by decide) rfl (Nat.le_of_ble_eq_true rfl) ?_
  intro p e s m args below meth c R Q ls hx hb hml hown hts hC hP hl hRf hRl kret hS
  have hown : s.vm.findClass RX6 = some m.cls := hown
  have hl : lv_has ls 4 [(0, .ref (aD g 55)), (1, .int x1), (2, .int x2)] := hl
  have hinX6 : ∀ w ∈ u_ws RX6 TX6 34, w ∈ wsX6_row := by decide +kernel
  have w_34 : ∀ (n : Nat), ∀ (x1 : Int32) (x2 : Int32) (x3 : Int32) (u : UU) (H : Heap) (locs : List Loc) (ls : Array Slot), Ps g 55 20 u H → va_S (aA g) s.heap H locs → lv_has ls 4 [(0, .ref (aD g 55)), (1, .int x1), (2, .int x2), (3, .int x3)] → f_X6_row_34 n x1 x2 x3 u = some (r, u') → W p l e R s m args below meth c H locs 0 0 Q (F0 m 34 ls []) := by
    intro n
    induction n with
    | zero =>
      intro x1 x2 x3 u H locs ls hP hS hl hf
      rw [f_X6_row_34] at hf
      cases hf
    | succ n ih =>
      intro x1 x2 x3 u H locs ls hP hS hl hf
      rw [f_X6_row_34] at hf
      refine lv_iload_n hx hb dX6_row_34 rfl (lv_at hl 3 rfl) ?_
      refine lv_bipush (v := (40 : Int32)) hx hb dX6_row_35 (by decide) ?_
      refine lv_icmp_ge (tgt := 58) hx hb dX6_row_37 (by decide) (fun c_6 => ?_) (fun c_6 => ?_)
      · rw [if_pos c_6] at hf
        refine lv_iload_n hx hb dX6_row_58 rfl (lv_at hl 2 rfl) ?_
        obtain ⟨rfl, rfl⟩ := sp2 hf
        exact kret _ _ _ _ dX6_row_59 hP hS trivial
      rw [if_neg c_6] at hf
      refine lv_aload_n hx hb dX6_row_40 rfl (lv_at hl 0 rfl) ?_
      refine r_get hx hb hts hown hC hP hinX6 55 (by decide) (ci := 5) rfl (by decide) rfl 6 (by decide) (hts (.fieldLink RX6 20 "LoafPartsModel" "rows" "[I") (by decide +kernel)) (v := .ref (aD g 58)) rfl dX6_row_41 ?_
      refine lv_bipush (v := (40 : Int32)) hx hb dX6_row_44 (by decide) ?_
      refine lv_iload_n hx hb dX6_row_46 rfl (lv_at hl 1 rfl) ?_
      refine lv_imul hx hb dX6_row_47 ?_
      refine lv_iload_n hx hb dX6_row_48 rfl (lv_at hl 3 rfl) ?_
      refine lv_iadd hx hb dX6_row_49 ?_
      refine lv_iconst (v := (0 : Int32)) hx hb dX6_row_50 (by decide) ?_
      obtain ⟨hi_7, hf⟩ := ix_ex hf
      obtain ⟨u_8, eu_8, hf⟩ := lt_ex hf
      refine r_ast hx hb hC hP hS 58 (by decide) rfl hi_7 eu_8 dX6_row_51 (fun H locs hP hS => ?_)
      obtain ⟨x3_9, ex3_9, hf⟩ := lt_ex hf
      refine lv_iinc (v := x3_9) (lv' := [(3, .int x3_9), (0, .ref (aD g 55)), (1, .int x1), (2, .int x2)]) hx hb dX6_row_52 hl (k := 3) rfl (by rw [ex3_9]; rfl) (by decide) rfl (fun ls hl => ?_)
      refine lv_goto (tgt := 34) hx hb dX6_row_55 (by decide) ?_
      exact ih x1 x2 x3_9 u_8 _ _ _ hP hS (lv_sub hl [1, 2, 3, 0] rfl) hf
  unfold f_X6_row at hf
  refine lv_iload_n hx hb dX6_row_0 rfl (lv_at hl 1 rfl) ?_
  refine r_Si (As := [.int x1]) (rest := []) ⟨hx, hb, hml, hown, hts⟩ hC hP hS (c_X6_isRow l g u x1 rfl) (va_cwS 1 hts gX6_row_X6_isRow rfl rfl rfl (by decide +kernel) ⟨(Nat.le_trans (Nat.le_of_ble_eq_true rfl) hRf), (Nat.le_trans (Nat.le_of_ble_eq_true rfl) hRl)⟩) rfl hl.1 rfl (Nat.le_of_ble_eq_true rfl) dX6_row_1 (fun H locs hP hS => ?_)
  refine lv_if_eq (tgt := 13) hx hb dX6_row_4 (by decide) (fun c_1 => ?_) (fun c_1 => ?_)
  · rw [if_pos c_1] at hf
    refine lv_iconst (v := (-1 : Int32)) hx hb dX6_row_13 (by decide) ?_
    obtain ⟨rfl, rfl⟩ := sp2 hf
    exact kret _ _ _ _ dX6_row_14 hP hS trivial
  rw [if_neg c_1] at hf
  refine lv_iload_n hx hb dX6_row_7 rfl (lv_at hl 2 rfl) ?_
  refine lv_bipush (v := (40 : Int32)) hx hb dX6_row_8 (by decide) ?_
  refine lv_icmp_le (tgt := 15) hx hb dX6_row_10 (by decide) (fun c_2 => ?_) (fun c_2 => ?_)
  · rw [if_pos c_2] at hf
    refine lv_iload_n hx hb dX6_row_15 rfl (lv_at hl 2 rfl) ?_
    refine lv_if_ge (tgt := 25) hx hb dX6_row_16 (by decide) (fun c_3 => ?_) (fun c_3 => ?_)
    · rw [if_pos c_3] at hf
      refine lv_aload_n hx hb dX6_row_25 rfl (lv_at hl 0 rfl) ?_
      refine r_get hx hb hts hown hC hP hinX6 55 (by decide) (ci := 5) rfl (by decide) rfl 5 (by decide) (hts (.fieldLink RX6 17 "LoafPartsModel" "sizes" "[I") (by decide +kernel)) (v := .ref (aD g 57)) rfl dX6_row_26 ?_
      refine lv_iload_n hx hb dX6_row_29 rfl (lv_at hl 1 rfl) ?_
      refine lv_iload_n hx hb dX6_row_30 rfl (lv_at hl 2 rfl) ?_
      obtain ⟨hi_4, hf⟩ := ix_ex hf
      obtain ⟨u_5, eu_5, hf⟩ := lt_ex hf
      refine r_ast hx hb hC hP hS 57 (by decide) rfl hi_4 eu_5 dX6_row_31 (fun H locs hP hS => ?_)
      refine lv_iconst (v := (0 : Int32)) hx hb dX6_row_32 (by decide) ?_
      refine lv_istore_n (lv' := [(3, .int (0 : Int32)), (0, .ref (aD g 55)), (1, .int x1), (2, .int x2)]) hx hb dX6_row_33 rfl hl (by decide) rfl (fun ls hl => ?_)
      exact w_34 fu x1 x2 (0 : Int32) u_5 _ _ _ hP hS (lv_sub hl [1, 2, 3, 0] rfl) hf
    rw [if_neg c_3] at hf
    refine lv_aload_n hx hb dX6_row_19 rfl (lv_at hl 0 rfl) ?_
    refine lv_iconst (v := (5 : Int32)) hx hb dX6_row_20 (by decide) ?_
    obtain ⟨q_10, hq_10, hf⟩ := bind_ex hf
    refine r_Vi (r := q_10.1) (u' := q_10.2) (As := [.int (5 : Int32)]) (rest := []) (k := 55) (ci := 5) ⟨hx, hb, hml, hown, hts⟩ hC hP hS (by decide) rfl (by decide) rfl (c_X6_meets l g u (5 : Int32) hq_10) (cwV 1 hts gX6_row_X6_meets rfl rfl rfl (by decide +kernel) ⟨(Nat.le_trans (Nat.le_of_ble_eq_true rfl) hRf), (Nat.le_trans (Nat.le_of_ble_eq_true rfl) hRl)⟩) rfl hl.1 rfl (Nat.le_of_ble_eq_true rfl) dX6_row_21 (fun H locs hP hS => ?_)
    obtain ⟨rfl, rfl⟩ := sp2 hf
    exact kret _ _ _ _ dX6_row_24 hP hS trivial
  rw [if_neg c_2] at hf
  refine lv_iconst (v := (-1 : Int32)) hx hb dX6_row_13 (by decide) ?_
  obtain ⟨rfl, rfl⟩ := sp2 hf
  exact kret _ _ _ _ dX6_row_14 hP hS trivial
set_option maxHeartbeats 4000000 in
set_option maxRecDepth 100000 in
theorem c_X6_lay (l : Launch) (g : GG) (u : UU) (x1 : Int32) (x2 : Int32) (x3 : Int32) {r : Int32} {u' : UU} (hf : f_X6_lay x1 x2 x3 u = some (r, u')) : Ci l g 55 20 yX6_lay wsX6_lay 2 42 [.ref (aD g 55), .int x1, .int x2, .int x3] u r u' := by
  refine ct_i (cc := cX6_lay) (maxL := 5) (by decide) rfl (Nat.le_of_ble_eq_true rfl) ?_
  intro p e s m args below meth c R Q ls hx hb hml hown hts hC hP hl hRf hRl kret hS
  have hown : s.vm.findClass RX6 = some m.cls := hown
  have hl : lv_has ls 5 [(0, .ref (aD g 55)), (1, .int x1), (2, .int x2), (3, .int x3)] := hl
  have hinX6 : ∀ w ∈ u_ws RX6 TX6 34, w ∈ wsX6_lay := by decide +kernel
  unfold f_X6_lay at hf
  refine lv_iload_n hx hb dX6_lay_0 rfl (lv_at hl 1 rfl) ?_
  refine r_Si (As := [.int x1]) (rest := []) ⟨hx, hb, hml, hown, hts⟩ hC hP hS (c_X6_isRow l g u x1 rfl) (va_cwS 1 hts gX6_lay_X6_isRow rfl rfl rfl (by decide +kernel) ⟨(Nat.le_trans (Nat.le_of_ble_eq_true rfl) hRf), (Nat.le_trans (Nat.le_of_ble_eq_true rfl) hRl)⟩) rfl hl.1 rfl (Nat.le_of_ble_eq_true rfl) dX6_lay_1 (fun H locs hP hS => ?_)
  refine lv_if_ne (tgt := 9) hx hb dX6_lay_4 (by decide) (fun c_1 => ?_) (fun c_1 => ?_)
  · rw [if_neg c_1] at hf
    refine lv_aload_n hx hb dX6_lay_9 rfl (lv_at hl 0 rfl) ?_
    refine r_get hx hb hts hown hC hP hinX6 55 (by decide) (ci := 5) rfl (by decide) rfl 5 (by decide) (hts (.fieldLink RX6 17 "LoafPartsModel" "sizes" "[I") (by decide +kernel)) (v := .ref (aD g 57)) rfl dX6_lay_10 ?_
    refine lv_iload_n hx hb dX6_lay_13 rfl (lv_at hl 1 rfl) ?_
    obtain ⟨hi_2, hf⟩ := ix_ex hf
    refine r_ald hx hb hC hP 57 (by decide) rfl hi_2 dX6_lay_14 ?_
    refine lv_if_ge (tgt := 24) hx hb dX6_lay_15 (by decide) (fun c_3 => ?_) (fun c_3 => ?_)
    · rw [if_pos c_3] at hf
      refine lv_iload_n hx hb dX6_lay_24 rfl (lv_at hl 2 rfl) ?_
      refine lv_iconst (v := (0 : Int32)) hx hb dX6_lay_25 (by decide) ?_
      refine lv_aload_n hx hb dX6_lay_26 rfl (lv_at hl 0 rfl) ?_
      refine r_get hx hb hts hown hC hP hinX6 55 (by decide) (ci := 5) rfl (by decide) rfl 5 (by decide) (hts (.fieldLink RX6 17 "LoafPartsModel" "sizes" "[I") (by decide +kernel)) (v := .ref (aD g 57)) rfl dX6_lay_27 ?_
      refine lv_iload_n hx hb dX6_lay_30 rfl (lv_at hl 1 rfl) ?_
      obtain ⟨hi_4, hf⟩ := ix_ex hf
      refine r_ald hx hb hC hP 57 (by decide) rfl hi_4 dX6_lay_31 ?_
      refine lv_iconst (v := (1 : Int32)) hx hb dX6_lay_32 (by decide) ?_
      refine lv_isub hx hb dX6_lay_33 ?_
      refine r_Si (As := [.int x2, .int (0 : Int32), .int ((ui u 57 (x1 : Int32).toNatClampNeg) - (1 : Int32))]) (rest := []) ⟨hx, hb, hml, hown, hts⟩ hC hP hS (c_X6_in l g u x2 (0 : Int32) ((ui u 57 (x1 : Int32).toNatClampNeg) - (1 : Int32)) rfl) (va_cwS 3 hts gX6_lay_X6_in rfl rfl rfl (by decide +kernel) ⟨(Nat.le_trans (Nat.le_of_ble_eq_true rfl) hRf), (Nat.le_trans (Nat.le_of_ble_eq_true rfl) hRl)⟩) rfl hl.1 rfl (Nat.le_of_ble_eq_true rfl) dX6_lay_34 (fun H locs hP hS => ?_)
      refine lv_if_ne (tgt := 46) hx hb dX6_lay_37 (by decide) (fun c_5 => ?_) (fun c_5 => ?_)
      · rw [if_neg c_5] at hf
        refine lv_aload_n hx hb dX6_lay_46 rfl (lv_at hl 0 rfl) ?_
        refine lv_iload_n hx hb dX6_lay_47 rfl (lv_at hl 1 rfl) ?_
        refine lv_iload_n hx hb dX6_lay_48 rfl (lv_at hl 2 rfl) ?_
        obtain ⟨q_6, hq_6, hf⟩ := bind_ex hf
        refine r_Vi (As := [.int x1, .int x2]) (rest := []) (k := 55) (ci := 5) ⟨hx, hb, hml, hown, hts⟩ hC hP hS (by decide) rfl (by decide) rfl (c_X6_rowAt l g u x1 x2 hq_6) (cwV 2 hts gX6_lay_X6_rowAt rfl rfl rfl (by decide +kernel) ⟨(Nat.le_trans (Nat.le_of_ble_eq_true rfl) hRf), (Nat.le_trans (Nat.le_of_ble_eq_true rfl) hRl)⟩) rfl hl.1 rfl (Nat.le_of_ble_eq_true rfl) dX6_lay_49 (fun H locs hP hS => ?_)
        refine lv_istore (lv' := [(4, .int q_6), (0, .ref (aD g 55)), (1, .int x1), (2, .int x2), (3, .int x3)]) hx hb dX6_lay_52 hl (by decide) rfl (fun ls hl => ?_)
        refine lv_aload_n hx hb dX6_lay_54 rfl (lv_at hl 1 rfl) ?_
        refine r_get hx hb hts hown hC hP hinX6 55 (by decide) (ci := 5) rfl (by decide) rfl 6 (by decide) (hts (.fieldLink RX6 20 "LoafPartsModel" "rows" "[I") (by decide +kernel)) (v := .ref (aD g 58)) rfl dX6_lay_55 ?_
        refine lv_bipush (v := (40 : Int32)) hx hb dX6_lay_58 (by decide) ?_
        refine lv_iload_n hx hb dX6_lay_60 rfl (lv_at hl 2 rfl) ?_
        refine lv_imul hx hb dX6_lay_61 ?_
        refine lv_iload_n hx hb dX6_lay_62 rfl (lv_at hl 3 rfl) ?_
        refine lv_iadd hx hb dX6_lay_63 ?_
        refine lv_iload_n hx hb dX6_lay_64 rfl (lv_at hl 4 rfl) ?_
        obtain ⟨hi_7, hf⟩ := ix_ex hf
        obtain ⟨u_8, eu_8, hf⟩ := lt_ex hf
        refine r_ast hx hb hC hP hS 58 (by decide) rfl hi_7 eu_8 dX6_lay_65 (fun H locs hP hS => ?_)
        refine lv_aload_n hx hb dX6_lay_66 rfl (lv_at hl 1 rfl) ?_
        refine lv_iload hx hb dX6_lay_67 (lv_at hl 0 rfl) ?_
        refine lv_iconst (v := (1 : Int32)) hx hb dX6_lay_69 (by decide) ?_
        obtain ⟨q_9, hq_9, hf⟩ := bind_ex hf
        refine r_Vi (r := q_9.1) (u' := q_9.2) (As := [.int q_6, .int (1 : Int32)]) (rest := []) (k := 55) (ci := 5) ⟨hx, hb, hml, hown, hts⟩ hC hP hS (by decide) rfl (by decide) rfl (c_X6_tells l g u_8 q_6 (1 : Int32) hq_9) (cwV 2 hts gX6_lay_X6_tells rfl rfl rfl (by decide +kernel) ⟨(Nat.le_trans (Nat.le_of_ble_eq_true rfl) hRf), (Nat.le_trans (Nat.le_of_ble_eq_true rfl) hRl)⟩) rfl hl.1 rfl (Nat.le_of_ble_eq_true rfl) dX6_lay_70 (fun H locs hP hS => ?_)
        obtain ⟨rfl, rfl⟩ := sp2 hf
        exact kret _ _ _ _ dX6_lay_73 hP hS trivial
      rw [if_pos c_5] at hf
      refine lv_aload_n hx hb dX6_lay_40 rfl (lv_at hl 0 rfl) ?_
      refine lv_iconst (v := (2 : Int32)) hx hb dX6_lay_41 (by decide) ?_
      obtain ⟨q_10, hq_10, hf⟩ := bind_ex hf
      refine r_Vi (r := q_10.1) (u' := q_10.2) (As := [.int (2 : Int32)]) (rest := []) (k := 55) (ci := 5) ⟨hx, hb, hml, hown, hts⟩ hC hP hS (by decide) rfl (by decide) rfl (c_X6_meets l g u (2 : Int32) hq_10) (cwV 1 hts gX6_lay_X6_meets rfl rfl rfl (by decide +kernel) ⟨(Nat.le_trans (Nat.le_of_ble_eq_true rfl) hRf), (Nat.le_trans (Nat.le_of_ble_eq_true rfl) hRl)⟩) rfl hl.1 rfl (Nat.le_of_ble_eq_true rfl) dX6_lay_42 (fun H locs hP hS => ?_)
      obtain ⟨rfl, rfl⟩ := sp2 hf
      exact kret _ _ _ _ dX6_lay_45 hP hS trivial
    rw [if_neg c_3] at hf
    refine lv_aload_n hx hb dX6_lay_18 rfl (lv_at hl 0 rfl) ?_
    refine lv_iconst (v := (1 : Int32)) hx hb dX6_lay_19 (by decide) ?_
    obtain ⟨q_11, hq_11, hf⟩ := bind_ex hf
    refine r_Vi (r := q_11.1) (u' := q_11.2) (As := [.int (1 : Int32)]) (rest := []) (k := 55) (ci := 5) ⟨hx, hb, hml, hown, hts⟩ hC hP hS (by decide) rfl (by decide) rfl (c_X6_meets l g u (1 : Int32) hq_11) (cwV 1 hts gX6_lay_X6_meets rfl rfl rfl (by decide +kernel) ⟨(Nat.le_trans (Nat.le_of_ble_eq_true rfl) hRf), (Nat.le_trans (Nat.le_of_ble_eq_true rfl) hRl)⟩) rfl hl.1 rfl (Nat.le_of_ble_eq_true rfl) dX6_lay_20 (fun H locs hP hS => ?_)
    obtain ⟨rfl, rfl⟩ := sp2 hf
    exact kret _ _ _ _ dX6_lay_23 hP hS trivial
  rw [if_pos c_1] at hf
  refine lv_iconst (v := (-1 : Int32)) hx hb dX6_lay_7 (by decide) ?_
  obtain ⟨rfl, rfl⟩ := sp2 hf
  exact kret _ _ _ _ dX6_lay_8 hP hS trivial
set_option maxHeartbeats 4000000 in
set_option maxRecDepth 100000 in
theorem c_X6_at (l : Launch) (g : GG) (u : UU) (x1 : Int32) (x2 : Int32) {r : Int32} {u' : UU} (hf : f_X6_at x1 x2 u = some (r, u')) : Ci l g 55 20 yX6_at wsX6_at 2 42 [.ref (aD g 55), .int x1, .int x2] u r u' := by
  refine ct_i (cc := cX6_at) (maxL := 3) (by decide) rfl (Nat.le_of_ble_eq_true rfl) ?_
  intro p e s m args below meth c R Q ls hx hb hml hown hts hC hP hl hRf hRl kret hS
  have hown : s.vm.findClass RX6 = some m.cls := hown
  have hl : lv_has ls 3 [(0, .ref (aD g 55)), (1, .int x1), (2, .int x2)] := hl
  have hinX6 : ∀ w ∈ u_ws RX6 TX6 34, w ∈ wsX6_at := by decide +kernel
  unfold f_X6_at at hf
  refine lv_iload_n hx hb dX6_at_0 rfl (lv_at hl 1 rfl) ?_
  refine r_Si (As := [.int x1]) (rest := []) ⟨hx, hb, hml, hown, hts⟩ hC hP hS (c_X6_isRow l g u x1 rfl) (va_cwS 1 hts gX6_at_X6_isRow rfl rfl rfl (by decide +kernel) ⟨(Nat.le_trans (Nat.le_of_ble_eq_true rfl) hRf), (Nat.le_trans (Nat.le_of_ble_eq_true rfl) hRl)⟩) rfl hl.1 rfl (Nat.le_of_ble_eq_true rfl) dX6_at_1 (fun H locs hP hS => ?_)
  refine lv_if_ne (tgt := 9) hx hb dX6_at_4 (by decide) (fun c_1 => ?_) (fun c_1 => ?_)
  · rw [if_neg c_1] at hf
    refine lv_aload_n hx hb dX6_at_9 rfl (lv_at hl 0 rfl) ?_
    refine r_get hx hb hts hown hC hP hinX6 55 (by decide) (ci := 5) rfl (by decide) rfl 5 (by decide) (hts (.fieldLink RX6 17 "LoafPartsModel" "sizes" "[I") (by decide +kernel)) (v := .ref (aD g 57)) rfl dX6_at_10 ?_
    refine lv_iload_n hx hb dX6_at_13 rfl (lv_at hl 1 rfl) ?_
    obtain ⟨hi_2, hf⟩ := ix_ex hf
    refine r_ald hx hb hC hP 57 (by decide) rfl hi_2 dX6_at_14 ?_
    refine lv_if_ge (tgt := 24) hx hb dX6_at_15 (by decide) (fun c_3 => ?_) (fun c_3 => ?_)
    · rw [if_pos c_3] at hf
      refine lv_iload_n hx hb dX6_at_24 rfl (lv_at hl 2 rfl) ?_
      refine lv_iconst (v := (0 : Int32)) hx hb dX6_at_25 (by decide) ?_
      refine lv_aload_n hx hb dX6_at_26 rfl (lv_at hl 0 rfl) ?_
      refine r_get hx hb hts hown hC hP hinX6 55 (by decide) (ci := 5) rfl (by decide) rfl 5 (by decide) (hts (.fieldLink RX6 17 "LoafPartsModel" "sizes" "[I") (by decide +kernel)) (v := .ref (aD g 57)) rfl dX6_at_27 ?_
      refine lv_iload_n hx hb dX6_at_30 rfl (lv_at hl 1 rfl) ?_
      obtain ⟨hi_4, hf⟩ := ix_ex hf
      refine r_ald hx hb hC hP 57 (by decide) rfl hi_4 dX6_at_31 ?_
      refine lv_iconst (v := (1 : Int32)) hx hb dX6_at_32 (by decide) ?_
      refine lv_isub hx hb dX6_at_33 ?_
      refine r_Si (As := [.int x2, .int (0 : Int32), .int ((ui u 57 (x1 : Int32).toNatClampNeg) - (1 : Int32))]) (rest := []) ⟨hx, hb, hml, hown, hts⟩ hC hP hS (c_X6_in l g u x2 (0 : Int32) ((ui u 57 (x1 : Int32).toNatClampNeg) - (1 : Int32)) rfl) (va_cwS 3 hts gX6_at_X6_in rfl rfl rfl (by decide +kernel) ⟨(Nat.le_trans (Nat.le_of_ble_eq_true rfl) hRf), (Nat.le_trans (Nat.le_of_ble_eq_true rfl) hRl)⟩) rfl hl.1 rfl (Nat.le_of_ble_eq_true rfl) dX6_at_34 (fun H locs hP hS => ?_)
      refine lv_if_eq (tgt := 54) hx hb dX6_at_37 (by decide) (fun c_5 => ?_) (fun c_5 => ?_)
      · rw [if_pos c_5] at hf
        refine lv_aload_n hx hb dX6_at_54 rfl (lv_at hl 0 rfl) ?_
        refine lv_iconst (v := (2 : Int32)) hx hb dX6_at_55 (by decide) ?_
        obtain ⟨q_6, hq_6, hf⟩ := bind_ex hf
        refine r_Vi (r := q_6.1) (u' := q_6.2) (As := [.int (2 : Int32)]) (rest := []) (k := 55) (ci := 5) ⟨hx, hb, hml, hown, hts⟩ hC hP hS (by decide) rfl (by decide) rfl (c_X6_meets l g u (2 : Int32) hq_6) (cwV 1 hts gX6_at_X6_meets rfl rfl rfl (by decide +kernel) ⟨(Nat.le_trans (Nat.le_of_ble_eq_true rfl) hRf), (Nat.le_trans (Nat.le_of_ble_eq_true rfl) hRl)⟩) rfl hl.1 rfl (Nat.le_of_ble_eq_true rfl) dX6_at_56 (fun H locs hP hS => ?_)
        obtain ⟨rfl, rfl⟩ := sp2 hf
        exact kret _ _ _ _ dX6_at_59 hP hS trivial
      rw [if_neg c_5] at hf
      refine lv_aload_n hx hb dX6_at_40 rfl (lv_at hl 0 rfl) ?_
      refine lv_aload_n hx hb dX6_at_41 rfl (lv_at hl 0 rfl) ?_
      refine lv_iload_n hx hb dX6_at_42 rfl (lv_at hl 1 rfl) ?_
      refine lv_iload_n hx hb dX6_at_43 rfl (lv_at hl 2 rfl) ?_
      obtain ⟨q_7, hq_7, hf⟩ := bind_ex hf
      refine r_Vi (As := [.int x1, .int x2]) (rest := [.ref (aD g 55)]) (k := 55) (ci := 5) ⟨hx, hb, hml, hown, hts⟩ hC hP hS (by decide) rfl (by decide) rfl (c_X6_rowAt l g u x1 x2 hq_7) (cwV 2 hts gX6_at_X6_rowAt rfl rfl rfl (by decide +kernel) ⟨(Nat.le_trans (Nat.le_of_ble_eq_true rfl) hRf), (Nat.le_trans (Nat.le_of_ble_eq_true rfl) hRl)⟩) rfl hl.1 rfl (Nat.le_of_ble_eq_true rfl) dX6_at_44 (fun H locs hP hS => ?_)
      refine lv_iconst (v := (1 : Int32)) hx hb dX6_at_47 (by decide) ?_
      obtain ⟨q_8, hq_8, hf⟩ := bind_ex hf
      refine r_Vi (r := q_8.1) (u' := q_8.2) (As := [.int q_7, .int (1 : Int32)]) (rest := []) (k := 55) (ci := 5) ⟨hx, hb, hml, hown, hts⟩ hC hP hS (by decide) rfl (by decide) rfl (c_X6_tells l g u q_7 (1 : Int32) hq_8) (cwV 2 hts gX6_at_X6_tells rfl rfl rfl (by decide +kernel) ⟨(Nat.le_trans (Nat.le_of_ble_eq_true rfl) hRf), (Nat.le_trans (Nat.le_of_ble_eq_true rfl) hRl)⟩) rfl hl.1 rfl (Nat.le_of_ble_eq_true rfl) dX6_at_48 (fun H locs hP hS => ?_)
      refine lv_goto (tgt := 59) hx hb dX6_at_51 (by decide) ?_
      obtain ⟨rfl, rfl⟩ := sp2 hf
      exact kret _ _ _ _ dX6_at_59 hP hS trivial
    rw [if_neg c_3] at hf
    refine lv_aload_n hx hb dX6_at_18 rfl (lv_at hl 0 rfl) ?_
    refine lv_iconst (v := (1 : Int32)) hx hb dX6_at_19 (by decide) ?_
    obtain ⟨q_9, hq_9, hf⟩ := bind_ex hf
    refine r_Vi (r := q_9.1) (u' := q_9.2) (As := [.int (1 : Int32)]) (rest := []) (k := 55) (ci := 5) ⟨hx, hb, hml, hown, hts⟩ hC hP hS (by decide) rfl (by decide) rfl (c_X6_meets l g u (1 : Int32) hq_9) (cwV 1 hts gX6_at_X6_meets rfl rfl rfl (by decide +kernel) ⟨(Nat.le_trans (Nat.le_of_ble_eq_true rfl) hRf), (Nat.le_trans (Nat.le_of_ble_eq_true rfl) hRl)⟩) rfl hl.1 rfl (Nat.le_of_ble_eq_true rfl) dX6_at_20 (fun H locs hP hS => ?_)
    obtain ⟨rfl, rfl⟩ := sp2 hf
    exact kret _ _ _ _ dX6_at_23 hP hS trivial
  rw [if_pos c_1] at hf
  refine lv_iconst (v := (-1 : Int32)) hx hb dX6_at_7 (by decide) ?_
  obtain ⟨rfl, rfl⟩ := sp2 hf
  exact kret _ _ _ _ dX6_at_8 hP hS trivial
set_option maxHeartbeats 4000000 in
set_option maxRecDepth 100000 in
theorem c_X6_tear (l : Launch) (g : GG) (u : UU) (x1 : Int32) {r : Int32} {u' : UU} (hf : f_X6_tear x1 u = some (r, u')) : Ci l g 55 20 yX6_tear wsX6_tear 2 42 [.ref (aD g 55), .int x1] u r u' := by
  refine ct_i (cc := cX6_tear) (maxL := 2) (by decide) rfl (Nat.le_of_ble_eq_true rfl) ?_
  intro p e s m args below meth c R Q ls hx hb hml hown hts hC hP hl hRf hRl kret hS
  have hown : s.vm.findClass RX6 = some m.cls := hown
  have hl : lv_has ls 2 [(0, .ref (aD g 55)), (1, .int x1)] := hl
  have hinX6 : ∀ w ∈ u_ws RX6 TX6 34, w ∈ wsX6_tear := by decide +kernel
  unfold f_X6_tear at hf
  refine lv_iload_n hx hb dX6_tear_0 rfl (lv_at hl 1 rfl) ?_
  refine r_Si (As := [.int x1]) (rest := []) ⟨hx, hb, hml, hown, hts⟩ hC hP hS (c_X6_isRow l g u x1 rfl) (va_cwS 1 hts gX6_tear_X6_isRow rfl rfl rfl (by decide +kernel) ⟨(Nat.le_trans (Nat.le_of_ble_eq_true rfl) hRf), (Nat.le_trans (Nat.le_of_ble_eq_true rfl) hRl)⟩) rfl hl.1 rfl (Nat.le_of_ble_eq_true rfl) dX6_tear_1 (fun H locs hP hS => ?_)
  refine lv_if_ne (tgt := 9) hx hb dX6_tear_4 (by decide) (fun c_1 => ?_) (fun c_1 => ?_)
  · rw [if_neg c_1] at hf
    refine lv_aload_n hx hb dX6_tear_9 rfl (lv_at hl 0 rfl) ?_
    refine r_get hx hb hts hown hC hP hinX6 55 (by decide) (ci := 5) rfl (by decide) rfl 5 (by decide) (hts (.fieldLink RX6 17 "LoafPartsModel" "sizes" "[I") (by decide +kernel)) (v := .ref (aD g 57)) rfl dX6_tear_10 ?_
    refine lv_iload_n hx hb dX6_tear_13 rfl (lv_at hl 1 rfl) ?_
    obtain ⟨hi_2, hf⟩ := ix_ex hf
    refine r_ald hx hb hC hP 57 (by decide) rfl hi_2 dX6_tear_14 ?_
    refine lv_if_ge (tgt := 24) hx hb dX6_tear_15 (by decide) (fun c_3 => ?_) (fun c_3 => ?_)
    · rw [if_pos c_3] at hf
      refine lv_aload_n hx hb dX6_tear_24 rfl (lv_at hl 0 rfl) ?_
      refine r_get hx hb hts hown hC hP hinX6 55 (by decide) (ci := 5) rfl (by decide) rfl 5 (by decide) (hts (.fieldLink RX6 17 "LoafPartsModel" "sizes" "[I") (by decide +kernel)) (v := .ref (aD g 57)) rfl dX6_tear_25 ?_
      refine lv_iload_n hx hb dX6_tear_28 rfl (lv_at hl 1 rfl) ?_
      refine lv_iconst (v := (-1 : Int32)) hx hb dX6_tear_29 (by decide) ?_
      obtain ⟨hi_4, hf⟩ := ix_ex hf
      obtain ⟨u_5, eu_5, hf⟩ := lt_ex hf
      refine r_ast hx hb hC hP hS 57 (by decide) rfl hi_4 eu_5 dX6_tear_30 (fun H locs hP hS => ?_)
      refine lv_iconst (v := (1 : Int32)) hx hb dX6_tear_31 (by decide) ?_
      obtain ⟨rfl, rfl⟩ := sp2 hf
      exact kret _ _ _ _ dX6_tear_32 hP hS trivial
    rw [if_neg c_3] at hf
    refine lv_aload_n hx hb dX6_tear_18 rfl (lv_at hl 0 rfl) ?_
    refine lv_iconst (v := (1 : Int32)) hx hb dX6_tear_19 (by decide) ?_
    obtain ⟨q_6, hq_6, hf⟩ := bind_ex hf
    refine r_Vi (r := q_6.1) (u' := q_6.2) (As := [.int (1 : Int32)]) (rest := []) (k := 55) (ci := 5) ⟨hx, hb, hml, hown, hts⟩ hC hP hS (by decide) rfl (by decide) rfl (c_X6_meets l g u (1 : Int32) hq_6) (cwV 1 hts gX6_tear_X6_meets rfl rfl rfl (by decide +kernel) ⟨(Nat.le_trans (Nat.le_of_ble_eq_true rfl) hRf), (Nat.le_trans (Nat.le_of_ble_eq_true rfl) hRl)⟩) rfl hl.1 rfl (Nat.le_of_ble_eq_true rfl) dX6_tear_20 (fun H locs hP hS => ?_)
    obtain ⟨rfl, rfl⟩ := sp2 hf
    exact kret _ _ _ _ dX6_tear_23 hP hS trivial
  rw [if_pos c_1] at hf
  refine lv_iconst (v := (-1 : Int32)) hx hb dX6_tear_7 (by decide) ?_
  obtain ⟨rfl, rfl⟩ := sp2 hf
  exact kret _ _ _ _ dX6_tear_8 hP hS trivial
set_option maxHeartbeats 4000000 in
set_option maxRecDepth 100000 in
theorem c_X6_copy (l : Launch) (g : GG) (u : UU) (x1 : Int32) (x2 : Int32) (x3 : Int32) (x4 : Int32) (x5 : Int32) {r : Int32} {u' : UU} (hf : f_X6_copy x1 x2 x3 x4 x5 u = some (r, u')) : Ci l g 55 20 yX6_copy wsX6_copy 2 42 [.ref (aD g 55), .int x1, .int x2, .int x3, .int x4, .int x5] u r u' := by
  refine ct_i (cc := cX6_copy) (maxL := 7) (by decide) rfl (Nat.le_of_ble_eq_true rfl) ?_
  intro p e s m args below meth c R Q ls hx hb hml hown hts hC hP hl hRf hRl kret hS
  have hown : s.vm.findClass RX6 = some m.cls := hown
  have hl : lv_has ls 7 [(0, .ref (aD g 55)), (1, .int x1), (2, .int x2), (3, .int x3), (4, .int x4), (5, .int x5)] := hl
  have hinX6 : ∀ w ∈ u_ws RX6 TX6 34, w ∈ wsX6_copy := by decide +kernel
  have w_45 : ∀ (u : UU) (H : Heap) (locs : List Loc) (ls : Array Slot), Ps g 55 20 u H → va_S (aA g) s.heap H locs → lv_has ls 7 [(0, .ref (aD g 55))] → f_X6_copy_45 u = some (r, u') → W p l e R s m args below meth c H locs 0 0 Q (F0 m 45 ls []) := by
    intro u H locs ls hP hS hl hf
    unfold f_X6_copy_45 at hf
    refine lv_aload_n hx hb dX6_copy_45 rfl (lv_at hl 0 rfl) ?_
    refine lv_iconst (v := (1 : Int32)) hx hb dX6_copy_46 (by decide) ?_
    obtain ⟨q_6, hq_6, hf⟩ := bind_ex hf
    refine r_Vi (r := q_6.1) (u' := q_6.2) (As := [.int (1 : Int32)]) (rest := []) (k := 55) (ci := 5) ⟨hx, hb, hml, hown, hts⟩ hC hP hS (by decide) rfl (by decide) rfl (c_X6_meets l g u (1 : Int32) hq_6) (cwV 1 hts gX6_copy_X6_meets rfl rfl rfl (by decide +kernel) ⟨(Nat.le_trans (Nat.le_of_ble_eq_true rfl) hRf), (Nat.le_trans (Nat.le_of_ble_eq_true rfl) hRl)⟩) rfl hl.1 rfl (Nat.le_of_ble_eq_true rfl) dX6_copy_47 (fun H locs hP hS => ?_)
    obtain ⟨rfl, rfl⟩ := sp2 hf
    exact kret _ _ _ _ dX6_copy_50 hP hS trivial
  have w_95 : ∀ (u : UU) (H : Heap) (locs : List Loc) (ls : Array Slot), Ps g 55 20 u H → va_S (aA g) s.heap H locs → lv_has ls 7 [(0, .ref (aD g 55))] → f_X6_copy_95 u = some (r, u') → W p l e R s m args below meth c H locs 0 0 Q (F0 m 95 ls []) := by
    intro u H locs ls hP hS hl hf
    unfold f_X6_copy_95 at hf
    refine lv_aload_n hx hb dX6_copy_95 rfl (lv_at hl 0 rfl) ?_
    refine lv_iconst (v := (2 : Int32)) hx hb dX6_copy_96 (by decide) ?_
    obtain ⟨q_10, hq_10, hf⟩ := bind_ex hf
    refine r_Vi (r := q_10.1) (u' := q_10.2) (As := [.int (2 : Int32)]) (rest := []) (k := 55) (ci := 5) ⟨hx, hb, hml, hown, hts⟩ hC hP hS (by decide) rfl (by decide) rfl (c_X6_meets l g u (2 : Int32) hq_10) (cwV 1 hts gX6_copy_X6_meets rfl rfl rfl (by decide +kernel) ⟨(Nat.le_trans (Nat.le_of_ble_eq_true rfl) hRf), (Nat.le_trans (Nat.le_of_ble_eq_true rfl) hRl)⟩) rfl hl.1 rfl (Nat.le_of_ble_eq_true rfl) dX6_copy_97 (fun H locs hP hS => ?_)
    obtain ⟨rfl, rfl⟩ := sp2 hf
    exact kret _ _ _ _ dX6_copy_100 hP hS trivial
  have w_136 : ∀ (n : Nat), ∀ (x3 : Int32) (x4 : Int32) (x5 : Int32) (x6 : Int32) (u : UU) (H : Heap) (locs : List Loc) (ls : Array Slot), Ps g 55 20 u H → va_S (aA g) s.heap H locs → lv_has ls 7 [(0, .ref (aD g 55)), (3, .int x3), (4, .int x4), (5, .int x5), (6, .int x6)] → f_X6_copy_136 n x3 x4 x5 x6 u = some (r, u') → W p l e R s m args below meth c H locs 0 0 Q (F0 m 136 ls []) := by
    intro n
    induction n with
    | zero =>
      intro x3 x4 x5 x6 u H locs ls hP hS hl hf
      rw [f_X6_copy_136] at hf
      cases hf
    | succ n ih =>
      intro x3 x4 x5 x6 u H locs ls hP hS hl hf
      rw [f_X6_copy_136] at hf
      refine lv_iload hx hb dX6_copy_136 (lv_at hl 4 rfl) ?_
      refine lv_iload hx hb dX6_copy_138 (lv_at hl 3 rfl) ?_
      refine lv_icmp_ge (tgt := 171) hx hb dX6_copy_140 (by decide) (fun c_17 => ?_) (fun c_17 => ?_)
      · rw [if_pos c_17] at hf
        refine lv_iconst (v := (1 : Int32)) hx hb dX6_copy_171 (by decide) ?_
        obtain ⟨rfl, rfl⟩ := sp2 hf
        exact kret _ _ _ _ dX6_copy_172 hP hS trivial
      rw [if_neg c_17] at hf
      refine lv_aload_n hx hb dX6_copy_143 rfl (lv_at hl 0 rfl) ?_
      refine r_get hx hb hts hown hC hP hinX6 55 (by decide) (ci := 5) rfl (by decide) rfl 6 (by decide) (hts (.fieldLink RX6 20 "LoafPartsModel" "rows" "[I") (by decide +kernel)) (v := .ref (aD g 58)) rfl dX6_copy_144 ?_
      refine lv_bipush (v := (40 : Int32)) hx hb dX6_copy_147 (by decide) ?_
      refine lv_iload_n hx hb dX6_copy_149 rfl (lv_at hl 1 rfl) ?_
      refine lv_imul hx hb dX6_copy_150 ?_
      refine lv_iload hx hb dX6_copy_151 (lv_at hl 2 rfl) ?_
      refine lv_iadd hx hb dX6_copy_153 ?_
      refine lv_iload hx hb dX6_copy_154 (lv_at hl 4 rfl) ?_
      refine lv_iadd hx hb dX6_copy_156 ?_
      refine lv_aload_n hx hb dX6_copy_157 rfl (lv_at hl 0 rfl) ?_
      refine r_get hx hb hts hown hC hP hinX6 55 (by decide) (ci := 5) rfl (by decide) rfl 7 (by decide) (hts (.fieldLink RX6 23 "LoafPartsModel" "copied" "[I") (by decide +kernel)) (v := .ref (aD g 59)) rfl dX6_copy_158 ?_
      refine lv_iload hx hb dX6_copy_161 (lv_at hl 4 rfl) ?_
      obtain ⟨hi_18, hf⟩ := ix_ex hf
      refine r_ald hx hb hC hP 59 (by decide) rfl hi_18 dX6_copy_163 ?_
      obtain ⟨hi_19, hf⟩ := ix_ex hf
      obtain ⟨u_20, eu_20, hf⟩ := lt_ex hf
      refine r_ast hx hb hC hP hS 58 (by decide) rfl hi_19 eu_20 dX6_copy_164 (fun H locs hP hS => ?_)
      obtain ⟨x6_21, ex6_21, hf⟩ := lt_ex hf
      refine lv_iinc (v := x6_21) (lv' := [(6, .int x6_21), (0, .ref (aD g 55)), (3, .int x3), (4, .int x4), (5, .int x5)]) hx hb dX6_copy_165 hl (k := 4) rfl (by rw [ex6_21]; rfl) (by decide) rfl (fun ls hl => ?_)
      refine lv_goto (tgt := 136) hx hb dX6_copy_168 (by decide) ?_
      exact ih x3 x4 x5 x6_21 u_20 _ _ _ hP hS (lv_sub hl [1, 2, 3, 4, 0] rfl) hf
  have w_104 : ∀ (n : Nat), ∀ (x1 : Int32) (x2 : Int32) (x3 : Int32) (x4 : Int32) (x5 : Int32) (x6 : Int32) (u : UU) (H : Heap) (locs : List Loc) (ls : Array Slot), Ps g 55 20 u H → va_S (aA g) s.heap H locs → lv_has ls 7 [(0, .ref (aD g 55)), (1, .int x1), (2, .int x2), (3, .int x3), (4, .int x4), (5, .int x5), (6, .int x6)] → f_X6_copy_104 n x1 x2 x3 x4 x5 x6 u = some (r, u') → W p l e R s m args below meth c H locs 0 0 Q (F0 m 104 ls []) := by
    intro n
    induction n with
    | zero =>
      intro x1 x2 x3 x4 x5 x6 u H locs ls hP hS hl hf
      rw [f_X6_copy_104] at hf
      cases hf
    | succ n ih =>
      intro x1 x2 x3 x4 x5 x6 u H locs ls hP hS hl hf
      rw [f_X6_copy_104] at hf
      refine lv_iload hx hb dX6_copy_104 (lv_at hl 6 rfl) ?_
      refine lv_iload hx hb dX6_copy_106 (lv_at hl 5 rfl) ?_
      refine lv_icmp_ge (tgt := 133) hx hb dX6_copy_108 (by decide) (fun c_16 => ?_) (fun c_16 => ?_)
      · rw [if_pos c_16] at hf
        refine lv_iconst (v := (0 : Int32)) hx hb dX6_copy_133 (by decide) ?_
        refine lv_istore (lv' := [(6, .int (0 : Int32)), (0, .ref (aD g 55)), (1, .int x1), (2, .int x2), (3, .int x3), (4, .int x4), (5, .int x5)]) hx hb dX6_copy_134 hl (by decide) rfl (fun ls hl => ?_)
        exact w_136 fu x3 x4 x5 (0 : Int32) u _ _ _ hP hS (lv_sub hl [1, 4, 5, 6, 0] rfl) hf
      rw [if_neg c_16] at hf
      refine lv_aload_n hx hb dX6_copy_111 rfl (lv_at hl 0 rfl) ?_
      refine r_get hx hb hts hown hC hP hinX6 55 (by decide) (ci := 5) rfl (by decide) rfl 7 (by decide) (hts (.fieldLink RX6 23 "LoafPartsModel" "copied" "[I") (by decide +kernel)) (v := .ref (aD g 59)) rfl dX6_copy_112 ?_
      refine lv_iload hx hb dX6_copy_115 (lv_at hl 6 rfl) ?_
      refine lv_aload_n hx hb dX6_copy_117 rfl (lv_at hl 0 rfl) ?_
      refine lv_iload_n hx hb dX6_copy_118 rfl (lv_at hl 1 rfl) ?_
      refine lv_iload_n hx hb dX6_copy_119 rfl (lv_at hl 2 rfl) ?_
      refine lv_iload hx hb dX6_copy_120 (lv_at hl 6 rfl) ?_
      refine lv_iadd hx hb dX6_copy_122 ?_
      obtain ⟨q_22, hq_22, hf⟩ := bind_ex hf
      refine r_Vi (As := [.int x1, .int (x2 + x6)]) (rest := [.int x6, .ref (aD g 59)]) (k := 55) (ci := 5) ⟨hx, hb, hml, hown, hts⟩ hC hP hS (by decide) rfl (by decide) rfl (c_X6_rowAt l g u x1 (x2 + x6) hq_22) (cwV 2 hts gX6_copy_X6_rowAt rfl rfl rfl (by decide +kernel) ⟨(Nat.le_trans (Nat.le_of_ble_eq_true rfl) hRf), (Nat.le_trans (Nat.le_of_ble_eq_true rfl) hRl)⟩) rfl hl.1 rfl (Nat.le_of_ble_eq_true rfl) dX6_copy_123 (fun H locs hP hS => ?_)
      obtain ⟨hi_23, hf⟩ := ix_ex hf
      obtain ⟨u_24, eu_24, hf⟩ := lt_ex hf
      refine r_ast hx hb hC hP hS 59 (by decide) rfl hi_23 eu_24 dX6_copy_126 (fun H locs hP hS => ?_)
      obtain ⟨x6_25, ex6_25, hf⟩ := lt_ex hf
      refine lv_iinc (v := x6_25) (lv' := [(6, .int x6_25), (0, .ref (aD g 55)), (1, .int x1), (2, .int x2), (3, .int x3), (4, .int x4), (5, .int x5)]) hx hb dX6_copy_127 hl (k := 6) rfl (by rw [ex6_25]; rfl) (by decide) rfl (fun ls hl => ?_)
      refine lv_goto (tgt := 104) hx hb dX6_copy_130 (by decide) ?_
      exact ih x1 x2 x3 x4 x5 x6_25 u_24 _ _ _ hP hS (lv_sub hl [1, 2, 3, 4, 5, 6, 0] rfl) hf
  unfold f_X6_copy at hf
  refine lv_iload_n hx hb dX6_copy_0 rfl (lv_at hl 1 rfl) ?_
  refine r_Si (As := [.int x1]) (rest := []) ⟨hx, hb, hml, hown, hts⟩ hC hP hS (c_X6_isRow l g u x1 rfl) (va_cwS 1 hts gX6_copy_X6_isRow rfl rfl rfl (by decide +kernel) ⟨(Nat.le_trans (Nat.le_of_ble_eq_true rfl) hRf), (Nat.le_trans (Nat.le_of_ble_eq_true rfl) hRl)⟩) rfl hl.1 rfl (Nat.le_of_ble_eq_true rfl) dX6_copy_1 (fun H locs hP hS => ?_)
  refine lv_if_eq (tgt := 14) hx hb dX6_copy_4 (by decide) (fun c_1 => ?_) (fun c_1 => ?_)
  · rw [if_pos c_1] at hf
    refine lv_iconst (v := (-1 : Int32)) hx hb dX6_copy_14 (by decide) ?_
    obtain ⟨rfl, rfl⟩ := sp2 hf
    exact kret _ _ _ _ dX6_copy_15 hP hS trivial
  rw [if_neg c_1] at hf
  refine lv_iload_n hx hb dX6_copy_7 rfl (lv_at hl 3 rfl) ?_
  refine r_Si (As := [.int x3]) (rest := []) ⟨hx, hb, hml, hown, hts⟩ hC hP hS (c_X6_isRow l g u x3 rfl) (va_cwS 1 hts gX6_copy_X6_isRow rfl rfl rfl (by decide +kernel) ⟨(Nat.le_trans (Nat.le_of_ble_eq_true rfl) hRf), (Nat.le_trans (Nat.le_of_ble_eq_true rfl) hRl)⟩) rfl hl.1 rfl (Nat.le_of_ble_eq_true rfl) dX6_copy_8 (fun H locs hP hS => ?_)
  refine lv_if_ne (tgt := 16) hx hb dX6_copy_11 (by decide) (fun c_2 => ?_) (fun c_2 => ?_)
  · rw [if_neg c_2] at hf
    refine lv_iload hx hb dX6_copy_16 (lv_at hl 5 rfl) ?_
    refine lv_if_ge (tgt := 27) hx hb dX6_copy_18 (by decide) (fun c_3 => ?_) (fun c_3 => ?_)
    · rw [if_pos c_3] at hf
      refine lv_aload_n hx hb dX6_copy_27 rfl (lv_at hl 0 rfl) ?_
      refine r_get hx hb hts hown hC hP hinX6 55 (by decide) (ci := 5) rfl (by decide) rfl 5 (by decide) (hts (.fieldLink RX6 17 "LoafPartsModel" "sizes" "[I") (by decide +kernel)) (v := .ref (aD g 57)) rfl dX6_copy_28 ?_
      refine lv_iload_n hx hb dX6_copy_31 rfl (lv_at hl 1 rfl) ?_
      obtain ⟨hi_4, hf⟩ := ix_ex hf
      refine r_ald hx hb hC hP 57 (by decide) rfl hi_4 dX6_copy_32 ?_
      refine lv_if_lt (tgt := 45) hx hb dX6_copy_33 (by decide) (fun c_5 => ?_) (fun c_5 => ?_)
      · rw [if_pos c_5] at hf
        exact w_45 u _ _ _ hP hS (lv_sub hl [0] rfl) hf
      rw [if_neg c_5] at hf
      refine lv_aload_n hx hb dX6_copy_36 rfl (lv_at hl 0 rfl) ?_
      refine r_get hx hb hts hown hC hP hinX6 55 (by decide) (ci := 5) rfl (by decide) rfl 5 (by decide) (hts (.fieldLink RX6 17 "LoafPartsModel" "sizes" "[I") (by decide +kernel)) (v := .ref (aD g 57)) rfl dX6_copy_37 ?_
      refine lv_iload_n hx hb dX6_copy_40 rfl (lv_at hl 3 rfl) ?_
      obtain ⟨hi_7, hf⟩ := ix_ex hf
      refine r_ald hx hb hC hP 57 (by decide) rfl hi_7 dX6_copy_41 ?_
      refine lv_if_ge (tgt := 51) hx hb dX6_copy_42 (by decide) (fun c_8 => ?_) (fun c_8 => ?_)
      · rw [if_pos c_8] at hf
        refine lv_iload_n hx hb dX6_copy_51 rfl (lv_at hl 2 rfl) ?_
        refine lv_if_lt (tgt := 95) hx hb dX6_copy_52 (by decide) (fun c_9 => ?_) (fun c_9 => ?_)
        · rw [if_pos c_9] at hf
          exact w_95 u _ _ _ hP hS (lv_sub hl [0] rfl) hf
        rw [if_neg c_9] at hf
        refine lv_iload hx hb dX6_copy_55 (lv_at hl 4 rfl) ?_
        refine lv_if_lt (tgt := 95) hx hb dX6_copy_57 (by decide) (fun c_11 => ?_) (fun c_11 => ?_)
        · rw [if_pos c_11] at hf
          exact w_95 u _ _ _ hP hS (lv_sub hl [0] rfl) hf
        rw [if_neg c_11] at hf
        refine lv_iload_n hx hb dX6_copy_60 rfl (lv_at hl 2 rfl) ?_
        refine lv_i2l hx hb dX6_copy_61 rfl ?_
        refine lv_iload hx hb dX6_copy_62 (lv_at hl 5 rfl) ?_
        refine lv_i2l hx hb dX6_copy_64 rfl ?_
        refine lv_ladd hx hb dX6_copy_65 ?_
        refine lv_aload_n hx hb dX6_copy_66 rfl (lv_at hl 0 rfl) ?_
        refine r_get hx hb hts hown hC hP hinX6 55 (by decide) (ci := 5) rfl (by decide) rfl 5 (by decide) (hts (.fieldLink RX6 17 "LoafPartsModel" "sizes" "[I") (by decide +kernel)) (v := .ref (aD g 57)) rfl dX6_copy_67 ?_
        refine lv_iload_n hx hb dX6_copy_70 rfl (lv_at hl 1 rfl) ?_
        obtain ⟨hi_12, hf⟩ := ix_ex hf
        refine r_ald hx hb hC hP 57 (by decide) rfl hi_12 dX6_copy_71 ?_
        refine lv_i2l hx hb dX6_copy_72 rfl ?_
        refine W.lcmp hx hb dX6_copy_73 ?_
        refine lv_if_gt (tgt := 95) hx hb dX6_copy_74 (by decide) (fun c_13 => ?_) (fun c_13 => ?_)
        · rw [if_pos c_13] at hf
          exact w_95 u _ _ _ hP hS (lv_sub hl [0] rfl) hf
        rw [if_neg c_13] at hf
        refine lv_iload hx hb dX6_copy_77 (lv_at hl 4 rfl) ?_
        refine lv_i2l hx hb dX6_copy_79 rfl ?_
        refine lv_iload hx hb dX6_copy_80 (lv_at hl 5 rfl) ?_
        refine lv_i2l hx hb dX6_copy_82 rfl ?_
        refine lv_ladd hx hb dX6_copy_83 ?_
        refine lv_aload_n hx hb dX6_copy_84 rfl (lv_at hl 0 rfl) ?_
        refine r_get hx hb hts hown hC hP hinX6 55 (by decide) (ci := 5) rfl (by decide) rfl 5 (by decide) (hts (.fieldLink RX6 17 "LoafPartsModel" "sizes" "[I") (by decide +kernel)) (v := .ref (aD g 57)) rfl dX6_copy_85 ?_
        refine lv_iload_n hx hb dX6_copy_88 rfl (lv_at hl 3 rfl) ?_
        obtain ⟨hi_14, hf⟩ := ix_ex hf
        refine r_ald hx hb hC hP 57 (by decide) rfl hi_14 dX6_copy_89 ?_
        refine lv_i2l hx hb dX6_copy_90 rfl ?_
        refine W.lcmp hx hb dX6_copy_91 ?_
        refine lv_if_le (tgt := 101) hx hb dX6_copy_92 (by decide) (fun c_15 => ?_) (fun c_15 => ?_)
        · rw [if_pos c_15] at hf
          refine lv_iconst (v := (0 : Int32)) hx hb dX6_copy_101 (by decide) ?_
          refine lv_istore (lv' := [(6, .int (0 : Int32)), (0, .ref (aD g 55)), (1, .int x1), (2, .int x2), (3, .int x3), (4, .int x4), (5, .int x5)]) hx hb dX6_copy_102 hl (by decide) rfl (fun ls hl => ?_)
          exact w_104 fu x1 x2 x3 x4 x5 (0 : Int32) u _ _ _ hP hS (lv_sub hl [1, 2, 3, 4, 5, 6, 0] rfl) hf
        rw [if_neg c_15] at hf
        exact w_95 u _ _ _ hP hS (lv_sub hl [0] rfl) hf
      rw [if_neg c_8] at hf
      exact w_45 u _ _ _ hP hS (lv_sub hl [0] rfl) hf
    rw [if_neg c_3] at hf
    refine lv_aload_n hx hb dX6_copy_21 rfl (lv_at hl 0 rfl) ?_
    refine lv_iconst (v := (5 : Int32)) hx hb dX6_copy_22 (by decide) ?_
    obtain ⟨q_26, hq_26, hf⟩ := bind_ex hf
    refine r_Vi (r := q_26.1) (u' := q_26.2) (As := [.int (5 : Int32)]) (rest := []) (k := 55) (ci := 5) ⟨hx, hb, hml, hown, hts⟩ hC hP hS (by decide) rfl (by decide) rfl (c_X6_meets l g u (5 : Int32) hq_26) (cwV 1 hts gX6_copy_X6_meets rfl rfl rfl (by decide +kernel) ⟨(Nat.le_trans (Nat.le_of_ble_eq_true rfl) hRf), (Nat.le_trans (Nat.le_of_ble_eq_true rfl) hRl)⟩) rfl hl.1 rfl (Nat.le_of_ble_eq_true rfl) dX6_copy_23 (fun H locs hP hS => ?_)
    obtain ⟨rfl, rfl⟩ := sp2 hf
    exact kret _ _ _ _ dX6_copy_26 hP hS trivial
  rw [if_pos c_2] at hf
  refine lv_iconst (v := (-1 : Int32)) hx hb dX6_copy_14 (by decide) ?_
  obtain ⟨rfl, rfl⟩ := sp2 hf
  exact kret _ _ _ _ dX6_copy_15 hP hS trivial
set_option maxHeartbeats 4000000 in
set_option maxRecDepth 100000 in
theorem c_X6_mean (l : Launch) (g : GG) (u : UU) (x1 : Int32) {r : Int32} {u' : UU} (hf : f_X6_mean x1 u = some (r, u')) : Ci l g 55 20 yX6_mean wsX6_mean 2 42 [.ref (aD g 55), .int x1] u r u' := by
  refine ct_i (cc := cX6_mean) (maxL := 5) (by decide) rfl (Nat.le_of_ble_eq_true rfl) ?_
  intro p e s m args below meth c R Q ls hx hb hml hown hts hC hP hl hRf hRl kret hS
  have hown : s.vm.findClass RX6 = some m.cls := hown
  have hl : lv_has ls 5 [(0, .ref (aD g 55)), (1, .int x1)] := hl
  have hinX6 : ∀ w ∈ u_ws RX6 TX6 34, w ∈ wsX6_mean := by decide +kernel
  have w_44 : ∀ (n : Nat), ∀ (x1 : Int32) (x2 : Int64) (x4 : Int32) (u : UU) (H : Heap) (locs : List Loc) (ls : Array Slot), Ps g 55 20 u H → va_S (aA g) s.heap H locs → lv_has ls 5 [(0, .ref (aD g 55)), (1, .int x1), (2, .long x2), (4, .int x4)] → f_X6_mean_44 n x1 x2 x4 u = some (r, u') → W p l e R s m args below meth c H locs 0 0 Q (F0 m 44 ls []) := by
    intro n
    induction n with
    | zero =>
      intro x1 x2 x4 u H locs ls hP hS hl hf
      rw [f_X6_mean_44] at hf
      cases hf
    | succ n ih =>
      intro x1 x2 x4 u H locs ls hP hS hl hf
      rw [f_X6_mean_44] at hf
      refine lv_iload hx hb dX6_mean_44 (lv_at hl 3 rfl) ?_
      refine lv_aload_n hx hb dX6_mean_46 rfl (lv_at hl 0 rfl) ?_
      refine r_get hx hb hts hown hC hP hinX6 55 (by decide) (ci := 5) rfl (by decide) rfl 5 (by decide) (hts (.fieldLink RX6 17 "LoafPartsModel" "sizes" "[I") (by decide +kernel)) (v := .ref (aD g 57)) rfl dX6_mean_47 ?_
      refine lv_iload_n hx hb dX6_mean_50 rfl (lv_at hl 1 rfl) ?_
      obtain ⟨hi_6, hf⟩ := ix_ex hf
      refine r_ald hx hb hC hP 57 (by decide) rfl hi_6 dX6_mean_51 ?_
      refine lv_icmp_ge (tgt := 72) hx hb dX6_mean_52 (by decide) (fun c_7 => ?_) (fun c_7 => ?_)
      · rw [if_pos c_7] at hf
        refine lv_aload_n hx hb dX6_mean_72 rfl (lv_at hl 0 rfl) ?_
        refine lv_lload_n hx hb dX6_mean_73 rfl (lv_at hl 2 rfl) ?_
        refine lv_aload_n hx hb dX6_mean_74 rfl (lv_at hl 0 rfl) ?_
        refine r_get hx hb hts hown hC hP hinX6 55 (by decide) (ci := 5) rfl (by decide) rfl 5 (by decide) (hts (.fieldLink RX6 17 "LoafPartsModel" "sizes" "[I") (by decide +kernel)) (v := .ref (aD g 57)) rfl dX6_mean_75 ?_
        refine lv_iload_n hx hb dX6_mean_78 rfl (lv_at hl 1 rfl) ?_
        obtain ⟨hi_8, hf⟩ := ix_ex hf
        refine r_ald hx hb hC hP 57 (by decide) rfl hi_8 dX6_mean_79 ?_
        refine lv_i2l hx hb dX6_mean_80 rfl ?_
        obtain ⟨hz_9, hf⟩ := nzl_ex hf
        refine lv_ldiv hx hb dX6_mean_81 hz_9 ?_
        refine lv_l2i hx hb dX6_mean_82 rfl ?_
        refine lv_iconst (v := (1 : Int32)) hx hb dX6_mean_83 (by decide) ?_
        obtain ⟨q_10, hq_10, hf⟩ := bind_ex hf
        refine r_Vi (r := q_10.1) (u' := q_10.2) (As := [.int (((x2 / (((ui u 57 (x1 : Int32).toNatClampNeg) : Int32).toInt64)) : Int64).toInt32), .int (1 : Int32)]) (rest := []) (k := 55) (ci := 5) ⟨hx, hb, hml, hown, hts⟩ hC hP hS (by decide) rfl (by decide) rfl (c_X6_tells l g u (((x2 / (((ui u 57 (x1 : Int32).toNatClampNeg) : Int32).toInt64)) : Int64).toInt32) (1 : Int32) hq_10) (cwV 2 hts gX6_mean_X6_tells rfl rfl rfl (by decide +kernel) ⟨(Nat.le_trans (Nat.le_of_ble_eq_true rfl) hRf), (Nat.le_trans (Nat.le_of_ble_eq_true rfl) hRl)⟩) rfl hl.1 rfl (Nat.le_of_ble_eq_true rfl) dX6_mean_84 (fun H locs hP hS => ?_)
        obtain ⟨rfl, rfl⟩ := sp2 hf
        exact kret _ _ _ _ dX6_mean_87 hP hS trivial
      rw [if_neg c_7] at hf
      refine lv_lload_n hx hb dX6_mean_55 rfl (lv_at hl 2 rfl) ?_
      refine lv_aload_n hx hb dX6_mean_56 rfl (lv_at hl 0 rfl) ?_
      refine lv_iload_n hx hb dX6_mean_57 rfl (lv_at hl 1 rfl) ?_
      refine lv_iload hx hb dX6_mean_58 (lv_at hl 3 rfl) ?_
      obtain ⟨q_11, hq_11, hf⟩ := bind_ex hf
      refine r_Vi (As := [.int x1, .int x4]) (rest := [.long x2]) (k := 55) (ci := 5) ⟨hx, hb, hml, hown, hts⟩ hC hP hS (by decide) rfl (by decide) rfl (c_X6_rowAt l g u x1 x4 hq_11) (cwV 2 hts gX6_mean_X6_rowAt rfl rfl rfl (by decide +kernel) ⟨(Nat.le_trans (Nat.le_of_ble_eq_true rfl) hRf), (Nat.le_trans (Nat.le_of_ble_eq_true rfl) hRl)⟩) rfl hl.1 rfl (Nat.le_of_ble_eq_true rfl) dX6_mean_60 (fun H locs hP hS => ?_)
      refine lv_i2l hx hb dX6_mean_63 rfl ?_
      refine lv_ladd hx hb dX6_mean_64 ?_
      obtain ⟨x2_12, ex2_12, hf⟩ := lt_ex hf
      refine r_nml ex2_12 ?_
      refine lv_lstore_n (lv' := [(2, .long x2_12), (0, .ref (aD g 55)), (1, .int x1), (4, .int x4)]) hx hb dX6_mean_65 rfl hl (by decide) rfl (fun ls hl => ?_)
      obtain ⟨x4_13, ex4_13, hf⟩ := lt_ex hf
      refine lv_iinc (v := x4_13) (lv' := [(4, .int x4_13), (2, .long x2_12), (0, .ref (aD g 55)), (1, .int x1)]) hx hb dX6_mean_66 hl (k := 3) rfl (by rw [ex4_13]; rfl) (by decide) rfl (fun ls hl => ?_)
      refine lv_goto (tgt := 44) hx hb dX6_mean_69 (by decide) ?_
      exact ih x1 x2_12 x4_13 u _ _ _ hP hS (lv_sub hl [2, 3, 1, 0] rfl) hf
  unfold f_X6_mean at hf
  refine lv_iload_n hx hb dX6_mean_0 rfl (lv_at hl 1 rfl) ?_
  refine r_Si (As := [.int x1]) (rest := []) ⟨hx, hb, hml, hown, hts⟩ hC hP hS (c_X6_isRow l g u x1 rfl) (va_cwS 1 hts gX6_mean_X6_isRow rfl rfl rfl (by decide +kernel) ⟨(Nat.le_trans (Nat.le_of_ble_eq_true rfl) hRf), (Nat.le_trans (Nat.le_of_ble_eq_true rfl) hRl)⟩) rfl hl.1 rfl (Nat.le_of_ble_eq_true rfl) dX6_mean_1 (fun H locs hP hS => ?_)
  refine lv_if_ne (tgt := 9) hx hb dX6_mean_4 (by decide) (fun c_1 => ?_) (fun c_1 => ?_)
  · rw [if_neg c_1] at hf
    refine lv_aload_n hx hb dX6_mean_9 rfl (lv_at hl 0 rfl) ?_
    refine r_get hx hb hts hown hC hP hinX6 55 (by decide) (ci := 5) rfl (by decide) rfl 5 (by decide) (hts (.fieldLink RX6 17 "LoafPartsModel" "sizes" "[I") (by decide +kernel)) (v := .ref (aD g 57)) rfl dX6_mean_10 ?_
    refine lv_iload_n hx hb dX6_mean_13 rfl (lv_at hl 1 rfl) ?_
    obtain ⟨hi_2, hf⟩ := ix_ex hf
    refine r_ald hx hb hC hP 57 (by decide) rfl hi_2 dX6_mean_14 ?_
    refine lv_if_ge (tgt := 24) hx hb dX6_mean_15 (by decide) (fun c_3 => ?_) (fun c_3 => ?_)
    · rw [if_pos c_3] at hf
      refine lv_aload_n hx hb dX6_mean_24 rfl (lv_at hl 0 rfl) ?_
      refine r_get hx hb hts hown hC hP hinX6 55 (by decide) (ci := 5) rfl (by decide) rfl 5 (by decide) (hts (.fieldLink RX6 17 "LoafPartsModel" "sizes" "[I") (by decide +kernel)) (v := .ref (aD g 57)) rfl dX6_mean_25 ?_
      refine lv_iload_n hx hb dX6_mean_28 rfl (lv_at hl 1 rfl) ?_
      obtain ⟨hi_4, hf⟩ := ix_ex hf
      refine r_ald hx hb hC hP 57 (by decide) rfl hi_4 dX6_mean_29 ?_
      refine lv_if_ne (tgt := 39) hx hb dX6_mean_30 (by decide) (fun c_5 => ?_) (fun c_5 => ?_)
      · rw [if_neg c_5] at hf
        refine lv_lconst (v := (0 : Int64)) hx hb dX6_mean_39 (by decide) ?_
        refine lv_lstore_n (lv' := [(2, .long (0 : Int64)), (0, .ref (aD g 55)), (1, .int x1)]) hx hb dX6_mean_40 rfl hl (by decide) rfl (fun ls hl => ?_)
        refine lv_iconst (v := (0 : Int32)) hx hb dX6_mean_41 (by decide) ?_
        refine lv_istore (lv' := [(4, .int (0 : Int32)), (2, .long (0 : Int64)), (0, .ref (aD g 55)), (1, .int x1)]) hx hb dX6_mean_42 hl (by decide) rfl (fun ls hl => ?_)
        exact w_44 fu x1 (0 : Int64) (0 : Int32) u _ _ _ hP hS (lv_sub hl [2, 3, 1, 0] rfl) hf
      rw [if_pos c_5] at hf
      refine lv_aload_n hx hb dX6_mean_33 rfl (lv_at hl 0 rfl) ?_
      refine lv_iconst (v := (4 : Int32)) hx hb dX6_mean_34 (by decide) ?_
      obtain ⟨q_14, hq_14, hf⟩ := bind_ex hf
      refine r_Vi (r := q_14.1) (u' := q_14.2) (As := [.int (4 : Int32)]) (rest := []) (k := 55) (ci := 5) ⟨hx, hb, hml, hown, hts⟩ hC hP hS (by decide) rfl (by decide) rfl (c_X6_meets l g u (4 : Int32) hq_14) (cwV 1 hts gX6_mean_X6_meets rfl rfl rfl (by decide +kernel) ⟨(Nat.le_trans (Nat.le_of_ble_eq_true rfl) hRf), (Nat.le_trans (Nat.le_of_ble_eq_true rfl) hRl)⟩) rfl hl.1 rfl (Nat.le_of_ble_eq_true rfl) dX6_mean_35 (fun H locs hP hS => ?_)
      obtain ⟨rfl, rfl⟩ := sp2 hf
      exact kret _ _ _ _ dX6_mean_38 hP hS trivial
    rw [if_neg c_3] at hf
    refine lv_aload_n hx hb dX6_mean_18 rfl (lv_at hl 0 rfl) ?_
    refine lv_iconst (v := (1 : Int32)) hx hb dX6_mean_19 (by decide) ?_
    obtain ⟨q_15, hq_15, hf⟩ := bind_ex hf
    refine r_Vi (r := q_15.1) (u' := q_15.2) (As := [.int (1 : Int32)]) (rest := []) (k := 55) (ci := 5) ⟨hx, hb, hml, hown, hts⟩ hC hP hS (by decide) rfl (by decide) rfl (c_X6_meets l g u (1 : Int32) hq_15) (cwV 1 hts gX6_mean_X6_meets rfl rfl rfl (by decide +kernel) ⟨(Nat.le_trans (Nat.le_of_ble_eq_true rfl) hRf), (Nat.le_trans (Nat.le_of_ble_eq_true rfl) hRl)⟩) rfl hl.1 rfl (Nat.le_of_ble_eq_true rfl) dX6_mean_20 (fun H locs hP hS => ?_)
    obtain ⟨rfl, rfl⟩ := sp2 hf
    exact kret _ _ _ _ dX6_mean_23 hP hS trivial
  rw [if_pos c_1] at hf
  refine lv_iconst (v := (-1 : Int32)) hx hb dX6_mean_7 (by decide) ?_
  obtain ⟨rfl, rfl⟩ := sp2 hf
  exact kret _ _ _ _ dX6_mean_8 hP hS trivial
set_option maxHeartbeats 4000000 in
set_option maxRecDepth 100000 in
theorem c_X6_isText (l : Launch) (g : GG) (u : UU) (x0 : Int32) {r : Int32} (hf : f_X6_isText x0 = r) : Ci l g 55 20 yX6_isText wsX6_isText 1 22 [.int x0] u r u := by
  refine ct_z (cc := cX6_isText) (maxL := 1) (by decide) rfl (Nat.le_of_ble_eq_true rfl) ?_
  intro p e s m args below meth c R Q ls hx hb hml hown hts hC hP hl hRf hRl kret hS
  have hown : s.vm.findClass RX6 = some m.cls := hown
  have hl : lv_has ls 1 [(0, .int x0)] := hl
  unfold f_X6_isText at hf
  refine lv_iload_n hx hb dX6_isText_0 rfl (lv_at hl 0 rfl) ?_
  refine lv_iconst (v := (0 : Int32)) hx hb dX6_isText_1 (by decide) ?_
  refine lv_iconst (v := (3 : Int32)) hx hb dX6_isText_2 (by decide) ?_
  refine r_Si (As := [.int x0, .int (0 : Int32), .int (3 : Int32)]) (rest := []) ⟨hx, hb, hml, hown, hts⟩ hC hP hS (c_X6_in l g u x0 (0 : Int32) (3 : Int32) rfl) (va_cwS 3 hts gX6_isText_X6_in rfl rfl rfl (by decide +kernel) ⟨(Nat.le_trans (Nat.le_of_ble_eq_true rfl) hRf), (Nat.le_trans (Nat.le_of_ble_eq_true rfl) hRl)⟩) rfl hl.1 rfl (Nat.le_of_ble_eq_true rfl) dX6_isText_3 (fun H locs hP hS => ?_)
  obtain rfl := hf
  exact kret _ _ _ _ dX6_isText_6 hP hS (z_X6_in x0 (0 : Int32) (3 : Int32)).1
set_option maxHeartbeats 4000000 in
set_option maxRecDepth 100000 in
theorem c_X6_text (l : Launch) (g : GG) (u : UU) (x1 : Int32) (x2 : Int32) {r : Int32} {u' : UU} (hf : f_X6_text x1 x2 u = some (r, u')) : Ci l g 55 20 yX6_text wsX6_text 2 42 [.ref (aD g 55), .int x1, .int x2] u r u' := by
  refine ct_i (cc := cX6_text) (maxL := 4) (by decide) rfl (Nat.le_of_ble_eq_true rfl) ?_
  intro p e s m args below meth c R Q ls hx hb hml hown hts hC hP hl hRf hRl kret hS
  have hown : s.vm.findClass RX6 = some m.cls := hown
  have hl : lv_has ls 4 [(0, .ref (aD g 55)), (1, .int x1), (2, .int x2)] := hl
  have hinX6 : ∀ w ∈ u_ws RX6 TX6 34, w ∈ wsX6_text := by decide +kernel
  have w_34 : ∀ (n : Nat), ∀ (x1 : Int32) (x2 : Int32) (x3 : Int32) (u : UU) (H : Heap) (locs : List Loc) (ls : Array Slot), Ps g 55 20 u H → va_S (aA g) s.heap H locs → lv_has ls 4 [(0, .ref (aD g 55)), (1, .int x1), (2, .int x2), (3, .int x3)] → f_X6_text_34 n x1 x2 x3 u = some (r, u') → W p l e R s m args below meth c H locs 0 0 Q (F0 m 34 ls []) := by
    intro n
    induction n with
    | zero =>
      intro x1 x2 x3 u H locs ls hP hS hl hf
      rw [f_X6_text_34] at hf
      cases hf
    | succ n ih =>
      intro x1 x2 x3 u H locs ls hP hS hl hf
      rw [f_X6_text_34] at hf
      refine lv_iload_n hx hb dX6_text_34 rfl (lv_at hl 3 rfl) ?_
      refine lv_bipush (v := (60 : Int32)) hx hb dX6_text_35 (by decide) ?_
      refine lv_icmp_ge (tgt := 59) hx hb dX6_text_37 (by decide) (fun c_6 => ?_) (fun c_6 => ?_)
      · rw [if_pos c_6] at hf
        refine lv_iload_n hx hb dX6_text_59 rfl (lv_at hl 2 rfl) ?_
        obtain ⟨rfl, rfl⟩ := sp2 hf
        exact kret _ _ _ _ dX6_text_60 hP hS trivial
      rw [if_neg c_6] at hf
      refine lv_aload_n hx hb dX6_text_40 rfl (lv_at hl 0 rfl) ?_
      refine r_get hx hb hts hown hC hP hinX6 55 (by decide) (ci := 5) rfl (by decide) rfl 9 (by decide) (hts (.fieldLink RX6 29 "LoafPartsModel" "bytes" "[B") (by decide +kernel)) (v := .ref (aD g 61)) rfl dX6_text_41 ?_
      refine lv_bipush (v := (60 : Int32)) hx hb dX6_text_44 (by decide) ?_
      refine lv_iload_n hx hb dX6_text_46 rfl (lv_at hl 1 rfl) ?_
      refine lv_imul hx hb dX6_text_47 ?_
      refine lv_iload_n hx hb dX6_text_48 rfl (lv_at hl 3 rfl) ?_
      refine lv_iadd hx hb dX6_text_49 ?_
      refine lv_bipush (v := (32 : Int32)) hx hb dX6_text_50 (by decide) ?_
      obtain ⟨hi_7, hf⟩ := ix_ex hf
      obtain ⟨u_8, eu_8, hf⟩ := lt_ex hf
      refine r_bast hx hb hC hP hS 61 (by decide) rfl hi_7 eu_8 dX6_text_52 (fun H locs hP hS => ?_)
      obtain ⟨x3_9, ex3_9, hf⟩ := lt_ex hf
      refine lv_iinc (v := x3_9) (lv' := [(3, .int x3_9), (0, .ref (aD g 55)), (1, .int x1), (2, .int x2)]) hx hb dX6_text_53 hl (k := 3) rfl (by rw [ex3_9]; rfl) (by decide) rfl (fun ls hl => ?_)
      refine lv_goto (tgt := 34) hx hb dX6_text_56 (by decide) ?_
      exact ih x1 x2 x3_9 u_8 _ _ _ hP hS (lv_sub hl [1, 2, 3, 0] rfl) hf
  unfold f_X6_text at hf
  refine lv_iload_n hx hb dX6_text_0 rfl (lv_at hl 1 rfl) ?_
  refine r_Si (As := [.int x1]) (rest := []) ⟨hx, hb, hml, hown, hts⟩ hC hP hS (c_X6_isText l g u x1 rfl) (va_cwS 1 hts gX6_text_X6_isText rfl rfl rfl (by decide +kernel) ⟨(Nat.le_trans (Nat.le_of_ble_eq_true rfl) hRf), (Nat.le_trans (Nat.le_of_ble_eq_true rfl) hRl)⟩) rfl hl.1 rfl (Nat.le_of_ble_eq_true rfl) dX6_text_1 (fun H locs hP hS => ?_)
  refine lv_if_eq (tgt := 13) hx hb dX6_text_4 (by decide) (fun c_1 => ?_) (fun c_1 => ?_)
  · rw [if_pos c_1] at hf
    refine lv_iconst (v := (-1 : Int32)) hx hb dX6_text_13 (by decide) ?_
    obtain ⟨rfl, rfl⟩ := sp2 hf
    exact kret _ _ _ _ dX6_text_14 hP hS trivial
  rw [if_neg c_1] at hf
  refine lv_iload_n hx hb dX6_text_7 rfl (lv_at hl 2 rfl) ?_
  refine lv_bipush (v := (60 : Int32)) hx hb dX6_text_8 (by decide) ?_
  refine lv_icmp_le (tgt := 15) hx hb dX6_text_10 (by decide) (fun c_2 => ?_) (fun c_2 => ?_)
  · rw [if_pos c_2] at hf
    refine lv_iload_n hx hb dX6_text_15 rfl (lv_at hl 2 rfl) ?_
    refine lv_if_ge (tgt := 25) hx hb dX6_text_16 (by decide) (fun c_3 => ?_) (fun c_3 => ?_)
    · rw [if_pos c_3] at hf
      refine lv_aload_n hx hb dX6_text_25 rfl (lv_at hl 0 rfl) ?_
      refine r_get hx hb hts hown hC hP hinX6 55 (by decide) (ci := 5) rfl (by decide) rfl 8 (by decide) (hts (.fieldLink RX6 26 "LoafPartsModel" "textSizes" "[I") (by decide +kernel)) (v := .ref (aD g 60)) rfl dX6_text_26 ?_
      refine lv_iload_n hx hb dX6_text_29 rfl (lv_at hl 1 rfl) ?_
      refine lv_iload_n hx hb dX6_text_30 rfl (lv_at hl 2 rfl) ?_
      obtain ⟨hi_4, hf⟩ := ix_ex hf
      obtain ⟨u_5, eu_5, hf⟩ := lt_ex hf
      refine r_ast hx hb hC hP hS 60 (by decide) rfl hi_4 eu_5 dX6_text_31 (fun H locs hP hS => ?_)
      refine lv_iconst (v := (0 : Int32)) hx hb dX6_text_32 (by decide) ?_
      refine lv_istore_n (lv' := [(3, .int (0 : Int32)), (0, .ref (aD g 55)), (1, .int x1), (2, .int x2)]) hx hb dX6_text_33 rfl hl (by decide) rfl (fun ls hl => ?_)
      exact w_34 fu x1 x2 (0 : Int32) u_5 _ _ _ hP hS (lv_sub hl [1, 2, 3, 0] rfl) hf
    rw [if_neg c_3] at hf
    refine lv_aload_n hx hb dX6_text_19 rfl (lv_at hl 0 rfl) ?_
    refine lv_iconst (v := (5 : Int32)) hx hb dX6_text_20 (by decide) ?_
    obtain ⟨q_10, hq_10, hf⟩ := bind_ex hf
    refine r_Vi (r := q_10.1) (u' := q_10.2) (As := [.int (5 : Int32)]) (rest := []) (k := 55) (ci := 5) ⟨hx, hb, hml, hown, hts⟩ hC hP hS (by decide) rfl (by decide) rfl (c_X6_meets l g u (5 : Int32) hq_10) (cwV 1 hts gX6_text_X6_meets rfl rfl rfl (by decide +kernel) ⟨(Nat.le_trans (Nat.le_of_ble_eq_true rfl) hRf), (Nat.le_trans (Nat.le_of_ble_eq_true rfl) hRl)⟩) rfl hl.1 rfl (Nat.le_of_ble_eq_true rfl) dX6_text_21 (fun H locs hP hS => ?_)
    obtain ⟨rfl, rfl⟩ := sp2 hf
    exact kret _ _ _ _ dX6_text_24 hP hS trivial
  rw [if_neg c_2] at hf
  refine lv_iconst (v := (-1 : Int32)) hx hb dX6_text_13 (by decide) ?_
  obtain ⟨rfl, rfl⟩ := sp2 hf
  exact kret _ _ _ _ dX6_text_14 hP hS trivial