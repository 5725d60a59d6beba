set_option maxHeartbeats 4000000 in
set_option maxRecDepth 100000 in
theorem c_X4_bestGain (l : Launch) (g : GG) : ∀ (d : Nat) (u : UU) (x1 : Int32) (x2 : Int32) (x3 : Int32) (x4 : Int32) (x5 : Int32) {r : Int32} {u' : UU}, f_X4_bestGain d x1 x2 x3 x4 x5 u = some (r, u') → Ci l g 0 55 yX4_bestGain wsX4_bestGain (3 + d) (63 + d * 29) [.ref (aD g 11), .int x1, .int x2, .int x3, .int x4, .int x5] u r u' := by
  intro d
  induction d with
  | zero =>
    intro u x1 x2 x3 x4 x5 r u' hf
    rw [f_X4_bestGain] at hf
    cases hf
  | succ d ihr =>
    intro u x1 x2 x3 x4 x5 r u' hf
    rw [f_X4_bestGain] at hf
    unfold f_X4_bestGain_body at hf
    generalize hrc : f_X4_bestGain d = rc at hf ihr
    clear hrc
    refine ct_i (cc := cX4_bestGain) (maxL := 10) (by decide) rfl (Nat.le_of_ble_eq_true rfl) ?_
    intro p e s m args below meth c R Q ls hx hb hml hown hts hC hP hl hRf hRl kret hS
    have hown : s.vm.findClass RX4 = some m.cls := hown
    have hl : lv_has ls 10 [(0, .ref (aD g 11)), (1, .int x1), (2, .int x2), (3, .int x3), (4, .int x4), (5, .int x5)] := hl
    have w_123 : ∀ (x1 : Int32) (x2 : Int32) (x3 : Int32) (x5 : Int32) (x7 : Int32) (u : UU) (H : Heap) (locs : List Loc) (ls : Array Slot), Ps g 0 55 u H → va_S (aA g) s.heap H locs → lv_has ls 10 [(0, .ref (aD g 11)), (1, .int x1), (2, .int x2), (3, .int x3), (5, .int x5), (7, .int x7)] → f_X4_bestGain_123 rc x1 x2 x3 x5 x7 u = some (r, u') → W p l e R s m args below meth c H locs 0 0 Q (F0 m 123 ls []) := by
      intro x1 x2 x3 x5 x7 u H locs ls hP hS hl hf
      unfold f_X4_bestGain_123 at hf
      refine lv_iload hx hb dX4_bestGain_123 (lv_at hl 5 rfl) ?_
      refine lv_iload hx hb dX4_bestGain_125 (lv_at hl 4 rfl) ?_
      refine lv_icmp_ge (tgt := 154) hx hb dX4_bestGain_127 (by decide) (fun c_5 => ?_) (fun c_5 => ?_)
      · rw [if_pos c_5] at hf
        refine lv_iload hx hb dX4_bestGain_154 (lv_at hl 5 rfl) ?_
        obtain ⟨rfl, rfl⟩ := sp2 hf
        exact kret _ _ _ _ dX4_bestGain_156 hP hS trivial
      rw [if_neg c_5] at hf
      refine lv_iload hx hb dX4_bestGain_130 (lv_at hl 5 rfl) ?_
      refine lv_aload_n hx hb dX4_bestGain_132 rfl (lv_at hl 0 rfl) ?_
      refine lv_iload_n hx hb dX4_bestGain_133 rfl (lv_at hl 2 rfl) ?_
      refine lv_iload_n hx hb dX4_bestGain_134 rfl (lv_at hl 1 rfl) ?_
      refine lv_iload_n hx hb dX4_bestGain_135 rfl (lv_at hl 3 rfl) ?_
      refine lv_iconst (v := (1 : Int32)) hx hb dX4_bestGain_136 (by decide) ?_
      refine lv_isub hx hb dX4_bestGain_137 ?_
      refine lv_iload hx hb dX4_bestGain_138 (lv_at hl 4 rfl) ?_
      refine lv_ineg hx hb dX4_bestGain_140 ?_
      refine lv_iload hx hb dX4_bestGain_141 (lv_at hl 5 rfl) ?_
      refine lv_ineg hx hb dX4_bestGain_143 ?_
      obtain ⟨q_6, hq_6, hf⟩ := bind_ex hf
      refine r_Vi (r := q_6.1) (u' := q_6.2) (As := [.int x2, .int x1, .int (x3 - (1 : Int32)), .int (-x5), .int (-x7)]) (rest := [.int x7]) (k := 11) (ci := 3) ⟨hx, hb, hml, hown, hts⟩ hC hP hS (by decide) rfl (by decide) rfl (ihr u x2 x1 (x3 - (1 : Int32)) (-x5) (-x7) hq_6) (cwV 5 hts gX4_bestGain_X4_bestGain rfl rfl rfl (by decide +kernel) ⟨(by dsimp only [rmm]; omega), (by dsimp only [rmm]; omega)⟩) rfl hl.1 rfl (Nat.le_of_ble_eq_true rfl) dX4_bestGain_144 (fun H locs hP hS => ?_)
      refine lv_ineg hx hb dX4_bestGain_147 ?_
      refine va_mmax hx hb (hml.trans hl.1.symm) hown (hts (.methodLink RX4 84 Lib.Math.max.name) (by decide +kernel)) (hts (.static Lib.Math.max.name) (by decide +kernel)) (hts (.initialized "java/lang/Math") (by decide +kernel)) (hts (.code Lib.Math.max.name Lib.Math.max.code 2 (some .int)) (by decide +kernel)) (by omega) (Nat.le_trans (Nat.le_of_ble_eq_true rfl) (show 21 ≤ R.locals by omega)) (Nat.zero_le _) (Nat.zero_le _) dX4_bestGain_148 ?_
      refine lv_goto (tgt := 156) hx hb dX4_bestGain_151 (by decide) ?_
      obtain ⟨rfl, rfl⟩ := sp2 hf
      exact kret _ _ _ _ dX4_bestGain_156 hP hS trivial
    have w_117 : ∀ (k_43 : Int32 → Int32 → Int32 → Int32 → Int32 → Int32 → Int32 → UU → Option (Int32 × UU)) (K_43 : ∀ (x1 : Int32) (x2 : Int32) (x3 : Int32) (x5 : Int32) (x6 : Int32) (x7 : Int32) (x8 : Int32) (u : UU) (H : Heap) (locs : List Loc) (ls : Array Slot), Ps g 0 55 u H → va_S (aA g) s.heap H locs → lv_has ls 10 [(0, .ref (aD g 11)), (1, .int x1), (2, .int x2), (3, .int x3), (5, .int x5), (6, .int x6), (7, .int x7), (8, .int x8)] → k_43 x1 x2 x3 x5 x6 x7 x8 u = some (r, u') → W p l e R s m args below meth c H locs 0 0 Q (F0 m 43 ls [])), ∀ (x1 : Int32) (x2 : Int32) (x3 : Int32) (x5 : Int32) (x6 : Int32) (x7 : Int32) (x8 : Int32) (u : UU) (H : Heap) (locs : List Loc) (ls : Array Slot), Ps g 0 55 u H → va_S (aA g) s.heap H locs → lv_has ls 10 [(0, .ref (aD g 11)), (1, .int x1), (2, .int x2), (3, .int x3), (5, .int x5), (6, .int x6), (7, .int x7), (8, .int x8)] → f_X4_bestGain_117 rc k_43 x1 x2 x3 x5 x6 x7 x8 u = some (r, u') → W p l e R s m args below meth c H locs 0 0 Q (F0 m 117 ls []) := by
      intro k_43 K_43
      intro x1 x2 x3 x5 x6 x7 x8 u H locs ls hP hS hl hf
      unfold f_X4_bestGain_117 at hf
      obtain ⟨x8_9, ex8_9, hf⟩ := lt_ex hf
      refine lv_iinc (v := x8_9) (lv' := [(8, .int x8_9), (0, .ref (aD g 11)), (1, .int x1), (2, .int x2), (3, .int x3), (5, .int x5), (6, .int x6), (7, .int x7)]) hx hb dX4_bestGain_117 hl (k := 7) rfl (by rw [ex8_9]; rfl) (by decide) rfl (fun ls hl => ?_)
      refine lv_goto (tgt := 43) hx hb dX4_bestGain_120 (by decide) ?_
      exact K_43 x1 x2 x3 x5 x6 x7 x8_9 u _ _ _ hP hS (lv_sub hl [1, 2, 3, 4, 5, 6, 7, 0] rfl) hf
    have w_43 : ∀ (n : Nat), ∀ (x1 : Int32) (x2 : Int32) (x3 : Int32) (x5 : Int32) (x6 : Int32) (x7 : Int32) (x8 : Int32) (u : UU) (H : Heap) (locs : List Loc) (ls : Array Slot), Ps g 0 55 u H → va_S (aA g) s.heap H locs → lv_has ls 10 [(0, .ref (aD g 11)), (1, .int x1), (2, .int x2), (3, .int x3), (5, .int x5), (6, .int x6), (7, .int x7), (8, .int x8)] → f_X4_bestGain_43 rc n x1 x2 x3 x5 x6 x7 x8 u = some (r, u') → W p l e R s m args below meth c H locs 0 0 Q (F0 m 43 ls []) := by
      intro n
      induction n with
      | zero =>
        intro x1 x2 x3 x5 x6 x7 x8 u H locs ls hP hS hl hf
        rw [f_X4_bestGain_43] at hf
        cases hf
      | succ n ih =>
        intro x1 x2 x3 x5 x6 x7 x8 u H locs ls hP hS hl hf
        rw [f_X4_bestGain_43] at hf
        refine lv_iload hx hb dX4_bestGain_43 (lv_at hl 7 rfl) ?_
        refine lv_bipush (v := (16 : Int32)) hx hb dX4_bestGain_45 (by decide) ?_
        refine lv_icmp_gt (tgt := 123) hx hb dX4_bestGain_47 (by decide) (fun c_4 => ?_) (fun c_4 => ?_)
        · rw [if_pos c_4] at hf
          exact w_123 x1 x2 x3 x5 x7 u _ _ _ hP hS (lv_sub hl [0, 1, 2, 3, 4, 6] rfl) hf
        rw [if_neg c_4] at hf
        refine lv_iload hx hb dX4_bestGain_50 (lv_at hl 6 rfl) ?_
        refine lv_iload hx hb dX4_bestGain_52 (lv_at hl 4 rfl) ?_
        refine lv_icmp_ge (tgt := 123) hx hb dX4_bestGain_54 (by decide) (fun c_7 => ?_) (fun c_7 => ?_)
        · rw [if_pos c_7] at hf
          exact w_123 x1 x2 x3 x5 x7 u _ _ _ hP hS (lv_sub hl [0, 1, 2, 3, 4, 6] rfl) hf
        rw [if_neg c_7] at hf
        refine lv_iload hx hb dX4_bestGain_57 (lv_at hl 5 rfl) ?_
        refine lv_iload hx hb dX4_bestGain_59 (lv_at hl 7 rfl) ?_
        refine r_SNi (As := [.int x6, .int x8]) (rest := []) ⟨hx, hb, hml, hown, hts⟩ hC hP hS (c_X5_holds l g u x6 x8 rfl) ⟨va_cnB 2 hts gX4_bestGain_X5_holds_n103 rfl rfl rfl (hC.2.2.1.2 _ (List.mem_of_getElem? (i := 3) rfl)) (hts (.initialized RX5) (by decide +kernel)) (by decide +kernel) ⟨(by dsimp only [rmm]; omega), (by dsimp only [rmm]; omega)⟩, hts (.static yX5_holds) (by decide +kernel), trivial⟩ rfl hl.1 rfl (Nat.le_of_ble_eq_true rfl) dX4_bestGain_61 (fun H locs hP hS => ?_)
        refine lv_if_eq (tgt := 117) hx hb dX4_bestGain_64 (by decide) (fun c_8 => ?_) (fun c_8 => ?_)
        · rw [if_pos c_8] at hf
          exact w_117 (f_X4_bestGain_43 rc n) ih x1 x2 x3 x5 x6 x7 x8 u _ _ _ hP hS (lv_sub hl [0, 1, 2, 3, 4, 5, 6, 7] rfl) hf
        rw [if_neg c_8] at hf
        refine lv_iload hx hb dX4_bestGain_67 (lv_at hl 7 rfl) ?_
        refine r_SNi (As := [.int x8]) (rest := []) ⟨hx, hb, hml, hown, hts⟩ hC hP hS (c_X5_partSize l g u x8 rfl) ⟨va_cnB 1 hts gX4_bestGain_X5_partSize_n146 rfl rfl rfl (hC.2.2.1.2 _ (List.mem_of_getElem? (i := 4) rfl)) (hts (.initialized RX5) (by decide +kernel)) (by decide +kernel) ⟨(by dsimp only [rmm]; omega), (by dsimp only [rmm]; omega)⟩, hts (.static yX5_partSize) (by decide +kernel), trivial⟩ rfl hl.1 rfl (Nat.le_of_ble_eq_true rfl) dX4_bestGain_69 (fun H locs hP hS => ?_)
        obtain ⟨x9_10, ex9_10, hf⟩ := lt_ex hf
        refine r_nm ex9_10 ?_
        refine lv_istore (lv' := [(9, .int x9_10), (0, .ref (aD g 11)), (1, .int x1), (2, .int x2), (3, .int x3), (5, .int x5), (6, .int x6), (7, .int x7), (8, .int x8)]) hx hb dX4_bestGain_72 hl (by decide) rfl (fun ls hl => ?_)
        refine lv_aload_n hx hb dX4_bestGain_74 rfl (lv_at hl 1 rfl) ?_
        refine lv_iload_n hx hb dX4_bestGain_75 rfl (lv_at hl 2 rfl) ?_
        refine lv_iload hx hb dX4_bestGain_76 (lv_at hl 8 rfl) ?_
        obtain ⟨q_11, hq_11, hf⟩ := bind_ex hf
        refine r_Vv (As := [.int x1, .int x8]) (rest := []) (k := 11) (ci := 3) ⟨hx, hb, hml, hown, hts⟩ hC hP hS (by decide) rfl (by decide) rfl (c_X4_toHand l g u x1 x8 hq_11) (cwV 2 hts gX4_bestGain_X4_toHand rfl rfl rfl (by decide +kernel) ⟨(by dsimp only [rmm]; omega), (by dsimp only [rmm]; omega)⟩) rfl hl.1 rfl (Nat.le_of_ble_eq_true rfl) dX4_bestGain_78 (fun H locs hP hS => ?_)
        refine lv_iload hx hb dX4_bestGain_81 (lv_at hl 7 rfl) ?_
        refine lv_iload hx hb dX4_bestGain_83 (lv_at hl 0 rfl) ?_
        refine lv_aload_n hx hb dX4_bestGain_85 rfl (lv_at hl 1 rfl) ?_
        refine lv_iload_n hx hb dX4_bestGain_86 rfl (lv_at hl 3 rfl) ?_
        refine lv_iload_n hx hb dX4_bestGain_87 rfl (lv_at hl 2 rfl) ?_
        refine lv_iload_n hx hb dX4_bestGain_88 rfl (lv_at hl 4 rfl) ?_
        refine lv_iconst (v := (1 : Int32)) hx hb dX4_bestGain_89 (by decide) ?_
        refine lv_isub hx hb dX4_bestGain_90 ?_
        refine lv_iload hx hb dX4_bestGain_91 (lv_at hl 0 rfl) ?_
        refine lv_iload hx hb dX4_bestGain_93 (lv_at hl 5 rfl) ?_
        refine lv_isub hx hb dX4_bestGain_95 ?_
        refine lv_iload hx hb dX4_bestGain_96 (lv_at hl 0 rfl) ?_
        refine lv_iload hx hb dX4_bestGain_98 (lv_at hl 7 rfl) ?_
        refine lv_isub hx hb dX4_bestGain_100 ?_
        obtain ⟨q_12, hq_12, hf⟩ := bind_ex hf
        refine r_Vi (r := q_12.1) (u' := q_12.2) (As := [.int x2, .int x1, .int (x3 - (1 : Int32)), .int (x9_10 - x5), .int (x9_10 - x7)]) (rest := [.int x9_10, .int x7]) (k := 11) (ci := 3) ⟨hx, hb, hml, hown, hts⟩ hC hP hS (by decide) rfl (by decide) rfl (ihr q_11 x2 x1 (x3 - (1 : Int32)) (x9_10 - x5) (x9_10 - x7) hq_12) (cwV 5 hts gX4_bestGain_X4_bestGain rfl rfl rfl (by decide +kernel) ⟨(by dsimp only [rmm]; omega), (by dsimp only [rmm]; omega)⟩) rfl hl.1 rfl (Nat.le_of_ble_eq_true rfl) dX4_bestGain_101 (fun H locs hP hS => ?_)
        refine lv_isub hx hb dX4_bestGain_104 ?_
        refine va_mmax hx hb (hml.trans hl.1.symm) hown (hts (.methodLink RX4 84 Lib.Math.max.name) (by decide +kernel)) (hts (.static Lib.Math.max.name) (by decide +kernel)) (hts (.initialized "java/lang/Math") (by decide +kernel)) (hts (.code Lib.Math.max.name Lib.Math.max.code 2 (some .int)) (by decide +kernel)) (by omega) (Nat.le_trans (Nat.le_of_ble_eq_true rfl) (show 21 ≤ R.locals by omega)) (Nat.zero_le _) (Nat.zero_le _) dX4_bestGain_105 ?_
        obtain ⟨x7_13, ex7_13, hf⟩ := lt_ex hf
        refine r_nm ex7_13 ?_
        refine lv_istore (lv' := [(7, .int x7_13), (9, .int x9_10), (0, .ref (aD g 11)), (1, .int x1), (2, .int x2), (3, .int x3), (5, .int x5), (6, .int x6), (8, .int x8)]) hx hb dX4_bestGain_108 hl (by decide) rfl (fun ls hl => ?_)
        refine lv_aload_n hx hb dX4_bestGain_110 rfl (lv_at hl 2 rfl) ?_
        refine lv_iload_n hx hb dX4_bestGain_111 rfl (lv_at hl 3 rfl) ?_
        refine lv_iload hx hb dX4_bestGain_112 (lv_at hl 8 rfl) ?_
        obtain ⟨q_14, hq_14, hf⟩ := bind_ex hf
        refine r_Vv (As := [.int x1, .int x8]) (rest := []) (k := 11) (ci := 3) ⟨hx, hb, hml, hown, hts⟩ hC hP hS (by decide) rfl (by decide) rfl (c_X4_fromHand l g q_12.2 x1 x8 hq_14) (cwV 2 hts gX4_bestGain_X4_fromHand rfl rfl rfl (by decide +kernel) ⟨(by dsimp only [rmm]; omega), (by dsimp only [rmm]; omega)⟩) rfl hl.1 rfl (Nat.le_of_ble_eq_true rfl) dX4_bestGain_114 (fun H locs hP hS => ?_)
        exact w_117 (f_X4_bestGain_43 rc n) ih x1 x2 x3 x5 x6 x7_13 x8 q_14 _ _ _ hP hS (lv_sub hl [2, 3, 4, 5, 6, 7, 0, 8] rfl) hf
    refine lv_iload_n hx hb dX4_bestGain_0 rfl (lv_at hl 3 rfl) ?_
    refine lv_if_gt (tgt := 6) hx hb dX4_bestGain_1 (by decide) (fun c_1 => ?_) (fun c_1 => ?_)
    · rw [if_pos c_1] at hf
      refine lv_aload_n hx hb dX4_bestGain_6 rfl (lv_at hl 0 rfl) ?_
      refine lv_iload_n hx hb dX4_bestGain_7 rfl (lv_at hl 1 rfl) ?_
      obtain ⟨q_2, hq_2, hf⟩ := bind_ex hf
      refine r_Vi (As := [.int x1]) (rest := []) (k := 11) (ci := 3) ⟨hx, hb, hml, hown, hts⟩ hC hP hS (by decide) rfl (by decide) rfl (c_X4_fitFor l g u x1 hq_2) (cwV 1 hts gX4_bestGain_X4_fitFor rfl rfl rfl (by decide +kernel) ⟨(by dsimp only [rmm]; omega), (by dsimp only [rmm]; omega)⟩) rfl hl.1 rfl (Nat.le_of_ble_eq_true rfl) dX4_bestGain_8 (fun H locs hP hS => ?_)
      refine lv_istore (lv' := [(6, .int q_2), (0, .ref (aD g 11)), (1, .int x1), (2, .int x2), (3, .int x3), (4, .int x4), (5, .int x5)]) hx hb dX4_bestGain_11 hl (by decide) rfl (fun ls hl => ?_)
      refine lv_iload_n hx hb dX4_bestGain_13 rfl (lv_at hl 4 rfl) ?_
      refine lv_iconst (v := (1 : Int32)) hx hb dX4_bestGain_14 (by decide) ?_
      refine lv_icmp_ne (tgt := 36) hx hb dX4_bestGain_15 (by decide) (fun c_3 => ?_) (fun c_3 => ?_)
      · rw [if_neg c_3] at hf
        refine lv_iload hx hb dX4_bestGain_36 (lv_at hl 5 rfl) ?_
        refine lv_istore (lv' := [(7, .int x4), (6, .int q_2), (0, .ref (aD g 11)), (1, .int x1), (2, .int x2), (3, .int x3), (4, .int x4), (5, .int x5)]) hx hb dX4_bestGain_38 hl (by decide) rfl (fun ls hl => ?_)
        refine lv_iconst (v := (2 : Int32)) hx hb dX4_bestGain_40 (by decide) ?_
        refine lv_istore (lv' := [(8, .int (2 : Int32)), (7, .int x4), (6, .int q_2), (0, .ref (aD g 11)), (1, .int x1), (2, .int x2), (3, .int x3), (4, .int x4), (5, .int x5)]) hx hb dX4_bestGain_41 hl (by decide) rfl (fun ls hl => ?_)
        exact w_43 fu x1 x2 x3 x5 q_2 x4 (2 : Int32) u _ _ _ hP hS (lv_sub hl [3, 4, 5, 6, 8, 2, 1, 0] rfl) hf
      rw [if_pos c_3] at hf
      refine lv_iload hx hb dX4_bestGain_18 (lv_at hl 0 rfl) ?_
      refine lv_if_ne (tgt := 27) hx hb dX4_bestGain_20 (by decide) (fun c_15 => ?_) (fun c_15 => ?_)
      · rw [if_neg c_15] at hf
        refine lv_iload hx hb dX4_bestGain_27 (lv_at hl 0 rfl) ?_
        refine r_Si (As := [.int q_2]) (rest := []) ⟨hx, hb, hml, hown, hts⟩ hC hP hS (c_J6_numberOfTrailingZeros_0f7a4 l g u q_2 rfl) (va_cwS 1 hts gX4_bestGain_J6_numberOfTrailingZeros_0f7a4 rfl rfl rfl (by decide +kernel) ⟨(by dsimp only [rmm]; omega), (by dsimp only [rmm]; omega)⟩) rfl hl.1 rfl (Nat.le_of_ble_eq_true rfl) dX4_bestGain_29 (fun H locs hP hS => ?_)
        refine r_SNi (As := [.int (f_J6_numberOfTrailingZeros_0f7a4 q_2)]) (rest := []) ⟨hx, hb, hml, hown, hts⟩ hC hP hS (c_X5_partSize l g u (f_J6_numberOfTrailingZeros_0f7a4 q_2) rfl) ⟨va_cnB 1 hts gX4_bestGain_X5_partSize_n146 rfl rfl rfl (hC.2.2.1.2 _ (List.mem_of_getElem? (i := 4) rfl)) (hts (.initialized RX5) (by decide +kernel)) (by decide +kernel) ⟨(by dsimp only [rmm]; omega), (by dsimp only [rmm]; omega)⟩, hts (.static yX5_partSize) (by decide +kernel), trivial⟩ rfl hl.1 rfl (Nat.le_of_ble_eq_true rfl) dX4_bestGain_32 (fun H locs hP hS => ?_)
        obtain ⟨rfl, rfl⟩ := sp2 hf
        exact kret _ _ _ _ dX4_bestGain_35 hP hS trivial
      rw [if_pos c_15] at hf
      refine lv_iconst (v := (0 : Int32)) hx hb dX4_bestGain_23 (by decide) ?_
      refine lv_goto (tgt := 35) hx hb dX4_bestGain_24 (by decide) ?_
      obtain ⟨rfl, rfl⟩ := sp2 hf
      exact kret _ _ _ _ dX4_bestGain_35 hP hS trivial
    rw [if_neg c_1] at hf
    refine lv_iconst (v := (0 : Int32)) hx hb dX4_bestGain_4 (by decide) ?_
    obtain ⟨rfl, rfl⟩ := sp2 hf
    exact kret _ _ _ _ dX4_bestGain_5 hP hS trivial
set_option maxHeartbeats 4000000 in
set_option maxRecDepth 100000 in
theorem c_X4_gainByTurns (l : Launch) (g : GG) (u : UU) (x1 : Int32) (x2 : Int32) (x3 : Int32) {r : Int32} {u' : UU} (hf : f_X4_gainByTurns x1 x2 x3 u = some (r, u')) : Ci l g 0 55 yX4_gainByTurns wsX4_gainByTurns 24 672 [.ref (aD g 11), .int x1, .int x2, .int x3] u r u' := by
  refine ct_i (cc := cX4_gainByTurns) (maxL := 5) (by decide) rfl (Nat.le_of_ble_eq_true rfl) ?_
  intro p e s m args below meth c R Q ls hx hb hml hown hts hC hP hl hRf hRl kret hS
  have hown : s.vm.findClass RX4 = some m.cls := hown
  have hl : lv_has ls 5 [(0, .ref (aD g 11)), (1, .int x1), (2, .int x2), (3, .int x3)] := hl
  unfold f_X4_gainByTurns at hf
  refine lv_ldc (v := (2882880 : Int32)) hx hb hown (hts (.constant RX4 149 (2882880)) (by decide +kernel)) dX4_gainByTurns_0 ?_
  refine lv_istore (lv' := [(4, .int (2882880 : Int32)), (0, .ref (aD g 11)), (1, .int x1), (2, .int x2), (3, .int x3)]) hx hb dX4_gainByTurns_2 hl (by decide) rfl (fun ls hl => ?_)
  refine lv_aload_n hx hb dX4_gainByTurns_4 rfl (lv_at hl 1 rfl) ?_
  refine lv_iload_n hx hb dX4_gainByTurns_5 rfl (lv_at hl 2 rfl) ?_
  refine lv_iload_n hx hb dX4_gainByTurns_6 rfl (lv_at hl 3 rfl) ?_
  refine lv_iload_n hx hb dX4_gainByTurns_7 rfl (lv_at hl 4 rfl) ?_
  refine lv_iload hx hb dX4_gainByTurns_8 (lv_at hl 0 rfl) ?_
  refine lv_ineg hx hb dX4_gainByTurns_10 ?_
  refine lv_iload hx hb dX4_gainByTurns_11 (lv_at hl 0 rfl) ?_
  obtain ⟨q_1, hq_1, hf⟩ := bind_ex hf
  refine r_Vi (r := q_1.1) (u' := q_1.2) (As := [.int x1, .int x2, .int x3, .int (-(2882880 : Int32)), .int (2882880 : Int32)]) (rest := []) (k := 11) (ci := 3) ⟨hx, hb, hml, hown, hts⟩ hC hP hS (by decide) rfl (by decide) rfl (c_X4_bestGain l g 20 u x1 x2 x3 (-(2882880 : Int32)) (2882880 : Int32) hq_1) (cwV 5 hts gX4_gainByTurns_X4_bestGain rfl rfl rfl (by decide +kernel) ⟨(Nat.le_trans (Nat.le_of_ble_eq_true rfl) hRf), (Nat.le_trans (Nat.le_of_ble_eq_true rfl) hRl)⟩) rfl hl.1 rfl (Nat.le_of_ble_eq_true rfl) dX4_gainByTurns_13 (fun H locs hP hS => ?_)
  obtain ⟨rfl, rfl⟩ := sp2 hf
  exact kret _ _ _ _ dX4_gainByTurns_16 hP hS trivial
theorem ct_iF {l : Launch} {g : GG} {lo n0 : Nat} {y : MethodName} {ws ws' : List Cond} {f w : Nat} {avs : List Value} {u u' : UU} {cc : ByteArray} {maxL : Nat} {r : Int32} (hy : plainFor y = true) (hw : ws = .code y cc maxL (some .int) :: ws') (hlen : (lg_sl avs).length ≤ maxL) (body : Bd l g lo n0 y ws f w avs u u' cc maxL .ireturn [.int r] True) : Ci l g lo n0 y ws f w avs u r u' := by
  refine va_MetF (cc := cc) (maxL := maxL) (ret := some .int) hy hw ?_
  intro p e s m args below meth c s₁ B hml hv
  obtain ⟨rfl, hP, hC⟩ := hv
  have hlocks := B.notSynchronized
  obtain ⟨ls, hl, he⟩ := FB_lv (m := m) hlen
  rw [he]
  refine body p e s m _ below meth c _ _ ls B.exec B.bytes hml (findClass_of_methodNamed B.named) (atoms_spec (ws := ws) B.pre) hC hP hl (Nat.le_refl _) (Nat.le_refl _) ?_ va_S.rf
  intro pc H locs ls hd hP hS _
  exact W.iret (v := r) B.exec B.bytes B.returns (fun t ht hW => ⟨⟨r, u', rfl, ⟨rfl, rfl⟩, (show Ps g lo n0 u' t.heap by rw [ht]; exact hP)⟩, hS.F ht⟩) hS.2.2 hd
set_option maxHeartbeats 4000000 in
set_option maxRecDepth 100000 in
theorem c_J9_floorDiv_7cf53 (l : Launch) (g : GG) (u : UU) (x0 : Int32) (x1 : Int32) {r : Int32} (hf : f_J9_floorDiv_7cf53 x0 x1 u = some r) : Ci l g 0 55 yJ9_floorDiv_7cf53 wsJ9_floorDiv_7cf53 0 0 [.int x0, .int x1] u r u := by
  refine ct_iF (cc := cJ9_floorDiv_7cf53) (maxL := 3) (by decide +kernel) rfl (Nat.le_of_ble_eq_true rfl) ?_
  intro p e s m args below meth c R Q ls hx hb hml hown hts hC hP hl hRf hRl kret hS
  have hown : s.vm.findClass RJ9 = some m.cls := hown
  have hl : lv_has ls 3 [(0, .int x0), (1, .int x1)] := hl
  unfold f_J9_floorDiv_7cf53 at hf
  refine lv_iload_n hx hb dJ9_floorDiv_7cf53_0 rfl (lv_at hl 0 rfl) ?_
  refine lv_iload_n hx hb dJ9_floorDiv_7cf53_1 rfl (lv_at hl 1 rfl) ?_
  obtain ⟨hz_1, hf⟩ := nz_ex hf
  refine lv_idiv hx hb dJ9_floorDiv_7cf53_2 hz_1 ?_
  obtain ⟨x2_2, ex2_2, hf⟩ := lt_ex hf
  refine r_nm ex2_2 ?_
  refine lv_istore_n (lv' := [(2, .int x2_2), (0, .int x0), (1, .int x1)]) hx hb dJ9_floorDiv_7cf53_3 rfl hl (by decide) rfl (fun ls hl => ?_)
  refine lv_iload_n hx hb dJ9_floorDiv_7cf53_4 rfl (lv_at hl 1 rfl) ?_
  refine lv_iload_n hx hb dJ9_floorDiv_7cf53_5 rfl (lv_at hl 2 rfl) ?_
  refine lv_ixor hx hb dJ9_floorDiv_7cf53_6 ?_
  refine lv_if_ge (tgt := 21) hx hb dJ9_floorDiv_7cf53_7 (by decide) (fun c_3 => ?_) (fun c_3 => ?_)
  · rw [if_pos c_3] at hf
    refine lv_iload_n hx hb dJ9_floorDiv_7cf53_21 rfl (lv_at hl 0 rfl) ?_
    obtain rfl := sp1 hf
    exact kret _ _ _ _ dJ9_floorDiv_7cf53_22 hP hS trivial
  rw [if_neg c_3] at hf
  refine lv_iload_n hx hb dJ9_floorDiv_7cf53_10 rfl (lv_at hl 0 rfl) ?_
  refine lv_iload_n hx hb dJ9_floorDiv_7cf53_11 rfl (lv_at hl 2 rfl) ?_
  refine lv_imul hx hb dJ9_floorDiv_7cf53_12 ?_
  refine lv_iload_n hx hb dJ9_floorDiv_7cf53_13 rfl (lv_at hl 1 rfl) ?_
  refine lv_icmp_eq (tgt := 21) hx hb dJ9_floorDiv_7cf53_14 (by decide) (fun c_4 => ?_) (fun c_4 => ?_)
  · rw [if_pos c_4] at hf
    refine lv_iload_n hx hb dJ9_floorDiv_7cf53_21 rfl (lv_at hl 0 rfl) ?_
    obtain rfl := sp1 hf
    exact kret _ _ _ _ dJ9_floorDiv_7cf53_22 hP hS trivial
  rw [if_neg c_4] at hf
  refine lv_iload_n hx hb dJ9_floorDiv_7cf53_17 rfl (lv_at hl 0 rfl) ?_
  refine lv_iconst (v := (1 : Int32)) hx hb dJ9_floorDiv_7cf53_18 (by decide) ?_
  refine lv_isub hx hb dJ9_floorDiv_7cf53_19 ?_
  obtain rfl := sp1 hf
  exact kret _ _ _ _ dJ9_floorDiv_7cf53_20 hP hS trivial
set_option maxHeartbeats 4000000 in
set_option maxRecDepth 100000 in
theorem c_X5_duel (l : Launch) (g : GG) (u : UU) (x1 : Int32) (x2 : Int32) (x3 : Int32) {r : Int32} {u' : UU} (hf : f_X5_duel x1 x2 x3 u = some (r, u')) : Ci l g 0 55 yX5_duel wsX5_duel 25 696 [.ref (aD g 0), .int x1, .int x2, .int x3] u r u' := by
  refine ct_i (cc := cX5_duel) (maxL := 5) (by decide) rfl (Nat.le_of_ble_eq_true rfl) ?_
  intro p e s m args below meth c R Q ls hx hb hml hown hts hC hP hl hRf hRl kret hS
  have hown : s.vm.findClass RX5 = some m.cls := hown
  have hl : lv_has ls 5 [(0, .ref (aD g 0)), (1, .int x1), (2, .int x2), (3, .int x3)] := hl
  have hinX5 : ∀ w ∈ u_ws RX5 TX5 12, w ∈ wsX5_duel := by decide +kernel
  unfold f_X5_duel at hf
  refine lv_aload_n hx hb dX5_duel_0 rfl (lv_at hl 0 rfl) ?_
  refine r_get hx hb hts hown hC hP hinX5 0 (by decide) (ci := 4) rfl (by decide) rfl 3 (by decide) (hts (.fieldLink RX5 31 "LoafParts" "table" "LLoafParts$Table;") (by decide +kernel)) (v := .ref (aD g 11)) rfl dX5_duel_1 ?_
  refine lv_iload_n hx hb dX5_duel_4 rfl (lv_at hl 1 rfl) ?_
  obtain ⟨q_1, hq_1, hf⟩ := bind_ex hf
  refine r_Vi (As := [.int x1]) (rest := []) (k := 11) (ci := 3) ⟨hx, hb, hml, hown, hts⟩ hC hP hS (by decide) rfl (by decide) rfl (c_X4_isWorker l g u x1 hq_1) (cwV 1 hts gX5_duel_X4_isWorker rfl rfl rfl (by decide +kernel) ⟨(Nat.le_trans (Nat.le_of_ble_eq_true rfl) hRf), (Nat.le_trans (Nat.le_of_ble_eq_true rfl) hRl)⟩) rfl hl.1 rfl (Nat.le_of_ble_eq_true rfl) dX5_duel_5 (fun H locs hP hS => ?_)
  refine lv_if_eq (tgt := 36) hx hb dX5_duel_8 (by decide) (fun c_2 => ?_) (fun c_2 => ?_)
  · rw [if_pos c_2] at hf
    refine lv_iconst (v := (-1 : Int32)) hx hb dX5_duel_36 (by decide) ?_
    obtain ⟨rfl, rfl⟩ := sp2 hf
    exact kret _ _ _ _ dX5_duel_37 hP hS trivial
  rw [if_neg c_2] at hf
  refine lv_aload_n hx hb dX5_duel_11 rfl (lv_at hl 0 rfl) ?_
  refine r_get hx hb hts hown hC hP hinX5 0 (by decide) (ci := 4) rfl (by decide) rfl 3 (by decide) (hts (.fieldLink RX5 31 "LoafParts" "table" "LLoafParts$Table;") (by decide +kernel)) (v := .ref (aD g 11)) rfl dX5_duel_12 ?_
  refine lv_iload_n hx hb dX5_duel_15 rfl (lv_at hl 2 rfl) ?_
  obtain ⟨q_3, hq_3, hf⟩ := bind_ex hf
  refine r_Vi (As := [.int x2]) (rest := []) (k := 11) (ci := 3) ⟨hx, hb, hml, hown, hts⟩ hC hP hS (by decide) rfl (by decide) rfl (c_X4_isWorker l g u x2 hq_3) (cwV 1 hts gX5_duel_X4_isWorker rfl rfl rfl (by decide +kernel) ⟨(Nat.le_trans (Nat.le_of_ble_eq_true rfl) hRf), (Nat.le_trans (Nat.le_of_ble_eq_true rfl) hRl)⟩) rfl hl.1 rfl (Nat.le_of_ble_eq_true rfl) dX5_duel_16 (fun H locs hP hS => ?_)
  refine lv_if_eq (tgt := 36) hx hb dX5_duel_19 (by decide) (fun c_4 => ?_) (fun c_4 => ?_)
  · rw [if_pos c_4] at hf
    refine lv_iconst (v := (-1 : Int32)) hx hb dX5_duel_36 (by decide) ?_
    obtain ⟨rfl, rfl⟩ := sp2 hf
    exact kret _ _ _ _ dX5_duel_37 hP hS trivial
  rw [if_neg c_4] at hf
  refine lv_iload_n hx hb dX5_duel_22 rfl (lv_at hl 1 rfl) ?_
  refine lv_iload_n hx hb dX5_duel_23 rfl (lv_at hl 2 rfl) ?_
  refine lv_icmp_eq (tgt := 36) hx hb dX5_duel_24 (by decide) (fun c_5 => ?_) (fun c_5 => ?_)
  · rw [if_pos c_5] at hf
    refine lv_iconst (v := (-1 : Int32)) hx hb dX5_duel_36 (by decide) ?_
    obtain ⟨rfl, rfl⟩ := sp2 hf
    exact kret _ _ _ _ dX5_duel_37 hP hS trivial
  rw [if_neg c_5] at hf
  refine lv_iload_n hx hb dX5_duel_27 rfl (lv_at hl 3 rfl) ?_
  refine lv_if_lt (tgt := 36) hx hb dX5_duel_28 (by decide) (fun c_6 => ?_) (fun c_6 => ?_)
  · rw [if_pos c_6] at hf
    refine lv_iconst (v := (-1 : Int32)) hx hb dX5_duel_36 (by decide) ?_
    obtain ⟨rfl, rfl⟩ := sp2 hf
    exact kret _ _ _ _ dX5_duel_37 hP hS trivial
  rw [if_neg c_6] at hf
  refine lv_iload_n hx hb dX5_duel_31 rfl (lv_at hl 3 rfl) ?_
  refine lv_iconst (v := (4 : Int32)) hx hb dX5_duel_32 (by decide) ?_
  refine lv_icmp_le (tgt := 38) hx hb dX5_duel_33 (by decide) (fun c_7 => ?_) (fun c_7 => ?_)
  · rw [if_pos c_7] at hf
    refine lv_aload_n hx hb dX5_duel_38 rfl (lv_at hl 0 rfl) ?_
    refine r_get hx hb hts hown hC hP hinX5 0 (by decide) (ci := 4) rfl (by decide) rfl 3 (by decide) (hts (.fieldLink RX5 31 "LoafParts" "table" "LLoafParts$Table;") (by decide +kernel)) (v := .ref (aD g 11)) rfl dX5_duel_39 ?_
    refine lv_iload_n hx hb dX5_duel_42 rfl (lv_at hl 1 rfl) ?_
    obtain ⟨q_8, hq_8, hf⟩ := bind_ex hf
    refine r_Vi (As := [.int x1]) (rest := []) (k := 11) (ci := 3) ⟨hx, hb, hml, hown, hts⟩ hC hP hS (by decide) rfl (by decide) rfl (c_X4_sizeOfHad l g u x1 hq_8) (cwV 1 hts gX5_duel_X4_sizeOfHad rfl rfl rfl (by decide +kernel) ⟨(Nat.le_trans (Nat.le_of_ble_eq_true rfl) hRf), (Nat.le_trans (Nat.le_of_ble_eq_true rfl) hRl)⟩) rfl hl.1 rfl (Nat.le_of_ble_eq_true rfl) dX5_duel_43 (fun H locs hP hS => ?_)
    refine lv_aload_n hx hb dX5_duel_46 rfl (lv_at hl 0 rfl) ?_
    refine r_get hx hb hts hown hC hP hinX5 0 (by decide) (ci := 4) rfl (by decide) rfl 3 (by decide) (hts (.fieldLink RX5 31 "LoafParts" "table" "LLoafParts$Table;") (by decide +kernel)) (v := .ref (aD g 11)) rfl dX5_duel_47 ?_
    refine lv_iload_n hx hb dX5_duel_50 rfl (lv_at hl 2 rfl) ?_
    obtain ⟨q_9, hq_9, hf⟩ := bind_ex hf
    refine r_Vi (As := [.int x2]) (rest := [.int q_8]) (k := 11) (ci := 3) ⟨hx, hb, hml, hown, hts⟩ hC hP hS (by decide) rfl (by decide) rfl (c_X4_sizeOfHad l g u x2 hq_9) (cwV 1 hts gX5_duel_X4_sizeOfHad rfl rfl rfl (by decide +kernel) ⟨(Nat.le_trans (Nat.le_of_ble_eq_true rfl) hRf), (Nat.le_trans (Nat.le_of_ble_eq_true rfl) hRl)⟩) rfl hl.1 rfl (Nat.le_of_ble_eq_true rfl) dX5_duel_51 (fun H locs hP hS => ?_)
    refine lv_isub hx hb dX5_duel_54 ?_
    obtain ⟨x4_10, ex4_10, hf⟩ := lt_ex hf
    refine r_nm ex4_10 ?_
    refine lv_istore (lv' := [(4, .int x4_10), (0, .ref (aD g 0)), (1, .int x1), (2, .int x2), (3, .int x3)]) hx hb dX5_duel_55 hl (by decide) rfl (fun ls hl => ?_)
    refine lv_iload hx hb dX5_duel_57 (lv_at hl 0 rfl) ?_
    refine lv_aload_n hx hb dX5_duel_59 rfl (lv_at hl 1 rfl) ?_
    refine r_get hx hb hts hown hC hP hinX5 0 (by decide) (ci := 4) rfl (by decide) rfl 3 (by decide) (hts (.fieldLink RX5 31 "LoafParts" "table" "LLoafParts$Table;") (by decide +kernel)) (v := .ref (aD g 11)) rfl dX5_duel_60 ?_
    refine lv_iload_n hx hb dX5_duel_63 rfl (lv_at hl 2 rfl) ?_
    refine lv_iload_n hx hb dX5_duel_64 rfl (lv_at hl 3 rfl) ?_
    refine lv_iload_n hx hb dX5_duel_65 rfl (lv_at hl 4 rfl) ?_
    obtain ⟨q_11, hq_11, hf⟩ := bind_ex hf
    refine r_Vi (r := q_11.1) (u' := q_11.2) (As := [.int x1, .int x2, .int x3]) (rest := [.int x4_10]) (k := 11) (ci := 3) ⟨hx, hb, hml, hown, hts⟩ hC hP hS (by decide) rfl (by decide) rfl (c_X4_gainByTurns l g u x1 x2 x3 hq_11) (cwV 3 hts gX5_duel_X4_gainByTurns rfl rfl rfl (by decide +kernel) ⟨(Nat.le_trans (Nat.le_of_ble_eq_true rfl) hRf), (Nat.le_trans (Nat.le_of_ble_eq_true rfl) hRl)⟩) rfl hl.1 rfl (Nat.le_of_ble_eq_true rfl) dX5_duel_66 (fun H locs hP hS => ?_)
    refine lv_iadd hx hb dX5_duel_69 ?_
    obtain ⟨x4_12, ex4_12, hf⟩ := lt_ex hf
    refine r_nm ex4_12 ?_
    refine lv_istore (lv' := [(4, .int x4_12), (0, .ref (aD g 0)), (1, .int x1), (2, .int x2), (3, .int x3)]) hx hb dX5_duel_70 hl (by decide) rfl (fun ls hl => ?_)
    refine lv_iload hx hb dX5_duel_72 (lv_at hl 0 rfl) ?_
    refine lv_sipush (v := (1000 : Int32)) hx hb dX5_duel_74 (by decide) ?_
    obtain ⟨q_13, hq_13, hf⟩ := bind_ex hf
    refine r_Si (As := [.int x4_12, .int (1000 : Int32)]) (rest := []) ⟨hx, hb, hml, hown, hts⟩ hC hP hS (c_J9_floorDiv_7cf53 l g q_11.2 x4_12 (1000 : Int32) hq_13) (va_cwS 2 hts gX5_duel_J9_floorDiv_7cf53 rfl rfl rfl (by decide +kernel) ⟨(Nat.le_trans (Nat.le_of_ble_eq_true rfl) hRf), (Nat.le_trans (Nat.le_of_ble_eq_true rfl) hRl)⟩) rfl hl.1 rfl (Nat.le_of_ble_eq_true rfl) dX5_duel_77 (fun H locs hP hS => ?_)
    refine lv_sipush (v := (5000 : Int32)) hx hb dX5_duel_80 (by decide) ?_
    refine lv_iadd hx hb dX5_duel_83 ?_
    obtain ⟨rfl, rfl⟩ := sp2 hf
    exact kret _ _ _ _ dX5_duel_84 hP hS trivial
  rw [if_neg c_7] at hf
  refine lv_iconst (v := (-1 : Int32)) hx hb dX5_duel_36 (by decide) ?_
  obtain ⟨rfl, rfl⟩ := sp2 hf
  exact kret _ _ _ _ dX5_duel_37 hP hS trivial
set_option maxHeartbeats 4000000 in
set_option maxRecDepth 100000 in
theorem c_X5_powerOfCrumbles (l : Launch) (g : GG) (u : UU) (x0 : Int32) {r : Int64} (hf : f_X5_powerOfCrumbles x0 u = some r) : Cl l g 0 55 yX5_powerOfCrumbles wsX5_powerOfCrumbles 0 0 [.int x0] u r u := by
  refine ct_l (cc := cX5_powerOfCrumbles) (maxL := 4) (by decide) rfl (Nat.le_of_ble_eq_true rfl) ?_
  intro p e s m args below meth c R Q ls hx hb hml hown hts hC hP hl hRf hRl kret hS
  have hown : s.vm.findClass RX5 = some m.cls := hown
  have hl : lv_has ls 4 [(0, .int x0)] := hl
  have w_4 : ∀ (n : Nat), ∀ (x0 : Int32) (x1 : Int64) (x3 : Int32) (H : Heap) (locs : List Loc) (ls : Array Slot), Ps g 0 55 u H → va_S (aA g) s.heap H locs → lv_has ls 4 [(0, .int x0), (1, .long x1), (3, .int x3)] → f_X5_powerOfCrumbles_4 n x0 x1 x3 u = some r → W p l e R s m args below meth c H locs 0 0 Q (F0 m 4 ls []) := by
    intro n
    induction n with
    | zero =>
      intro x0 x1 x3 H locs ls hP hS hl hf
      rw [f_X5_powerOfCrumbles_4] at hf
      cases hf
    | succ n ih =>
      intro x0 x1 x3 H locs ls hP hS hl hf
      rw [f_X5_powerOfCrumbles_4] at hf
      refine lv_iload_n hx hb dX5_powerOfCrumbles_4 rfl (lv_at hl 2 rfl) ?_
      refine lv_iload_n hx hb dX5_powerOfCrumbles_5 rfl (lv_at hl 0 rfl) ?_
      refine lv_icmp_ge (tgt := 21) hx hb dX5_powerOfCrumbles_6 (by decide) (fun c_1 => ?_) (fun c_1 => ?_)
      · rw [if_pos c_1] at hf
        refine lv_lload_n hx hb dX5_powerOfCrumbles_21 rfl (lv_at hl 1 rfl) ?_
        obtain rfl := sp1 hf
        exact kret _ _ _ _ dX5_powerOfCrumbles_22 hP hS trivial
      rw [if_neg c_1] at hf
      refine lv_lload_n hx hb dX5_powerOfCrumbles_9 rfl (lv_at hl 1 rfl) ?_
      refine lv_ldc2 (v := (12 : Int64)) hx hb hown (hts (.constantLong RX5 329 (12)) (by decide +kernel)) dX5_powerOfCrumbles_10 ?_
      refine lv_lmul hx hb dX5_powerOfCrumbles_13 ?_
      obtain ⟨x1_2, ex1_2, hf⟩ := lt_ex hf
      refine r_nml ex1_2 ?_
      refine lv_lstore_n (lv' := [(1, .long x1_2), (0, .int x0), (3, .int x3)]) hx hb dX5_powerOfCrumbles_14 rfl hl (by decide) rfl (fun ls hl => ?_)
      obtain ⟨x3_3, ex3_3, hf⟩ := lt_ex hf
      refine lv_iinc (v := x3_3) (lv' := [(3, .int x3_3), (1, .long x1_2), (0, .int x0)]) hx hb dX5_powerOfCrumbles_15 hl (k := 2) rfl (by rw [ex3_3]; rfl) (by decide) rfl (fun ls hl => ?_)
      refine lv_goto (tgt := 4) hx hb dX5_powerOfCrumbles_18 (by decide) ?_
      exact ih x0 x1_2 x3_3 _ _ _ hP hS (lv_sub hl [2, 1, 0] rfl) hf
  unfold f_X5_powerOfCrumbles at hf
  refine lv_lconst (v := (1 : Int64)) hx hb dX5_powerOfCrumbles_0 (by decide) ?_
  refine lv_lstore_n (lv' := [(1, .long (1 : Int64)), (0, .int x0)]) hx hb dX5_powerOfCrumbles_1 rfl hl (by decide) rfl (fun ls hl => ?_)
  refine lv_iconst (v := (0 : Int32)) hx hb dX5_powerOfCrumbles_2 (by decide) ?_
  refine lv_istore_n (lv' := [(3, .int (0 : Int32)), (1, .long (1 : Int64)), (0, .int x0)]) hx hb dX5_powerOfCrumbles_3 rfl hl (by decide) rfl (fun ls hl => ?_)
  exact w_4 fu x0 (1 : Int64) (0 : Int32) _ _ _ hP hS (lv_sub hl [2, 1, 0] rfl) hf
set_option maxHeartbeats 4000000 in
set_option maxRecDepth 100000 in
theorem c_X5_enoughLeft (l : Launch) (g : GG) : ∀ (d : Nat) (u : UU) (x0 : Int32) (x1 : Int32) (x2 : Int32) (x3 : Int32) (x4 : Int32) {r : Int64}, f_X5_enoughLeft d x0 x1 x2 x3 x4 u = some r → Cl l g 0 55 yX5_enoughLeft wsX5_enoughLeft (1 + d) (23 + d * 26) [.int x0, .int x1, .int x2, .int x3, .int x4] u r u := by
  intro d
  induction d with
  | zero =>
    intro u x0 x1 x2 x3 x4 r hf
    rw [f_X5_enoughLeft] at hf
    cases hf
  | succ d ihr =>
    intro u x0 x1 x2 x3 x4 r hf
    rw [f_X5_enoughLeft] at hf
    unfold f_X5_enoughLeft_body at hf
    generalize hrc : f_X5_enoughLeft d = rc at hf ihr
    clear hrc
    refine ct_l (cc := cX5_enoughLeft) (maxL := 7) (by decide) rfl (Nat.le_of_ble_eq_true rfl) ?_
    intro p e s m args below meth c R Q ls hx hb hml hown hts hC hP hl hRf hRl kret hS
    have hown : s.vm.findClass RX5 = some m.cls := hown
    have hl : lv_has ls 7 [(0, .int x0), (1, .int x1), (2, .int x2), (3, .int x3), (4, .int x4)] := hl
    refine lv_iload_n hx hb dX5_enoughLeft_0 rfl (lv_at hl 2 rfl) ?_
    refine lv_if_gt (tgt := 12) hx hb dX5_enoughLeft_1 (by decide) (fun c_1 => ?_) (fun c_1 => ?_)
    · rw [if_pos c_1] at hf
      refine lv_iload_n hx hb dX5_enoughLeft_12 rfl (lv_at hl 0 rfl) ?_
      refine lv_bipush (v := (16 : Int32)) hx hb dX5_enoughLeft_13 (by decide) ?_
      refine lv_icmp_gt (tgt := 23) hx hb dX5_enoughLeft_15 (by decide) (fun c_2 => ?_) (fun c_2 => ?_)
      · rw [if_pos c_2] at hf
        refine lv_lconst (v := (0 : Int64)) hx hb dX5_enoughLeft_23 (by decide) ?_
        obtain rfl := sp1 hf
        exact kret _ _ _ _ dX5_enoughLeft_24 hP hS trivial
      rw [if_neg c_2] at hf
      refine lv_iload_n hx hb dX5_enoughLeft_18 rfl (lv_at hl 3 rfl) ?_
      refine lv_iload_n hx hb dX5_enoughLeft_19 rfl (lv_at hl 2 rfl) ?_
      refine lv_icmp_ge (tgt := 25) hx hb dX5_enoughLeft_20 (by decide) (fun c_3 => ?_) (fun c_3 => ?_)
      · rw [if_pos c_3] at hf
        refine lv_iload_n hx hb dX5_enoughLeft_25 rfl (lv_at hl 1 rfl) ?_
        refine lv_iload_n hx hb dX5_enoughLeft_26 rfl (lv_at hl 0 rfl) ?_
        refine r_Si (As := [.int x1, .int x0]) (rest := []) ⟨hx, hb, hml, hown, hts⟩ hC hP hS (c_X5_holds l g u x1 x0 rfl) (va_cwS 2 hts gX5_enoughLeft_X5_holds rfl rfl rfl (by decide +kernel) ⟨(by dsimp only [rmm]; omega), (by dsimp only [rmm]; omega)⟩) rfl hl.1 rfl (Nat.le_of_ble_eq_true rfl) dX5_enoughLeft_27 (fun H locs hP hS => ?_)
        refine lv_if_ne (tgt := 45) hx hb dX5_enoughLeft_30 (by decide) (fun c_4 => ?_) (fun c_4 => ?_)
        · rw [if_neg c_4] at hf
          refine lv_iconst (v := (2 : Int32)) hx hb dX5_enoughLeft_45 (by decide) ?_
          refine lv_iload_n hx hb dX5_enoughLeft_46 rfl (lv_at hl 0 rfl) ?_
          refine r_Si (As := [.int x0]) (rest := [.int (2 : Int32)]) ⟨hx, hb, hml, hown, hts⟩ hC hP hS (c_X5_partSize l g u x0 rfl) (va_cwS 1 hts gX5_enoughLeft_X5_partSize rfl rfl rfl (by decide +kernel) ⟨(by dsimp only [rmm]; omega), (by dsimp only [rmm]; omega)⟩) rfl hl.1 rfl (Nat.le_of_ble_eq_true rfl) dX5_enoughLeft_47 (fun H locs hP hS => ?_)
          refine lv_imul hx hb dX5_enoughLeft_50 ?_
          obtain ⟨x5_5, ex5_5, hf⟩ := lt_ex hf
          refine r_nm ex5_5 ?_
          refine lv_istore (lv' := [(5, .int x5_5), (0, .int x0), (1, .int x1), (2, .int x2), (3, .int x3), (4, .int x4)]) hx hb dX5_enoughLeft_51 hl (by decide) rfl (fun ls hl => ?_)
          refine lv_iload_n hx hb dX5_enoughLeft_53 rfl (lv_at hl 2 rfl) ?_
          refine lv_iconst (v := (1 : Int32)) hx hb dX5_enoughLeft_54 (by decide) ?_
          refine lv_iload_n hx hb dX5_enoughLeft_55 rfl (lv_at hl 1 rfl) ?_
          refine lv_ishl hx hb dX5_enoughLeft_56 ?_
          refine lv_iconst (v := (-1 : Int32)) hx hb dX5_enoughLeft_57 (by decide) ?_
          refine lv_ixor hx hb dX5_enoughLeft_58 ?_
          refine lv_iand hx hb dX5_enoughLeft_59 ?_
          obtain ⟨x6_6, ex6_6, hf⟩ := lt_ex hf
          refine r_nm ex6_6 ?_
          refine lv_istore (lv' := [(6, .int x6_6), (5, .int x5_5), (0, .int x0), (1, .int x1), (2, .int x2), (3, .int x3), (4, .int x4)]) hx hb dX5_enoughLeft_60 hl (by decide) rfl (fun ls hl => ?_)
          refine lv_iload hx hb dX5_enoughLeft_62 (lv_at hl 6 rfl) ?_
          refine lv_i2l hx hb dX5_enoughLeft_64 rfl ?_
          refine lv_iload_n hx hb dX5_enoughLeft_65 rfl (lv_at hl 2 rfl) ?_
          refine lv_iconst (v := (1 : Int32)) hx hb dX5_enoughLeft_66 (by decide) ?_
          refine lv_iadd hx hb dX5_enoughLeft_67 ?_
          refine lv_iload hx hb dX5_enoughLeft_68 (lv_at hl 0 rfl) ?_
          refine lv_iload_n hx hb dX5_enoughLeft_70 rfl (lv_at hl 4 rfl) ?_
          refine lv_iload_n hx hb dX5_enoughLeft_71 rfl (lv_at hl 5 rfl) ?_
          refine lv_iload hx hb dX5_enoughLeft_72 (lv_at hl 1 rfl) ?_
          refine lv_isub hx hb dX5_enoughLeft_74 ?_
          refine lv_iload hx hb dX5_enoughLeft_75 (lv_at hl 6 rfl) ?_
          obtain ⟨q_7, hq_7, hf⟩ := bind_ex hf
          refine r_Sl (As := [.int (x0 + (1 : Int32)), .int x6_6, .int x2, .int (x3 - x5_5), .int x4]) (rest := [.long ((x4 : Int32).toInt64)]) ⟨hx, hb, hml, hown, hts⟩ hC hP hS (ihr u (x0 + (1 : Int32)) x6_6 x2 (x3 - x5_5) x4 hq_7) (va_cwS 5 hts gX5_enoughLeft_X5_enoughLeft rfl rfl rfl (by decide +kernel) ⟨(by dsimp only [rmm]; omega), (by dsimp only [rmm]; omega)⟩) rfl hl.1 rfl (Nat.le_of_ble_eq_true rfl) dX5_enoughLeft_77 (fun H locs hP hS => ?_)
          refine lv_lmul hx hb dX5_enoughLeft_80 ?_
          refine lv_bipush (v := (12 : Int32)) hx hb dX5_enoughLeft_81 (by decide) ?_
          refine lv_iload hx hb dX5_enoughLeft_83 (lv_at hl 6 rfl) ?_
          refine lv_isub hx hb dX5_enoughLeft_85 ?_
          refine lv_i2l hx hb dX5_enoughLeft_86 rfl ?_
          refine lv_iload_n hx hb dX5_enoughLeft_87 rfl (lv_at hl 2 rfl) ?_
          refine lv_iconst (v := (1 : Int32)) hx hb dX5_enoughLeft_88 (by decide) ?_
          refine lv_iadd hx hb dX5_enoughLeft_89 ?_
          refine lv_iload hx hb dX5_enoughLeft_90 (lv_at hl 0 rfl) ?_
          refine lv_iload_n hx hb dX5_enoughLeft_92 rfl (lv_at hl 4 rfl) ?_
          refine lv_iload hx hb dX5_enoughLeft_93 (lv_at hl 1 rfl) ?_
          refine lv_isub hx hb dX5_enoughLeft_95 ?_
          refine lv_iload_n hx hb dX5_enoughLeft_96 rfl (lv_at hl 5 rfl) ?_
          refine lv_iload hx hb dX5_enoughLeft_97 (lv_at hl 1 rfl) ?_
          refine lv_isub hx hb dX5_enoughLeft_99 ?_
          refine lv_iload hx hb dX5_enoughLeft_100 (lv_at hl 6 rfl) ?_
          obtain ⟨q_8, hq_8, hf⟩ := bind_ex hf
          refine r_Sl (As := [.int (x0 + (1 : Int32)), .int x6_6, .int (x2 - x5_5), .int (x3 - x5_5), .int x4]) (rest := [.long ((((12 : Int32) - x4) : Int32).toInt64), .long (((x4 : Int32).toInt64) * q_7)]) ⟨hx, hb, hml, hown, hts⟩ hC hP hS (ihr u (x0 + (1 : Int32)) x6_6 (x2 - x5_5) (x3 - x5_5) x4 hq_8) (va_cwS 5 hts gX5_enoughLeft_X5_enoughLeft rfl rfl rfl (by decide +kernel) ⟨(by dsimp only [rmm]; omega), (by dsimp only [rmm]; omega)⟩) rfl hl.1 rfl (Nat.le_of_ble_eq_true rfl) dX5_enoughLeft_102 (fun H locs hP hS => ?_)
          refine lv_lmul hx hb dX5_enoughLeft_105 ?_
          refine lv_ladd hx hb dX5_enoughLeft_106 ?_
          obtain rfl := sp1 hf
          exact kret _ _ _ _ dX5_enoughLeft_107 hP hS trivial
        rw [if_pos c_4] at hf
        refine lv_iload_n hx hb dX5_enoughLeft_33 rfl (lv_at hl 0 rfl) ?_
        refine lv_iconst (v := (1 : Int32)) hx hb dX5_enoughLeft_34 (by decide) ?_
        refine lv_iadd hx hb dX5_enoughLeft_35 ?_
        refine lv_iload_n hx hb dX5_enoughLeft_36 rfl (lv_at hl 1 rfl) ?_
        refine lv_iload_n hx hb dX5_enoughLeft_37 rfl (lv_at hl 2 rfl) ?_
        refine lv_iload_n hx hb dX5_enoughLeft_38 rfl (lv_at hl 3 rfl) ?_
        refine lv_iload hx hb dX5_enoughLeft_39 (lv_at hl 4 rfl) ?_
        obtain ⟨q_9, hq_9, hf⟩ := bind_ex hf
        refine r_Sl (As := [.int (x0 + (1 : Int32)), .int x1, .int x2, .int x3, .int x4]) (rest := []) ⟨hx, hb, hml, hown, hts⟩ hC hP hS (ihr u (x0 + (1 : Int32)) x1 x2 x3 x4 hq_9) (va_cwS 5 hts gX5_enoughLeft_X5_enoughLeft rfl rfl rfl (by decide +kernel) ⟨(by dsimp only [rmm]; omega), (by dsimp only [rmm]; omega)⟩) rfl hl.1 rfl (Nat.le_of_ble_eq_true rfl) dX5_enoughLeft_41 (fun H locs hP hS => ?_)
        obtain rfl := sp1 hf
        exact kret _ _ _ _ dX5_enoughLeft_44 hP hS trivial
      rw [if_neg c_3] at hf
      refine lv_lconst (v := (0 : Int64)) hx hb dX5_enoughLeft_23 (by decide) ?_
      obtain rfl := sp1 hf
      exact kret _ _ _ _ dX5_enoughLeft_24 hP hS trivial
    rw [if_neg c_1] at hf
    refine lv_iload_n hx hb dX5_enoughLeft_4 rfl (lv_at hl 1 rfl) ?_
    refine r_Si (As := [.int x1]) (rest := []) ⟨hx, hb, hml, hown, hts⟩ hC hP hS (c_J6_bitCount_0f7a4 l g u x1 rfl) (va_cwS 1 hts gX5_enoughLeft_J6_bitCount_0f7a4 rfl rfl rfl (by decide +kernel) ⟨(by dsimp only [rmm]; omega), (by dsimp only [rmm]; omega)⟩) rfl hl.1 rfl (Nat.le_of_ble_eq_true rfl) dX5_enoughLeft_5 (fun H locs hP hS => ?_)
    obtain ⟨q_10, hq_10, hf⟩ := bind_ex hf
    refine r_Sl (As := [.int (f_J6_bitCount_0f7a4 x1)]) (rest := []) ⟨hx, hb, hml, hown, hts⟩ hC hP hS (c_X5_powerOfCrumbles l g u (f_J6_bitCount_0f7a4 x1) hq_10) (va_cwS 1 hts gX5_enoughLeft_X5_powerOfCrumbles rfl rfl rfl (by decide +kernel) ⟨(by dsimp only [rmm]; omega), (by dsimp only [rmm]; omega)⟩) rfl hl.1 rfl (Nat.le_of_ble_eq_true rfl) dX5_enoughLeft_8 (fun H locs hP hS => ?_)
    obtain rfl := sp1 hf
    exact kret _ _ _ _ dX5_enoughLeft_11 hP hS trivial
set_option maxHeartbeats 4000000 in
set_option maxRecDepth 100000 in
theorem c_X5_odds (l : Launch) (g : GG) (u : UU) (x1 : Int32) (x2 : Int32) {r : Int32} {u' : UU} (hf : f_X5_odds x1 x2 u = some (r, u')) : Ci l g 0 55 yX5_odds wsX5_odds 22 569 [.ref (aD g 0), .int x1, .int x2] u r u' := by
  refine ct_i (cc := cX5_odds) (maxL := 6) (by decide) rfl (Nat.le_of_ble_eq_true rfl) ?_
  intro p e s m args below meth c R Q ls hx hb hml hown hts hC hP hl hRf hRl kret hS
  have hown : s.vm.findClass RX5 = some m.cls := hown
  have hl : lv_has ls 6 [(0, .ref (aD g 0)), (1, .int x1), (2, .int x2)] := hl
  have hinX4 : ∀ w ∈ u_ws RX4 TX4 13, w ∈ wsX5_odds := by decide +kernel
  have hinX5 : ∀ w ∈ u_ws RX5 TX5 12, w ∈ wsX5_odds := by decide +kernel
  unfold f_X5_odds at hf
  refine lv_aload_n hx hb dX5_odds_0 rfl (lv_at hl 0 rfl) ?_
  refine r_get hx hb hts hown hC hP hinX5 0 (by decide) (ci := 4) rfl (by decide) rfl 3 (by decide) (hts (.fieldLink RX5 31 "LoafParts" "table" "LLoafParts$Table;") (by decide +kernel)) (v := .ref (aD g 11)) rfl dX5_odds_1 ?_
  refine lv_iload_n hx hb dX5_odds_4 rfl (lv_at hl 1 rfl) ?_
  obtain ⟨q_1, hq_1, hf⟩ := bind_ex hf
  refine r_Vi (As := [.int x1]) (rest := []) (k := 11) (ci := 3) ⟨hx, hb, hml, hown, hts⟩ hC hP hS (by decide) rfl (by decide) rfl (c_X4_isWorker l g u x1 hq_1) (cwV 1 hts gX5_odds_X4_isWorker rfl rfl rfl (by decide +kernel) ⟨(Nat.le_trans (Nat.le_of_ble_eq_true rfl) hRf), (Nat.le_trans (Nat.le_of_ble_eq_true rfl) hRl)⟩) rfl hl.1 rfl (Nat.le_of_ble_eq_true rfl) dX5_odds_5 (fun H locs hP hS => ?_)
  refine lv_if_eq (tgt := 21) hx hb dX5_odds_8 (by decide) (fun c_2 => ?_) (fun c_2 => ?_)
  · rw [if_pos c_2] at hf
    refine lv_iconst (v := (-1 : Int32)) hx hb dX5_odds_21 (by decide) ?_
    obtain ⟨rfl, rfl⟩ := sp2 hf
    exact kret _ _ _ _ dX5_odds_22 hP hS trivial
  rw [if_neg c_2] at hf
  refine lv_iload_n hx hb dX5_odds_11 rfl (lv_at hl 2 rfl) ?_
  refine lv_if_lt (tgt := 21) hx hb dX5_odds_12 (by decide) (fun c_3 => ?_) (fun c_3 => ?_)
  · rw [if_pos c_3] at hf
    refine lv_iconst (v := (-1 : Int32)) hx hb dX5_odds_21 (by decide) ?_
    obtain ⟨rfl, rfl⟩ := sp2 hf
    exact kret _ _ _ _ dX5_odds_22 hP hS trivial
  rw [if_neg c_3] at hf
  refine lv_iload_n hx hb dX5_odds_15 rfl (lv_at hl 2 rfl) ?_
  refine lv_bipush (v := (12 : Int32)) hx hb dX5_odds_16 (by decide) ?_
  refine lv_icmp_le (tgt := 23) hx hb dX5_odds_18 (by decide) (fun c_4 => ?_) (fun c_4 => ?_)
  · rw [if_pos c_4] at hf
    refine lv_aload_n hx hb dX5_odds_23 rfl (lv_at hl 0 rfl) ?_
    refine r_get hx hb hts hown hC hP hinX5 0 (by decide) (ci := 4) rfl (by decide) rfl 3 (by decide) (hts (.fieldLink RX5 31 "LoafParts" "table" "LLoafParts$Table;") (by decide +kernel)) (v := .ref (aD g 11)) rfl dX5_odds_24 ?_
    refine r_getN hx hb hts hown hC hP hinX4 11 (by decide) (ci := 3) rfl (by decide) rfl 8 (by decide) 4 rfl (v := .ref (aD g 16)) rfl dX5_odds_27 ?_
    refine lv_iload_n hx hb dX5_odds_30 rfl (lv_at hl 1 rfl) ?_
    obtain ⟨hi_5, hf⟩ := ix_ex hf
    refine r_ald hx hb hC hP 16 (by decide) rfl hi_5 dX5_odds_31 ?_
    obtain ⟨x3_6, ex3_6, hf⟩ := lt_ex hf
    refine r_nm ex3_6 ?_
    refine lv_istore_n (lv' := [(3, .int x3_6), (0, .ref (aD g 0)), (1, .int x1), (2, .int x2)]) hx hb dX5_odds_32 rfl hl (by decide) rfl (fun ls hl => ?_)
    refine lv_iconst (v := (2 : Int32)) hx hb dX5_odds_33 (by decide) ?_
    refine lv_iload_n hx hb dX5_odds_34 rfl (lv_at hl 0 rfl) ?_
    refine lv_aload_n hx hb dX5_odds_35 rfl (lv_at hl 1 rfl) ?_
    refine r_get hx hb hts hown hC hP hinX5 0 (by decide) (ci := 4) rfl (by decide) rfl 3 (by decide) (hts (.fieldLink RX5 31 "LoafParts" "table" "LLoafParts$Table;") (by decide +kernel)) (v := .ref (aD g 11)) rfl dX5_odds_36 ?_
    refine lv_iload_n hx hb dX5_odds_39 rfl (lv_at hl 2 rfl) ?_
    obtain ⟨q_7, hq_7, hf⟩ := bind_ex hf
    refine r_Vi (As := [.int x1]) (rest := [.int x3_6, .int (2 : Int32)]) (k := 11) (ci := 3) ⟨hx, hb, hml, hown, hts⟩ hC hP hS (by decide) rfl (by decide) rfl (c_X4_dueOf l g u x1 hq_7) (cwV 1 hts gX5_odds_X4_dueOf rfl rfl rfl (by decide +kernel) ⟨(Nat.le_trans (Nat.le_of_ble_eq_true rfl) hRf), (Nat.le_trans (Nat.le_of_ble_eq_true rfl) hRl)⟩) rfl hl.1 rfl (Nat.le_of_ble_eq_true rfl) dX5_odds_40 (fun H locs hP hS => ?_)
    refine lv_iconst (v := (2 : Int32)) hx hb dX5_odds_43 (by decide) ?_
    refine lv_aload_n hx hb dX5_odds_44 rfl (lv_at hl 1 rfl) ?_
    refine r_get hx hb hts hown hC hP hinX5 0 (by decide) (ci := 4) rfl (by decide) rfl 3 (by decide) (hts (.fieldLink RX5 31 "LoafParts" "table" "LLoafParts$Table;") (by decide +kernel)) (v := .ref (aD g 11)) rfl dX5_odds_45 ?_
    refine lv_iload_n hx hb dX5_odds_48 rfl (lv_at hl 2 rfl) ?_
    obtain ⟨q_8, hq_8, hf⟩ := bind_ex hf
    refine r_Vi (As := [.int x1]) (rest := [.int (2 : Int32), .int q_7, .int x3_6, .int (2 : Int32)]) (k := 11) (ci := 3) ⟨hx, hb, hml, hown, hts⟩ hC hP hS (by decide) rfl (by decide) rfl (c_X4_sizeOfHad l g u x1 hq_8) (cwV 1 hts gX5_odds_X4_sizeOfHad rfl rfl rfl (by decide +kernel) ⟨(Nat.le_trans (Nat.le_of_ble_eq_true rfl) hRf), (Nat.le_trans (Nat.le_of_ble_eq_true rfl) hRl)⟩) rfl hl.1 rfl (Nat.le_of_ble_eq_true rfl) dX5_odds_49 (fun H locs hP hS => ?_)
    refine lv_imul hx hb dX5_odds_52 ?_
    refine lv_iload_n hx hb dX5_odds_53 rfl (lv_at hl 3 rfl) ?_
    obtain ⟨q_9, hq_9, hf⟩ := bind_ex hf
    refine r_Sl (As := [.int (2 : Int32), .int x3_6, .int q_7, .int ((2 : Int32) * q_8), .int x2]) (rest := []) ⟨hx, hb, hml, hown, hts⟩ hC hP hS (c_X5_enoughLeft l g 20 u (2 : Int32) x3_6 q_7 ((2 : Int32) * q_8) x2 hq_9) (va_cwS 5 hts gX5_odds_X5_enoughLeft rfl rfl rfl (by decide +kernel) ⟨(Nat.le_trans (Nat.le_of_ble_eq_true rfl) hRf), (Nat.le_trans (Nat.le_of_ble_eq_true rfl) hRl)⟩) rfl hl.1 rfl (Nat.le_of_ble_eq_true rfl) dX5_odds_54 (fun H locs hP hS => ?_)
    refine lv_lstore (lv' := [(4, .long q_9), (3, .int x3_6), (0, .ref (aD g 0)), (1, .int x1), (2, .int x2)]) hx hb dX5_odds_57 hl (by decide) rfl (fun ls hl => ?_)
    refine lv_aload_n hx hb dX5_odds_59 rfl (lv_at hl 2 rfl) ?_
    refine lv_lload hx hb dX5_odds_60 (lv_at hl 0 rfl) ?_
    refine lv_iload_n hx hb dX5_odds_62 rfl (lv_at hl 1 rfl) ?_
    refine r_Si (As := [.int x3_6]) (rest := [.long q_9, .ref (aD g 0)]) ⟨hx, hb, hml, hown, hts⟩ hC hP hS (c_J6_bitCount_0f7a4 l g u x3_6 rfl) (va_cwS 1 hts gX5_odds_J6_bitCount_0f7a4 rfl rfl rfl (by decide +kernel) ⟨(Nat.le_trans (Nat.le_of_ble_eq_true rfl) hRf), (Nat.le_trans (Nat.le_of_ble_eq_true rfl) hRl)⟩) rfl hl.1 rfl (Nat.le_of_ble_eq_true rfl) dX5_odds_63 (fun H locs hP hS => ?_)
    obtain ⟨q_10, hq_10, hf⟩ := bind_ex hf
    refine r_Sl (As := [.int (f_J6_bitCount_0f7a4 x3_6)]) (rest := [.long q_9, .ref (aD g 0)]) ⟨hx, hb, hml, hown, hts⟩ hC hP hS (c_X5_powerOfCrumbles l g u (f_J6_bitCount_0f7a4 x3_6) hq_10) (va_cwS 1 hts gX5_odds_X5_powerOfCrumbles rfl rfl rfl (by decide +kernel) ⟨(Nat.le_trans (Nat.le_of_ble_eq_true rfl) hRf), (Nat.le_trans (Nat.le_of_ble_eq_true rfl) hRl)⟩) rfl hl.1 rfl (Nat.le_of_ble_eq_true rfl) dX5_odds_66 (fun H locs hP hS => ?_)
    obtain ⟨q_11, hq_11, hf⟩ := bind_ex hf
    refine r_Vv (As := [.long q_9, .long q_10]) (rest := []) (k := 0) (ci := 4) ⟨hx, hb, hml, hown, hts⟩ hC hP hS (by decide) rfl (by decide) rfl (c_X5_tellFraction l g u q_9 q_10 hq_11) (cwV 2 hts gX5_odds_X5_tellFraction rfl rfl rfl (by decide +kernel) ⟨(Nat.le_trans (Nat.le_of_ble_eq_true rfl) hRf), (Nat.le_trans (Nat.le_of_ble_eq_true rfl) hRl)⟩) rfl hl.1 rfl (Nat.le_of_ble_eq_true rfl) dX5_odds_69 (fun H locs hP hS => ?_)
    refine lv_iconst (v := (1 : Int32)) hx hb dX5_odds_72 (by decide) ?_
    obtain ⟨rfl, rfl⟩ := sp2 hf
    exact kret _ _ _ _ dX5_odds_73 hP hS trivial
  rw [if_neg c_4] at hf
  refine lv_iconst (v := (-1 : Int32)) hx hb dX5_odds_21 (by decide) ?_
  obtain ⟨rfl, rfl⟩ := sp2 hf
  exact kret _ _ _ _ dX5_odds_22 hP hS trivial
set_option maxHeartbeats 4000000 in
set_option maxRecDepth 100000 in
theorem c_X5_mid (l : Launch) (g : GG) (u : UU) (x1 : Int32) (x2 : Int32) {r : Int32} {u' : UU} (hf : f_X5_mid x1 x2 u = some (r, u')) : Ci l g 0 55 yX5_mid wsX5_mid 2 56 [.ref (aD g 0), .int x1, .int x2] u r u' := by
  refine ct_i (cc := cX5_mid) (maxL := 3) (by decide) rfl (Nat.le_of_ble_eq_true rfl) ?_
  intro p e s m args below meth c R Q ls hx hb hml hown hts hC hP hl hRf hRl kret hS
  have hown : s.vm.findClass RX5 = some m.cls := hown
  have hl : lv_has ls 3 [(0, .ref (aD g 0)), (1, .int x1), (2, .int x2)] := hl
  have hinX5 : ∀ w ∈ u_ws RX5 TX5 12, w ∈ wsX5_mid := by decide +kernel
  unfold f_X5_mid at hf
  refine lv_aload_n hx hb dX5_mid_0 rfl (lv_at hl 0 rfl) ?_
  refine r_get hx hb hts hown hC hP hinX5 0 (by decide) (ci := 4) rfl (by decide) rfl 3 (by decide) (hts (.fieldLink RX5 31 "LoafParts" "table" "LLoafParts$Table;") (by decide +kernel)) (v := .ref (aD g 11)) rfl dX5_mid_1 ?_
  refine lv_iload_n hx hb dX5_mid_4 rfl (lv_at hl 1 rfl) ?_
  obtain ⟨q_1, hq_1, hf⟩ := bind_ex hf
  refine r_Vi (As := [.int x1]) (rest := []) (k := 11) (ci := 3) ⟨hx, hb, hml, hown, hts⟩ hC hP hS (by decide) rfl (by decide) rfl (c_X4_isWorker l g u x1 hq_1) (cwV 1 hts gX5_mid_X4_isWorker rfl rfl rfl (by decide +kernel) ⟨(Nat.le_trans (Nat.le_of_ble_eq_true rfl) hRf), (Nat.le_trans (Nat.le_of_ble_eq_true rfl) hRl)⟩) rfl hl.1 rfl (Nat.le_of_ble_eq_true rfl) dX5_mid_5 (fun H locs hP hS => ?_)
  refine lv_if_eq (tgt := 21) hx hb dX5_mid_8 (by decide) (fun c_2 => ?_) (fun c_2 => ?_)
  · rw [if_pos c_2] at hf
    refine lv_iconst (v := (-1 : Int32)) hx hb dX5_mid_21 (by decide) ?_
    obtain ⟨rfl, rfl⟩ := sp2 hf
    exact kret _ _ _ _ dX5_mid_22 hP hS trivial
  rw [if_neg c_2] at hf
  refine lv_iload_n hx hb dX5_mid_11 rfl (lv_at hl 2 rfl) ?_
  refine lv_if_lt (tgt := 21) hx hb dX5_mid_12 (by decide) (fun c_3 => ?_) (fun c_3 => ?_)
  · rw [if_pos c_3] at hf
    refine lv_iconst (v := (-1 : Int32)) hx hb dX5_mid_21 (by decide) ?_
    obtain ⟨rfl, rfl⟩ := sp2 hf
    exact kret _ _ _ _ dX5_mid_22 hP hS trivial
  rw [if_neg c_3] at hf
  refine lv_iload_n hx hb dX5_mid_15 rfl (lv_at hl 2 rfl) ?_
  refine lv_bipush (v := (12 : Int32)) hx hb dX5_mid_16 (by decide) ?_
  refine lv_icmp_le (tgt := 23) hx hb dX5_mid_18 (by decide) (fun c_4 => ?_) (fun c_4 => ?_)
  · rw [if_pos c_4] at hf
    refine lv_aload_n hx hb dX5_mid_23 rfl (lv_at hl 0 rfl) ?_
    refine lv_aload_n hx hb dX5_mid_24 rfl (lv_at hl 0 rfl) ?_
    refine r_get hx hb hts hown hC hP hinX5 0 (by decide) (ci := 4) rfl (by decide) rfl 3 (by decide) (hts (.fieldLink RX5 31 "LoafParts" "table" "LLoafParts$Table;") (by decide +kernel)) (v := .ref (aD g 11)) rfl dX5_mid_25 ?_
    refine lv_iload_n hx hb dX5_mid_28 rfl (lv_at hl 1 rfl) ?_
    obtain ⟨q_5, hq_5, hf⟩ := bind_ex hf
    refine r_Vi (As := [.int x1]) (rest := [.ref (aD g 0)]) (k := 11) (ci := 3) ⟨hx, hb, hml, hown, hts⟩ hC hP hS (by decide) rfl (by decide) rfl (c_X4_sizeOfHad l g u x1 hq_5) (cwV 1 hts gX5_mid_X4_sizeOfHad rfl rfl rfl (by decide +kernel) ⟨(Nat.le_trans (Nat.le_of_ble_eq_true rfl) hRf), (Nat.le_trans (Nat.le_of_ble_eq_true rfl) hRl)⟩) rfl hl.1 rfl (Nat.le_of_ble_eq_true rfl) dX5_mid_29 (fun H locs hP hS => ?_)
    refine lv_i2l hx hb dX5_mid_32 rfl ?_
    refine lv_bipush (v := (12 : Int32)) hx hb dX5_mid_33 (by decide) ?_
    refine lv_iload_n hx hb dX5_mid_35 rfl (lv_at hl 2 rfl) ?_
    refine lv_isub hx hb dX5_mid_36 ?_
    refine lv_i2l hx hb dX5_mid_37 rfl ?_
    refine lv_lmul hx hb dX5_mid_38 ?_
    refine lv_ldc2 (v := (8648640 : Int64)) hx hb hown (hts (.constantLong RX5 277 (8648640)) (by decide +kernel)) dX5_mid_39 ?_
    obtain ⟨q_6, hq_6, hf⟩ := bind_ex hf
    refine r_Vv (As := [.long (((q_5 : Int32).toInt64) * ((((12 : Int32) - x2) : Int32).toInt64)), .long (8648640 : Int64)]) (rest := []) (k := 0) (ci := 4) ⟨hx, hb, hml, hown, hts⟩ hC hP hS (by decide) rfl (by decide) rfl (c_X5_tellFraction l g u (((q_5 : Int32).toInt64) * ((((12 : Int32) - x2) : Int32).toInt64)) (8648640 : Int64) hq_6) (cwV 2 hts gX5_mid_X5_tellFraction rfl rfl rfl (by decide +kernel) ⟨(Nat.le_trans (Nat.le_of_ble_eq_true rfl) hRf), (Nat.le_trans (Nat.le_of_ble_eq_true rfl) hRl)⟩) rfl hl.1 rfl (Nat.le_of_ble_eq_true rfl) dX5_mid_42 (fun H locs hP hS => ?_)
    refine lv_iconst (v := (1 : Int32)) hx hb dX5_mid_45 (by decide) ?_
    obtain ⟨rfl, rfl⟩ := sp2 hf
    exact kret _ _ _ _ dX5_mid_46 hP hS trivial
  rw [if_neg c_4] at hf
  refine lv_iconst (v := (-1 : Int32)) hx hb dX5_mid_21 (by decide) ?_
  obtain ⟨rfl, rfl⟩ := sp2 hf
  exact kret _ _ _ _ dX5_mid_22 hP hS trivial
set_option maxHeartbeats 4000000 in
set_option maxRecDepth 100000 in
theorem c_X4_deedByLot (l : Launch) (g : GG) (u : UU) (x1 : Int32) {u' : UU} (hf : f_X4_deedByLot x1 u = some u') : Cv l g 0 55 yX4_deedByLot wsX4_deedByLot 4 85 [.ref (aD g 11), .int x1] u u' := by
  refine ct_v (cc := cX4_deedByLot) (maxL := 5) (by decide) rfl (Nat.le_of_ble_eq_true rfl) ?_
  intro p e s m args below meth c R Q ls hx hb hml hown hts hC hP hl hRf hRl kret hS
  have hown : s.vm.findClass RX4 = some m.cls := hown
  have hl : lv_has ls 5 [(0, .ref (aD g 11)), (1, .int x1)] := hl
  have hinX4 : ∀ w ∈ u_ws RX4 TX4 13, w ∈ wsX4_deedByLot := by decide +kernel
  have w_108 : ∀ (u : UU) (H : Heap) (locs : List Loc) (ls : Array Slot), Ps g 0 55 u H → va_S (aA g) s.heap H locs → lv_has ls 5 [(0, .ref (aD g 11))] → f_X4_deedByLot_108 u = some u' → W p l e R s m args below meth c H locs 0 0 Q (F0 m 108 ls []) := by
    intro u H locs ls hP hS hl hf
    unfold f_X4_deedByLot_108 at hf
    refine lv_aload_n hx hb dX4_deedByLot_108 rfl (lv_at hl 0 rfl) ?_
    refine lv_iconst (v := (0 : Int32)) hx hb dX4_deedByLot_109 (by decide) ?_
    refine lv_iconst (v := (0 : Int32)) hx hb dX4_deedByLot_110 (by decide) ?_
    refine lv_iconst (v := (0 : Int32)) hx hb dX4_deedByLot_111 (by decide) ?_
    obtain ⟨q_10, hq_10, hf⟩ := bind_ex hf
    refine r_Vv (As := [.int (0 : Int32), .int (0 : Int32), .int (0 : Int32)]) (rest := []) (k := 11) (ci := 3) ⟨hx, hb, hml, hown, hts⟩ hC hP hS (by decide) rfl (by decide) rfl (c_X4_noteDeed l g u (0 : Int32) (0 : Int32) (0 : Int32) hq_10) (cwV 3 hts gX4_deedByLot_X4_noteDeed rfl rfl rfl (by decide +kernel) ⟨(Nat.le_trans (Nat.le_of_ble_eq_true rfl) hRf), (Nat.le_trans (Nat.le_of_ble_eq_true rfl) hRl)⟩) rfl hl.1 rfl (Nat.le_of_ble_eq_true rfl) dX4_deedByLot_112 (fun H locs hP hS => ?_)
    obtain rfl := sp1 hf
    exact kret _ _ _ _ dX4_deedByLot_115 hP hS trivial
  have w_90 : ∀ (x2 : Int32) (x3 : Int32) (u : UU) (H : Heap) (locs : List Loc) (ls : Array Slot), Ps g 0 55 u H → va_S (aA g) s.heap H locs → lv_has ls 5 [(0, .ref (aD g 11)), (2, .int x2), (3, .int x3)] → f_X4_deedByLot_90 x2 x3 u = some u' → W p l e R s m args below meth c H locs 0 0 Q (F0 m 90 ls []) := by
    intro x2 x3 u H locs ls hP hS hl hf
    unfold f_X4_deedByLot_90 at hf
    refine lv_aload_n hx hb dX4_deedByLot_90 rfl (lv_at hl 0 rfl) ?_
    refine lv_iload_n hx hb dX4_deedByLot_91 rfl (lv_at hl 2 rfl) ?_
    refine lv_iload_n hx hb dX4_deedByLot_92 rfl (lv_at hl 1 rfl) ?_
    obtain ⟨q_8, hq_8, hf⟩ := bind_ex hf
    refine r_Vi (As := [.int x3, .int x2]) (rest := []) (k := 11) (ci := 3) ⟨hx, hb, hml, hown, hts⟩ hC hP hS (by decide) rfl (by decide) rfl (c_X4_canGive l g u x3 x2 hq_8) (cwV 2 hts gX4_deedByLot_X4_canGive rfl rfl rfl (by decide +kernel) ⟨(Nat.le_trans (Nat.le_of_ble_eq_true rfl) hRf), (Nat.le_trans (Nat.le_of_ble_eq_true rfl) hRl)⟩) rfl hl.1 rfl (Nat.le_of_ble_eq_true rfl) dX4_deedByLot_93 (fun H locs hP hS => ?_)
    refine lv_if_eq (tgt := 108) hx hb dX4_deedByLot_96 (by decide) (fun c_9 => ?_) (fun c_9 => ?_)
    · rw [if_pos c_9] at hf
      exact w_108 u _ _ _ hP hS (lv_sub hl [0] rfl) hf
    rw [if_neg c_9] at hf
    refine lv_aload_n hx hb dX4_deedByLot_99 rfl (lv_at hl 0 rfl) ?_
    refine lv_iload_n hx hb dX4_deedByLot_100 rfl (lv_at hl 2 rfl) ?_
    refine lv_iload_n hx hb dX4_deedByLot_101 rfl (lv_at hl 1 rfl) ?_
    obtain ⟨q_11, hq_11, hf⟩ := bind_ex hf
    refine r_Vv (As := [.int x3, .int x2]) (rest := []) (k := 11) (ci := 3) ⟨hx, hb, hml, hown, hts⟩ hC hP hS (by decide) rfl (by decide) rfl (c_X4_givePart l g u x3 x2 hq_11) (cwV 2 hts gX4_deedByLot_X4_givePart rfl rfl rfl (by decide +kernel) ⟨(Nat.le_trans (Nat.le_of_ble_eq_true rfl) hRf), (Nat.le_trans (Nat.le_of_ble_eq_true rfl) hRl)⟩) rfl hl.1 rfl (Nat.le_of_ble_eq_true rfl) dX4_deedByLot_102 (fun H locs hP hS => ?_)
    refine lv_goto (tgt := 115) hx hb dX4_deedByLot_105 (by decide) ?_
    obtain rfl := sp1 hf
    exact kret _ _ _ _ dX4_deedByLot_115 hP hS trivial
  have w_78 : ∀ (x2 : Int32) (x3 : Int32) (x4 : Int32) (u : UU) (H : Heap) (locs : List Loc) (ls : Array Slot), Ps g 0 55 u H → va_S (aA g) s.heap H locs → lv_has ls 5 [(0, .ref (aD g 11)), (2, .int x2), (3, .int x3), (4, .int x4)] → f_X4_deedByLot_78 x2 x3 x4 u = some u' → W p l e R s m args below meth c H locs 0 0 Q (F0 m 78 ls []) := by
    intro x2 x3 x4 u H locs ls hP hS hl hf
    unfold f_X4_deedByLot_78 at hf
    refine lv_iload hx hb dX4_deedByLot_78 (lv_at hl 3 rfl) ?_
    refine lv_iconst (v := (1 : Int32)) hx hb dX4_deedByLot_80 (by decide) ?_
    refine lv_icmp_eq (tgt := 90) hx hb dX4_deedByLot_81 (by decide) (fun c_7 => ?_) (fun c_7 => ?_)
    · rw [if_pos c_7] at hf
      exact w_90 x2 x3 u _ _ _ hP hS (lv_sub hl [0, 1, 2] rfl) hf
    rw [if_neg c_7] at hf
    refine lv_iload hx hb dX4_deedByLot_84 (lv_at hl 3 rfl) ?_
    refine lv_iconst (v := (2 : Int32)) hx hb dX4_deedByLot_86 (by decide) ?_
    refine lv_icmp_ne (tgt := 108) hx hb dX4_deedByLot_87 (by decide) (fun c_12 => ?_) (fun c_12 => ?_)
    · rw [if_neg c_12] at hf
      exact w_108 u _ _ _ hP hS (lv_sub hl [0] rfl) hf
    rw [if_pos c_12] at hf
    exact w_90 x2 x3 u _ _ _ hP hS (lv_sub hl [0, 1, 2] rfl) hf
  have w_54 : ∀ (x2 : Int32) (x3 : Int32) (x4 : Int32) (u : UU) (H : Heap) (locs : List Loc) (ls : Array Slot), Ps g 0 55 u H → va_S (aA g) s.heap H locs → lv_has ls 5 [(0, .ref (aD g 11)), (2, .int x2), (3, .int x3), (4, .int x4)] → f_X4_deedByLot_54 x2 x3 x4 u = some u' → W p l e R s m args below meth c H locs 0 0 Q (F0 m 54 ls []) := by
    intro x2 x3 x4 u H locs ls hP hS hl hf
    unfold f_X4_deedByLot_54 at hf
    refine lv_iload hx hb dX4_deedByLot_54 (lv_at hl 3 rfl) ?_
    refine lv_iconst (v := (3 : Int32)) hx hb dX4_deedByLot_56 (by decide) ?_
    refine lv_icmp_ne (tgt := 78) hx hb dX4_deedByLot_57 (by decide) (fun c_6 => ?_) (fun c_6 => ?_)
    · rw [if_neg c_6] at hf
      exact w_78 x2 x3 x4 u _ _ _ hP hS (lv_sub hl [0, 1, 2, 3] rfl) hf
    rw [if_pos c_6] at hf
    refine lv_aload_n hx hb dX4_deedByLot_60 rfl (lv_at hl 0 rfl) ?_
    refine lv_iload_n hx hb dX4_deedByLot_61 rfl (lv_at hl 2 rfl) ?_
    refine lv_iload_n hx hb dX4_deedByLot_62 rfl (lv_at hl 1 rfl) ?_
    obtain ⟨q_13, hq_13, hf⟩ := bind_ex hf
    refine r_Vi (As := [.int x3, .int x2]) (rest := []) (k := 11) (ci := 3) ⟨hx, hb, hml, hown, hts⟩ hC hP hS (by decide) rfl (by decide) rfl (c_X4_canTakeBack l g u x3 x2 hq_13) (cwV 2 hts gX4_deedByLot_X4_canTakeBack rfl rfl rfl (by decide +kernel) ⟨(Nat.le_trans (Nat.le_of_ble_eq_true rfl) hRf), (Nat.le_trans (Nat.le_of_ble_eq_true rfl) hRl)⟩) rfl hl.1 rfl (Nat.le_of_ble_eq_true rfl) dX4_deedByLot_63 (fun H locs hP hS => ?_)
    refine lv_if_eq (tgt := 78) hx hb dX4_deedByLot_66 (by decide) (fun c_14 => ?_) (fun c_14 => ?_)
    · rw [if_pos c_14] at hf
      exact w_78 x2 x3 x4 u _ _ _ hP hS (lv_sub hl [0, 1, 2, 3] rfl) hf
    rw [if_neg c_14] at hf
    refine lv_aload_n hx hb dX4_deedByLot_69 rfl (lv_at hl 0 rfl) ?_
    refine lv_iload_n hx hb dX4_deedByLot_70 rfl (lv_at hl 2 rfl) ?_
    refine lv_iload_n hx hb dX4_deedByLot_71 rfl (lv_at hl 1 rfl) ?_
    obtain ⟨q_15, hq_15, hf⟩ := bind_ex hf
    refine r_Vv (As := [.int x3, .int x2]) (rest := []) (k := 11) (ci := 3) ⟨hx, hb, hml, hown, hts⟩ hC hP hS (by decide) rfl (by decide) rfl (c_X4_takeBack l g u x3 x2 hq_15) (cwV 2 hts gX4_deedByLot_X4_takeBack rfl rfl rfl (by decide +kernel) ⟨(Nat.le_trans (Nat.le_of_ble_eq_true rfl) hRf), (Nat.le_trans (Nat.le_of_ble_eq_true rfl) hRl)⟩) rfl hl.1 rfl (Nat.le_of_ble_eq_true rfl) dX4_deedByLot_72 (fun H locs hP hS => ?_)
    refine lv_goto (tgt := 115) hx hb dX4_deedByLot_75 (by decide) ?_
    obtain rfl := sp1 hf
    exact kret _ _ _ _ dX4_deedByLot_115 hP hS trivial
  unfold f_X4_deedByLot at hf
  refine lv_aload_n hx hb dX4_deedByLot_0 rfl (lv_at hl 0 rfl) ?_
  refine r_get hx hb hts hown hC hP hinX4 11 (by decide) (ci := 3) rfl (by decide) rfl 0 (by decide) (hts (.fieldLink RX4 39 "LoafParts$Table" "workers" "I") (by decide +kernel)) (v := .int (ui u 11 0)) rfl dX4_deedByLot_1 ?_
  refine lv_if_ne (tgt := 8) hx hb dX4_deedByLot_4 (by decide) (fun c_1 => ?_) (fun c_1 => ?_)
  · rw [if_neg c_1] at hf
    refine lv_iload_n hx hb dX4_deedByLot_8 rfl (lv_at hl 1 rfl) ?_
    refine lv_bipush (v := (8 : Int32)) hx hb dX4_deedByLot_9 (by decide) ?_
    refine lv_idiv hx hb dX4_deedByLot_11 (by decide) ?_
    refine lv_bipush (v := (15 : Int32)) hx hb dX4_deedByLot_12 (by decide) ?_
    refine lv_irem hx hb dX4_deedByLot_14 (by decide) ?_
    refine lv_iconst (v := (2 : Int32)) hx hb dX4_deedByLot_15 (by decide) ?_
    refine lv_iadd hx hb dX4_deedByLot_16 ?_
    obtain ⟨x2_2, ex2_2, hf⟩ := lt_ex hf
    refine r_nm ex2_2 ?_
    refine lv_istore_n (lv' := [(2, .int x2_2), (0, .ref (aD g 11)), (1, .int x1)]) hx hb dX4_deedByLot_17 rfl hl (by decide) rfl (fun ls hl => ?_)
    refine lv_iload_n hx hb dX4_deedByLot_18 rfl (lv_at hl 2 rfl) ?_
    refine lv_sipush (v := (128 : Int32)) hx hb dX4_deedByLot_19 (by decide) ?_
    refine lv_idiv hx hb dX4_deedByLot_22 (by decide) ?_
    refine lv_aload_n hx hb dX4_deedByLot_23 rfl (lv_at hl 1 rfl) ?_
    refine r_get hx hb hts hown hC hP hinX4 11 (by decide) (ci := 3) rfl (by decide) rfl 0 (by decide) (hts (.fieldLink RX4 39 "LoafParts$Table" "workers" "I") (by decide +kernel)) (v := .int (ui u 11 0)) rfl dX4_deedByLot_24 ?_
    refine lv_irem hx hb dX4_deedByLot_27 c_1 ?_
    obtain ⟨x3_3, ex3_3, hf⟩ := lt_ex hf
    refine r_nm ex3_3 ?_
    refine lv_istore_n (lv' := [(3, .int x3_3), (2, .int x2_2), (0, .ref (aD g 11)), (1, .int x1)]) hx hb dX4_deedByLot_28 rfl hl (by decide) rfl (fun ls hl => ?_)
    refine lv_iload_n hx hb dX4_deedByLot_29 rfl (lv_at hl 3 rfl) ?_
    refine lv_iconst (v := (4 : Int32)) hx hb dX4_deedByLot_30 (by decide) ?_
    refine lv_irem hx hb dX4_deedByLot_31 (by decide) ?_
    obtain ⟨x4_4, ex4_4, hf⟩ := lt_ex hf
    refine r_nm ex4_4 ?_
    refine lv_istore (lv' := [(4, .int x4_4), (3, .int x3_3), (2, .int x2_2), (0, .ref (aD g 11)), (1, .int x1)]) hx hb dX4_deedByLot_32 hl (by decide) rfl (fun ls hl => ?_)
    refine lv_iload hx hb dX4_deedByLot_34 (lv_at hl 0 rfl) ?_
    refine lv_if_ne (tgt := 54) hx hb dX4_deedByLot_36 (by decide) (fun c_5 => ?_) (fun c_5 => ?_)
    · rw [if_neg c_5] at hf
      exact w_54 x2_2 x3_3 x4_4 u _ _ _ hP hS (lv_sub hl [3, 2, 1, 0] rfl) hf
    rw [if_pos c_5] at hf
    refine lv_aload_n hx hb dX4_deedByLot_39 rfl (lv_at hl 3 rfl) ?_
    obtain ⟨q_16, hq_16, hf⟩ := bind_ex hf
    refine r_Vi (As := []) (rest := []) (k := 11) (ci := 3) ⟨hx, hb, hml, hown, hts⟩ hC hP hS (by decide) rfl (by decide) rfl (c_X4_canCut l g u hq_16) (cwV 0 hts gX4_deedByLot_X4_canCut rfl rfl rfl (by decide +kernel) ⟨(Nat.le_trans (Nat.le_of_ble_eq_true rfl) hRf), (Nat.le_trans (Nat.le_of_ble_eq_true rfl) hRl)⟩) rfl hl.1 rfl (Nat.le_of_ble_eq_true rfl) dX4_deedByLot_40 (fun H locs hP hS => ?_)
    refine lv_if_eq (tgt := 54) hx hb dX4_deedByLot_43 (by decide) (fun c_17 => ?_) (fun c_17 => ?_)
    · rw [if_pos c_17] at hf
      exact w_54 x2_2 x3_3 x4_4 u _ _ _ hP hS (lv_sub hl [3, 2, 1, 0] rfl) hf
    rw [if_neg c_17] at hf
    refine lv_aload_n hx hb dX4_deedByLot_46 rfl (lv_at hl 3 rfl) ?_
    refine lv_iload_n hx hb dX4_deedByLot_47 rfl (lv_at hl 2 rfl) ?_
    obtain ⟨q_18, hq_18, hf⟩ := bind_ex hf
    refine r_Vv (As := [.int x2_2]) (rest := []) (k := 11) (ci := 3) ⟨hx, hb, hml, hown, hts⟩ hC hP hS (by decide) rfl (by decide) rfl (c_X4_cutLoaf l g u x2_2 hq_18) (cwV 1 hts gX4_deedByLot_X4_cutLoaf rfl rfl rfl (by decide +kernel) ⟨(Nat.le_trans (Nat.le_of_ble_eq_true rfl) hRf), (Nat.le_trans (Nat.le_of_ble_eq_true rfl) hRl)⟩) rfl hl.1 rfl (Nat.le_of_ble_eq_true rfl) dX4_deedByLot_48 (fun H locs hP hS => ?_)
    refine lv_goto (tgt := 115) hx hb dX4_deedByLot_51 (by decide) ?_
    obtain rfl := sp1 hf
    exact kret _ _ _ _ dX4_deedByLot_115 hP hS trivial
  rw [if_pos c_1] at hf
  obtain rfl := sp1 hf
  exact kret _ _ _ _ dX4_deedByLot_7 hP hS trivial
set_option maxHeartbeats 4000000 in
set_option maxRecDepth 100000 in
theorem c_X4_lyingInAll (l : Launch) (g : GG) (u : UU) {r : Int32} (hf : f_X4_lyingInAll u = some r) : Ci l g 0 55 yX4_lyingInAll wsX4_lyingInAll 0 0 [.ref (aD g 11)] u r u := by
  refine ct_i (cc := cX4_lyingInAll) (maxL := 3) (by decide) rfl (Nat.le_of_ble_eq_true rfl) ?_
  intro p e s m args below meth c R Q ls hx hb hml hown hts hC hP hl hRf hRl kret hS
  have hown : s.vm.findClass RX4 = some m.cls := hown
  have hl : lv_has ls 3 [(0, .ref (aD g 11))] := hl
  have hinX4 : ∀ w ∈ u_ws RX4 TX4 13, w ∈ wsX4_lyingInAll := by decide +kernel
  have w_4 : ∀ (n : Nat), ∀ (x1 : Int32) (x2 : Int32) (H : Heap) (locs : List Loc) (ls : Array Slot), Ps g 0 55 u H → va_S (aA g) s.heap H locs → lv_has ls 3 [(0, .ref (aD g 11)), (1, .int x1), (2, .int x2)] → f_X4_lyingInAll_4 n x1 x2 u = some r → W p l e R s m args below meth c H locs 0 0 Q (F0 m 4 ls []) := by
    intro n
    induction n with
    | zero =>
      intro x1 x2 H locs ls hP hS hl hf
      rw [f_X4_lyingInAll_4] at hf
      cases hf
    | succ n ih =>
      intro x1 x2 H locs ls hP hS hl hf
      rw [f_X4_lyingInAll_4] at hf
      refine lv_iload_n hx hb dX4_lyingInAll_4 rfl (lv_at hl 2 rfl) ?_
      refine lv_bipush (v := (16 : Int32)) hx hb dX4_lyingInAll_5 (by decide) ?_
      refine lv_icmp_gt (tgt := 25) hx hb dX4_lyingInAll_7 (by decide) (fun c_1 => ?_) (fun c_1 => ?_)
      · rw [if_pos c_1] at hf
        refine lv_iload_n hx hb dX4_lyingInAll_25 rfl (lv_at hl 1 rfl) ?_
        obtain rfl := sp1 hf
        exact kret _ _ _ _ dX4_lyingInAll_26 hP hS trivial
      rw [if_neg c_1] at hf
      refine lv_iload_n hx hb dX4_lyingInAll_10 rfl (lv_at hl 1 rfl) ?_
      refine lv_aload_n hx hb dX4_lyingInAll_11 rfl (lv_at hl 0 rfl) ?_
      refine r_get hx hb hts hown hC hP hinX4 11 (by decide) (ci := 3) rfl (by decide) rfl 3 (by decide) (hts (.fieldLink RX4 9 "LoafParts$Table" "lying" "[I") (by decide +kernel)) (v := .ref (aD g 12)) rfl dX4_lyingInAll_12 ?_
      refine lv_iload_n hx hb dX4_lyingInAll_15 rfl (lv_at hl 2 rfl) ?_
      obtain ⟨hi_2, hf⟩ := ix_ex hf
      refine r_ald hx hb hC hP 12 (by decide) rfl hi_2 dX4_lyingInAll_16 ?_
      refine lv_iadd hx hb dX4_lyingInAll_17 ?_
      obtain ⟨x1_3, ex1_3, hf⟩ := lt_ex hf
      refine r_nm ex1_3 ?_
      refine lv_istore_n (lv' := [(1, .int x1_3), (0, .ref (aD g 11)), (2, .int x2)]) hx hb dX4_lyingInAll_18 rfl hl (by decide) rfl (fun ls hl => ?_)
      obtain ⟨x2_4, ex2_4, hf⟩ := lt_ex hf
      refine lv_iinc (v := x2_4) (lv' := [(2, .int x2_4), (1, .int x1_3), (0, .ref (aD g 11))]) hx hb dX4_lyingInAll_19 hl (k := 2) rfl (by rw [ex2_4]; rfl) (by decide) rfl (fun ls hl => ?_)
      refine lv_goto (tgt := 4) hx hb dX4_lyingInAll_22 (by decide) ?_
      exact ih x1_3 x2_4 _ _ _ hP hS (lv_sub hl [2, 1, 0] rfl) hf
  unfold f_X4_lyingInAll at hf
  refine lv_iconst (v := (0 : Int32)) hx hb dX4_lyingInAll_0 (by decide) ?_
  refine lv_istore_n (lv' := [(1, .int (0 : Int32)), (0, .ref (aD g 11))]) hx hb dX4_lyingInAll_1 rfl hl (by decide) rfl (fun ls hl => ?_)
  refine lv_iconst (v := (2 : Int32)) hx hb dX4_lyingInAll_2 (by decide) ?_
  refine lv_istore_n (lv' := [(2, .int (2 : Int32)), (1, .int (0 : Int32)), (0, .ref (aD g 11))]) hx hb dX4_lyingInAll_3 rfl hl (by decide) rfl (fun ls hl => ?_)
  exact w_4 fu (0 : Int32) (2 : Int32) _ _ _ hP hS (lv_sub hl [2, 1, 0] rfl) hf
set_option maxHeartbeats 4000000 in
set_option maxRecDepth 100000 in
theorem c_X5_lots (l : Launch) (g : GG) (u : UU) (x1 : Int32) (x2 : Int32) {r : Int32} {u' : UU} (hf : f_X5_lots x1 x2 u = some (r, u')) : Ci l g 0 55 yX5_lots wsX5_lots 5 109 [.ref (aD g 0), .int x1, .int x2] u r u' := by
  refine ct_i (cc := cX5_lots) (maxL := 6) (by decide) rfl (Nat.le_of_ble_eq_true rfl) ?_
  intro p e s m args below meth c R Q ls hx hb hml hown hts hC hP hl hRf hRl kret hS
  have hown : s.vm.findClass RX5 = some m.cls := hown
  have hl : lv_has ls 6 [(0, .ref (aD g 0)), (1, .int x1), (2, .int x2)] := hl
  have hinX4 : ∀ w ∈ u_ws RX4 TX4 13, w ∈ wsX5_lots := by decide +kernel
  have hinX5 : ∀ w ∈ u_ws RX5 TX5 12, w ∈ wsX5_lots := by decide +kernel
  have w_58 : ∀ (n : Nat), ∀ (x1 : Int32) (x3 : Int64) (x5 : Int32) (u : UU) (H : Heap) (locs : List Loc) (ls : Array Slot), Ps g 0 55 u H → va_S (aA g) s.heap H locs → lv_has ls 6 [(0, .ref (aD g 0)), (1, .int x1), (3, .long x3), (5, .int x5)] → f_X5_lots_58 n x1 x3 x5 u = some (r, u') → W p l e R s m args below meth c H locs 0 0 Q (F0 m 58 ls []) := by
    intro n
    induction n with
    | zero =>
      intro x1 x3 x5 u H locs ls hP hS hl hf
      rw [f_X5_lots_58] at hf
      cases hf
    | succ n ih =>
      intro x1 x3 x5 u H locs ls hP hS hl hf
      rw [f_X5_lots_58] at hf
      refine lv_iload hx hb dX5_lots_58 (lv_at hl 3 rfl) ?_
      refine lv_iload_n hx hb dX5_lots_60 rfl (lv_at hl 1 rfl) ?_
      refine lv_icmp_ge (tgt := 89) hx hb dX5_lots_61 (by decide) (fun c_9 => ?_) (fun c_9 => ?_)
      · rw [if_pos c_9] at hf
        refine lv_aload_n hx hb dX5_lots_89 rfl (lv_at hl 0 rfl) ?_
        refine r_get hx hb hts hown hC hP hinX5 0 (by decide) (ci := 4) rfl (by decide) rfl 3 (by decide) (hts (.fieldLink RX5 31 "LoafParts" "table" "LLoafParts$Table;") (by decide +kernel)) (v := .ref (aD g 11)) rfl dX5_lots_90 ?_
        obtain ⟨q_10, hq_10, hf⟩ := bind_ex hf
        refine r_Vi (As := []) (rest := []) (k := 11) (ci := 3) ⟨hx, hb, hml, hown, hts⟩ hC hP hS (by decide) rfl (by decide) rfl (c_X4_lyingInAll l g u hq_10) (cwV 0 hts gX5_lots_X4_lyingInAll rfl rfl rfl (by decide +kernel) ⟨(Nat.le_trans (Nat.le_of_ble_eq_true rfl) hRf), (Nat.le_trans (Nat.le_of_ble_eq_true rfl) hRl)⟩) rfl hl.1 rfl (Nat.le_of_ble_eq_true rfl) dX5_lots_93 (fun H locs hP hS => ?_)
        obtain ⟨rfl, rfl⟩ := sp2 hf
        exact kret _ _ _ _ dX5_lots_96 hP hS trivial
      rw [if_neg c_9] at hf
      refine lv_lload_n hx hb dX5_lots_64 rfl (lv_at hl 2 rfl) ?_
      refine lv_ldc2 (v := (48271 : Int64)) hx hb hown (hts (.constantLong RX5 280 (48271)) (by decide +kernel)) dX5_lots_65 ?_
      refine lv_lmul hx hb dX5_lots_68 ?_
      refine lv_ldc2 (v := (2147483647 : Int64)) hx hb hown (hts (.constantLong RX5 282 (2147483647)) (by decide +kernel)) dX5_lots_69 ?_
      refine lv_lrem hx hb dX5_lots_72 (by decide) ?_
      obtain ⟨x3_11, ex3_11, hf⟩ := lt_ex hf
      refine r_nml ex3_11 ?_
      refine lv_lstore_n (lv' := [(3, .long x3_11), (0, .ref (aD g 0)), (1, .int x1), (5, .int x5)]) hx hb dX5_lots_73 rfl hl (by decide) rfl (fun ls hl => ?_)
      refine lv_aload_n hx hb dX5_lots_74 rfl (lv_at hl 1 rfl) ?_
      refine r_get hx hb hts hown hC hP hinX5 0 (by decide) (ci := 4) rfl (by decide) rfl 3 (by decide) (hts (.fieldLink RX5 31 "LoafParts" "table" "LLoafParts$Table;") (by decide +kernel)) (v := .ref (aD g 11)) rfl dX5_lots_75 ?_
      refine lv_lload_n hx hb dX5_lots_78 rfl (lv_at hl 0 rfl) ?_
      refine lv_l2i hx hb dX5_lots_79 rfl ?_
      obtain ⟨q_12, hq_12, hf⟩ := bind_ex hf
      refine r_Vv (As := [.int ((x3_11 : Int64).toInt32)]) (rest := []) (k := 11) (ci := 3) ⟨hx, hb, hml, hown, hts⟩ hC hP hS (by decide) rfl (by decide) rfl (c_X4_deedByLot l g u ((x3_11 : Int64).toInt32) hq_12) (cwV 1 hts gX5_lots_X4_deedByLot rfl rfl rfl (by decide +kernel) ⟨(Nat.le_trans (Nat.le_of_ble_eq_true rfl) hRf), (Nat.le_trans (Nat.le_of_ble_eq_true rfl) hRl)⟩) rfl hl.1 rfl (Nat.le_of_ble_eq_true rfl) dX5_lots_80 (fun H locs hP hS => ?_)
      obtain ⟨x5_13, ex5_13, hf⟩ := lt_ex hf
      refine lv_iinc (v := x5_13) (lv' := [(5, .int x5_13), (3, .long x3_11), (0, .ref (aD g 0)), (1, .int x1)]) hx hb dX5_lots_83 hl (k := 3) rfl (by rw [ex5_13]; rfl) (by decide) rfl (fun ls hl => ?_)
      refine lv_goto (tgt := 58) hx hb dX5_lots_86 (by decide) ?_
      exact ih x1 x3_11 x5_13 q_12 _ _ _ hP hS (lv_sub hl [2, 3, 1, 0] rfl) hf
  unfold f_X5_lots at hf
  refine lv_iload_n hx hb dX5_lots_0 rfl (lv_at hl 1 rfl) ?_
  refine lv_iconst (v := (1 : Int32)) hx hb dX5_lots_1 (by decide) ?_
  refine lv_icmp_lt (tgt := 23) hx hb dX5_lots_2 (by decide) (fun c_1 => ?_) (fun c_1 => ?_)
  · rw [if_pos c_1] at hf
    refine lv_iconst (v := (-1 : Int32)) hx hb dX5_lots_23 (by decide) ?_
    obtain ⟨rfl, rfl⟩ := sp2 hf
    exact kret _ _ _ _ dX5_lots_24 hP hS trivial
  rw [if_neg c_1] at hf
  refine lv_iload_n hx hb dX5_lots_5 rfl (lv_at hl 1 rfl) ?_
  refine lv_bipush (v := (20 : Int32)) hx hb dX5_lots_6 (by decide) ?_
  refine lv_icmp_gt (tgt := 23) hx hb dX5_lots_8 (by decide) (fun c_2 => ?_) (fun c_2 => ?_)
  · rw [if_pos c_2] at hf
    refine lv_iconst (v := (-1 : Int32)) hx hb dX5_lots_23 (by decide) ?_
    obtain ⟨rfl, rfl⟩ := sp2 hf
    exact kret _ _ _ _ dX5_lots_24 hP hS trivial
  rw [if_neg c_2] at hf
  refine lv_iload_n hx hb dX5_lots_11 rfl (lv_at hl 2 rfl) ?_
  refine lv_iconst (v := (1 : Int32)) hx hb dX5_lots_12 (by decide) ?_
  refine lv_icmp_lt (tgt := 23) hx hb dX5_lots_13 (by decide) (fun c_3 => ?_) (fun c_3 => ?_)
  · rw [if_pos c_3] at hf
    refine lv_iconst (v := (-1 : Int32)) hx hb dX5_lots_23 (by decide) ?_
    obtain ⟨rfl, rfl⟩ := sp2 hf
    exact kret _ _ _ _ dX5_lots_24 hP hS trivial
  rw [if_neg c_3] at hf
  refine lv_iload_n hx hb dX5_lots_16 rfl (lv_at hl 2 rfl) ?_
  refine lv_ldcw (v := (2147483647 : Int32)) hx hb hown (hts (.constant RX5 279 (2147483647)) (by decide +kernel)) dX5_lots_17 ?_
  refine lv_icmp_lt (tgt := 25) hx hb dX5_lots_20 (by decide) (fun c_4 => ?_) (fun c_4 => ?_)
  · rw [if_pos c_4] at hf
    refine lv_aload_n hx hb dX5_lots_25 rfl (lv_at hl 0 rfl) ?_
    refine r_get hx hb hts hown hC hP hinX5 0 (by decide) (ci := 4) rfl (by decide) rfl 3 (by decide) (hts (.fieldLink RX5 31 "LoafParts" "table" "LLoafParts$Table;") (by decide +kernel)) (v := .ref (aD g 11)) rfl dX5_lots_26 ?_
    refine r_getN hx hb hts hown hC hP hinX4 11 (by decide) (ci := 3) rfl (by decide) rfl 0 (by decide) 0 rfl (v := .int (ui u 11 0)) rfl dX5_lots_29 ?_
    refine lv_if_ne (tgt := 38) hx hb dX5_lots_32 (by decide) (fun c_5 => ?_) (fun c_5 => ?_)
    · rw [if_neg c_5] at hf
      refine lv_aload_n hx hb dX5_lots_38 rfl (lv_at hl 0 rfl) ?_
      refine r_get hx hb hts hown hC hP hinX5 0 (by decide) (ci := 4) rfl (by decide) rfl 3 (by decide) (hts (.fieldLink RX5 31 "LoafParts" "table" "LLoafParts$Table;") (by decide +kernel)) (v := .ref (aD g 11)) rfl dX5_lots_39 ?_
      refine lv_iload_n hx hb dX5_lots_42 rfl (lv_at hl 1 rfl) ?_
      obtain ⟨q_6, hq_6, hf⟩ := bind_ex hf
      refine r_Vi (As := [.int x1]) (rest := []) (k := 11) (ci := 3) ⟨hx, hb, hml, hown, hts⟩ hC hP hS (by decide) rfl (by decide) rfl (c_X4_hasRoomFor l g u x1 hq_6) (cwV 1 hts gX5_lots_X4_hasRoomFor rfl rfl rfl (by decide +kernel) ⟨(Nat.le_trans (Nat.le_of_ble_eq_true rfl) hRf), (Nat.le_trans (Nat.le_of_ble_eq_true rfl) hRl)⟩) rfl hl.1 rfl (Nat.le_of_ble_eq_true rfl) dX5_lots_43 (fun H locs hP hS => ?_)
      refine lv_if_ne (tgt := 52) hx hb dX5_lots_46 (by decide) (fun c_7 => ?_) (fun c_7 => ?_)
      · rw [if_neg c_7] at hf
        refine lv_iload_n hx hb dX5_lots_52 rfl (lv_at hl 2 rfl) ?_
        refine lv_i2l hx hb dX5_lots_53 rfl ?_
        obtain ⟨x3_8, ex3_8, hf⟩ := lt_ex hf
        refine r_nml ex3_8 ?_
        refine lv_lstore_n (lv' := [(3, .long x3_8), (0, .ref (aD g 0)), (1, .int x1), (2, .int x2)]) hx hb dX5_lots_54 rfl hl (by decide) rfl (fun ls hl => ?_)
        refine lv_iconst (v := (0 : Int32)) hx hb dX5_lots_55 (by decide) ?_
        refine lv_istore (lv' := [(5, .int (0 : Int32)), (3, .long x3_8), (0, .ref (aD g 0)), (1, .int x1), (2, .int x2)]) hx hb dX5_lots_56 hl (by decide) rfl (fun ls hl => ?_)
        exact w_58 fu x1 x3_8 (0 : Int32) u _ _ _ hP hS (lv_sub hl [2, 3, 1, 0] rfl) hf
      rw [if_pos c_7] at hf
      refine lv_bipush (v := (-2 : Int32)) hx hb dX5_lots_49 (by decide) ?_
      obtain ⟨rfl, rfl⟩ := sp2 hf
      exact kret _ _ _ _ dX5_lots_51 hP hS trivial
    rw [if_pos c_5] at hf
    refine lv_bipush (v := (-4 : Int32)) hx hb dX5_lots_35 (by decide) ?_
    obtain ⟨rfl, rfl⟩ := sp2 hf
    exact kret _ _ _ _ dX5_lots_37 hP hS trivial
  rw [if_neg c_4] at hf
  refine lv_iconst (v := (-1 : Int32)) hx hb dX5_lots_23 (by decide) ?_
  obtain ⟨rfl, rfl⟩ := sp2 hf
  exact kret _ _ _ _ dX5_lots_24 hP hS trivial
set_option maxHeartbeats 4000000 in
set_option maxRecDepth 100000 in
theorem c_X5_asked (l : Launch) (g : GG) (u : UU) {r : Int32} (hf : f_X5_asked u = some r) : Ci l g 0 55 yX5_asked wsX5_asked 0 0 [.ref (aD g 0)] u r u := by
  refine ct_i (cc := cX5_asked) (maxL := 1) (by decide) rfl (Nat.le_of_ble_eq_true rfl) ?_
  intro p e s m args below meth c R Q ls hx hb hml hown hts hC hP hl hRf hRl kret hS
  have hown : s.vm.findClass RX5 = some m.cls := hown
  have hl : lv_has ls 1 [(0, .ref (aD g 0))] := hl
  have hinX5 : ∀ w ∈ u_ws RX5 TX5 12, w ∈ wsX5_asked := by decide +kernel
  unfold f_X5_asked at hf
  refine lv_aload_n hx hb dX5_asked_0 rfl (lv_at hl 0 rfl) ?_
  refine r_get hx hb hts hown hC hP hinX5 0 (by decide) (ci := 4) rfl (by decide) rfl 9 (by decide) (hts (.fieldLink RX5 77 "LoafParts" "told" "I") (by decide +kernel)) (v := .int (ui u 0 9)) rfl dX5_asked_1 ?_
  obtain rfl := sp1 hf
  exact kret _ _ _ _ dX5_asked_4 hP hS trivial