set_option maxHeartbeats 4000000 in
set_option maxRecDepth 100000 in
theorem c_X6_counted (l : Launch) (g : GG) (u : UU) (x1 : Int32) {r : Int32} (hf : f_X6_counted x1 u = some r) : Ci l g 55 20 yX6_counted wsX6_counted 3 64 [.ref (aD g 55), .int x1] u r u := by
  refine ct_i (cc := cX6_counted) (maxL := 4) (by decide) rfl (Nat.le_of_ble_eq_true rfl) ?_
  intro p e s m args below meth c R Q ls hx hb hml hown hts hC hP hl hRf hRl kret hS
  have hown : s.vm.findClass RX6 = some m.cls := hown
  have hl : lv_has ls 4 [(0, .ref (aD g 55)), (1, .int x1)] := hl
  have hinX6 : ∀ w ∈ u_ws RX6 TX6 34, w ∈ wsX6_counted := by decide +kernel
  have w_75 : ∀ (n : Nat), ∀ (x2 : Int32) (x3 : Int32) (H : Heap) (locs : List Loc) (ls : Array Slot), Ps g 55 20 u H → va_S (aA g) s.heap H locs → lv_has ls 4 [(0, .ref (aD g 55)), (2, .int x2), (3, .int x3)] → f_X6_counted_75 n x2 x3 u = some r → W p l e R s m args below meth c H locs 0 0 Q (F0 m 75 ls []) := by
    intro n
    induction n with
    | zero =>
      intro x2 x3 H locs ls hP hS hl hf
      rw [f_X6_counted_75] at hf
      cases hf
    | succ n ih =>
      intro x2 x3 H locs ls hP hS hl hf
      rw [f_X6_counted_75] at hf
      refine lv_iload_n hx hb dX6_counted_75 rfl (lv_at hl 2 rfl) ?_
      refine lv_bipush (v := (16 : Int32)) hx hb dX6_counted_76 (by decide) ?_
      refine lv_icmp_gt (tgt := 98) hx hb dX6_counted_78 (by decide) (fun c_6 => ?_) (fun c_6 => ?_)
      · rw [if_pos c_6] at hf
        refine lv_iload_n hx hb dX6_counted_98 rfl (lv_at hl 1 rfl) ?_
        obtain rfl := sp1 hf
        exact kret _ _ _ _ dX6_counted_99 hP hS trivial
      rw [if_neg c_6] at hf
      refine lv_iload_n hx hb dX6_counted_81 rfl (lv_at hl 1 rfl) ?_
      refine lv_aload_n hx hb dX6_counted_82 rfl (lv_at hl 0 rfl) ?_
      refine r_get hx hb hts hown hC hP hinX6 55 (by decide) (ci := 5) rfl (by decide) rfl 21 (by decide) (hts (.fieldLink RX6 51 "LoafPartsModel" "now" "[I") (by decide +kernel)) (v := .ref (aD g 68)) rfl dX6_counted_83 ?_
      refine lv_iconst (v := (1 : Int32)) hx hb dX6_counted_86 (by decide) ?_
      refine lv_iload_n hx hb dX6_counted_87 rfl (lv_at hl 2 rfl) ?_
      refine lv_iadd hx hb dX6_counted_88 ?_
      obtain ⟨hi_7, hf⟩ := ix_ex hf
      refine r_ald hx hb hC hP 68 (by decide) rfl hi_7 dX6_counted_89 ?_
      refine lv_iadd hx hb dX6_counted_90 ?_
      obtain ⟨x2_8, ex2_8, hf⟩ := lt_ex hf
      refine r_nm ex2_8 ?_
      refine lv_istore_n (lv' := [(2, .int x2_8), (0, .ref (aD g 55)), (3, .int x3)]) hx hb dX6_counted_91 rfl hl (by decide) rfl (fun ls hl => ?_)
      obtain ⟨x3_9, ex3_9, hf⟩ := lt_ex hf
      refine lv_iinc (v := x3_9) (lv' := [(3, .int x3_9), (2, .int x2_8), (0, .ref (aD g 55))]) hx hb dX6_counted_92 hl (k := 2) rfl (by rw [ex3_9]; rfl) (by decide) rfl (fun ls hl => ?_)
      refine lv_goto (tgt := 75) hx hb dX6_counted_95 (by decide) ?_
      exact ih x2_8 x3_9 _ _ _ hP hS (lv_sub hl [2, 1, 0] rfl) hf
  have w_102 : ∀ (n : Nat), ∀ (x2 : Int32) (x3 : Int32) (H : Heap) (locs : List Loc) (ls : Array Slot), Ps g 55 20 u H → va_S (aA g) s.heap H locs → lv_has ls 4 [(0, .ref (aD g 55)), (2, .int x2), (3, .int x3)] → f_X6_counted_102 n x2 x3 u = some r → W p l e R s m args below meth c H locs 0 0 Q (F0 m 102 ls []) := by
    intro n
    induction n with
    | zero =>
      intro x2 x3 H locs ls hP hS hl hf
      rw [f_X6_counted_102] at hf
      cases hf
    | succ n ih =>
      intro x2 x3 H locs ls hP hS hl hf
      rw [f_X6_counted_102] at hf
      refine lv_iload_n hx hb dX6_counted_102 rfl (lv_at hl 2 rfl) ?_
      refine lv_aload_n hx hb dX6_counted_103 rfl (lv_at hl 0 rfl) ?_
      refine r_get hx hb hts hown hC hP hinX6 55 (by decide) (ci := 5) rfl (by decide) rfl 17 (by decide) (hts (.fieldLink RX6 136 "LoafPartsModel" "n" "I") (by decide +kernel)) (v := .int (ui u 55 17)) rfl dX6_counted_104 ?_
      refine lv_icmp_ge (tgt := 131) hx hb dX6_counted_107 (by decide) (fun c_11 => ?_) (fun c_11 => ?_)
      · rw [if_pos c_11] at hf
        refine lv_iload_n hx hb dX6_counted_131 rfl (lv_at hl 1 rfl) ?_
        obtain rfl := sp1 hf
        exact kret _ _ _ _ dX6_counted_132 hP hS trivial
      rw [if_neg c_11] at hf
      refine lv_iload_n hx hb dX6_counted_110 rfl (lv_at hl 1 rfl) ?_
      refine lv_aload_n hx hb dX6_counted_111 rfl (lv_at hl 0 rfl) ?_
      refine r_get hx hb hts hown hC hP hinX6 55 (by decide) (ci := 5) rfl (by decide) rfl 21 (by decide) (hts (.fieldLink RX6 51 "LoafPartsModel" "now" "[I") (by decide +kernel)) (v := .ref (aD g 68)) rfl dX6_counted_112 ?_
      refine lv_bipush (v := (18 : Int32)) hx hb dX6_counted_115 (by decide) ?_
      refine lv_iload_n hx hb dX6_counted_117 rfl (lv_at hl 2 rfl) ?_
      refine lv_iadd hx hb dX6_counted_118 ?_
      obtain ⟨hi_12, hf⟩ := ix_ex hf
      refine r_ald hx hb hC hP 68 (by decide) rfl hi_12 dX6_counted_119 ?_
      obtain ⟨q_13, hq_13, hf⟩ := bind_ex hf
      refine r_Si (As := [.int (ui u 68 (((18 : Int32) + x3) : Int32).toNatClampNeg)]) (rest := [.int x2]) ⟨hx, hb, hml, hown, hts⟩ hC hP hS (c_X6_bits l g u (ui u 68 (((18 : Int32) + x3) : Int32).toNatClampNeg) hq_13) (va_cwS 1 hts gX6_counted_X6_bits rfl rfl rfl (by decide +kernel) ⟨(Nat.le_trans (Nat.le_of_ble_eq_true rfl) hRf), (Nat.le_trans (Nat.le_of_ble_eq_true rfl) hRl)⟩) rfl hl.1 rfl (Nat.le_of_ble_eq_true rfl) dX6_counted_120 (fun H locs hP hS => ?_)
      refine lv_iadd hx hb dX6_counted_123 ?_
      obtain ⟨x2_14, ex2_14, hf⟩ := lt_ex hf
      refine r_nm ex2_14 ?_
      refine lv_istore_n (lv' := [(2, .int x2_14), (0, .ref (aD g 55)), (3, .int x3)]) hx hb dX6_counted_124 rfl hl (by decide) rfl (fun ls hl => ?_)
      obtain ⟨x3_15, ex3_15, hf⟩ := lt_ex hf
      refine lv_iinc (v := x3_15) (lv' := [(3, .int x3_15), (2, .int x2_14), (0, .ref (aD g 55))]) hx hb dX6_counted_125 hl (k := 2) rfl (by rw [ex3_15]; rfl) (by decide) rfl (fun ls hl => ?_)
      refine lv_goto (tgt := 102) hx hb dX6_counted_128 (by decide) ?_
      exact ih x2_14 x3_15 _ _ _ hP hS (lv_sub hl [2, 1, 0] rfl) hf
  have w_159 : ∀ (k_135 : Int32 → Int32 → UU → Option Int32) (K_135 : ∀ (x2 : Int32) (x3 : Int32) (H : Heap) (locs : List Loc) (ls : Array Slot), Ps g 55 20 u H → va_S (aA g) s.heap H locs → lv_has ls 4 [(0, .ref (aD g 55)), (2, .int x2), (3, .int x3)] → k_135 x2 x3 u = some r → W p l e R s m args below meth c H locs 0 0 Q (F0 m 135 ls [])), ∀ (x3 : Int32) (t0 : Int32) (t1 : Int32) (H : Heap) (locs : List Loc) (ls : Array Slot), Ps g 55 20 u H → va_S (aA g) s.heap H locs → lv_has ls 4 [(0, .ref (aD g 55)), (3, .int x3)] → f_X6_counted_159 k_135 x3 t0 t1 u = some r → W p l e R s m args below meth c H locs 0 0 Q (F0 m 159 ls [.int t0, .int t1]) := by
    intro k_135 K_135
    intro x3 t0 t1 H locs ls hP hS hl hf
    unfold f_X6_counted_159 at hf
    refine lv_ior hx hb dX6_counted_159 ?_
    obtain ⟨x2_20, ex2_20, hf⟩ := lt_ex hf
    refine r_nm ex2_20 ?_
    refine lv_istore_n (lv' := [(2, .int x2_20), (0, .ref (aD g 55)), (3, .int x3)]) hx hb dX6_counted_160 rfl hl (by decide) rfl (fun ls hl => ?_)
    obtain ⟨x3_21, ex3_21, hf⟩ := lt_ex hf
    refine lv_iinc (v := x3_21) (lv' := [(3, .int x3_21), (2, .int x2_20), (0, .ref (aD g 55))]) hx hb dX6_counted_161 hl (k := 2) rfl (by rw [ex3_21]; rfl) (by decide) rfl (fun ls hl => ?_)
    refine lv_goto (tgt := 135) hx hb dX6_counted_164 (by decide) ?_
    exact K_135 x2_20 x3_21 _ _ _ hP hS (lv_sub hl [2, 1, 0] rfl) hf
  have w_135 : ∀ (n : Nat), ∀ (x2 : Int32) (x3 : Int32) (H : Heap) (locs : List Loc) (ls : Array Slot), Ps g 55 20 u H → va_S (aA g) s.heap H locs → lv_has ls 4 [(0, .ref (aD g 55)), (2, .int x2), (3, .int x3)] → f_X6_counted_135 n x2 x3 u = some r → W p l e R s m args below meth c H locs 0 0 Q (F0 m 135 ls []) := by
    intro n
    induction n with
    | zero =>
      intro x2 x3 H locs ls hP hS hl hf
      rw [f_X6_counted_135] at hf
      cases hf
    | succ n ih =>
      intro x2 x3 H locs ls hP hS hl hf
      rw [f_X6_counted_135] at hf
      refine lv_iload_n hx hb dX6_counted_135 rfl (lv_at hl 2 rfl) ?_
      refine lv_aload_n hx hb dX6_counted_136 rfl (lv_at hl 0 rfl) ?_
      refine r_get hx hb hts hown hC hP hinX6 55 (by decide) (ci := 5) rfl (by decide) rfl 17 (by decide) (hts (.fieldLink RX6 136 "LoafPartsModel" "n" "I") (by decide +kernel)) (v := .int (ui u 55 17)) rfl dX6_counted_137 ?_
      refine lv_icmp_ge (tgt := 167) hx hb dX6_counted_140 (by decide) (fun c_17 => ?_) (fun c_17 => ?_)
      · rw [if_pos c_17] at hf
        refine lv_iload_n hx hb dX6_counted_167 rfl (lv_at hl 1 rfl) ?_
        obtain rfl := sp1 hf
        exact kret _ _ _ _ dX6_counted_168 hP hS trivial
      rw [if_neg c_17] at hf
      refine lv_iload_n hx hb dX6_counted_143 rfl (lv_at hl 1 rfl) ?_
      refine lv_aload_n hx hb dX6_counted_144 rfl (lv_at hl 0 rfl) ?_
      refine lv_iload_n hx hb dX6_counted_145 rfl (lv_at hl 2 rfl) ?_
      obtain ⟨q_18, hq_18, hf⟩ := bind_ex hf
      refine r_Vi (As := [.int x3]) (rest := [.int x2]) (k := 55) (ci := 5) ⟨hx, hb, hml, hown, hts⟩ hC hP hS (by decide) rfl (by decide) rfl (c_X6_lackOf l g u x3 hq_18) (cwV 1 hts gX6_counted_X6_lackOf rfl rfl rfl (by decide +kernel) ⟨(Nat.le_trans (Nat.le_of_ble_eq_true rfl) hRf), (Nat.le_trans (Nat.le_of_ble_eq_true rfl) hRl)⟩) rfl hl.1 rfl (Nat.le_of_ble_eq_true rfl) dX6_counted_146 (fun H locs hP hS => ?_)
      refine lv_if_ne (tgt := 158) hx hb dX6_counted_149 (by decide) (fun c_19 => ?_) (fun c_19 => ?_)
      · rw [if_neg c_19] at hf
        refine lv_iconst (v := (0 : Int32)) hx hb dX6_counted_158 (by decide) ?_
        exact w_159 (f_X6_counted_135 n) ih x3 (0 : Int32) x2 _ _ _ hP hS (lv_sub hl [0, 2] rfl) hf
      rw [if_pos c_19] at hf
      refine lv_iconst (v := (1 : Int32)) hx hb dX6_counted_152 (by decide) ?_
      refine lv_iload_n hx hb dX6_counted_153 rfl (lv_at hl 2 rfl) ?_
      refine lv_ishl hx hb dX6_counted_154 ?_
      refine lv_goto (tgt := 159) hx hb dX6_counted_155 (by decide) ?_
      exact w_159 (f_X6_counted_135 n) ih x3 ((1 : Int32) <<< (x3 &&& (31 : Int32))) x2 _ _ _ hP hS (lv_sub hl [0, 2] rfl) hf
  have w_197 : ∀ (k_176 : Int32 → Int32 → UU → Option Int32) (K_176 : ∀ (x2 : Int32) (x3 : Int32) (H : Heap) (locs : List Loc) (ls : Array Slot), Ps g 55 20 u H → va_S (aA g) s.heap H locs → lv_has ls 4 [(0, .ref (aD g 55)), (2, .int x2), (3, .int x3)] → k_176 x2 x3 u = some r → W p l e R s m args below meth c H locs 0 0 Q (F0 m 176 ls [])), ∀ (x3 : Int32) (t0 : Int32) (t1 : Int32) (H : Heap) (locs : List Loc) (ls : Array Slot), Ps g 55 20 u H → va_S (aA g) s.heap H locs → lv_has ls 4 [(0, .ref (aD g 55)), (3, .int x3)] → f_X6_counted_197 k_176 x3 t0 t1 u = some r → W p l e R s m args below meth c H locs 0 0 Q (F0 m 197 ls [.int t0, .int t1]) := by
    intro k_176 K_176
    intro x3 t0 t1 H locs ls hP hS hl hf
    unfold f_X6_counted_197 at hf
    refine lv_iadd hx hb dX6_counted_197 ?_
    obtain ⟨x2_28, ex2_28, hf⟩ := lt_ex hf
    refine r_nm ex2_28 ?_
    refine lv_istore_n (lv' := [(2, .int x2_28), (0, .ref (aD g 55)), (3, .int x3)]) hx hb dX6_counted_198 rfl hl (by decide) rfl (fun ls hl => ?_)
    obtain ⟨x3_29, ex3_29, hf⟩ := lt_ex hf
    refine lv_iinc (v := x3_29) (lv' := [(3, .int x3_29), (2, .int x2_28), (0, .ref (aD g 55))]) hx hb dX6_counted_199 hl (k := 2) rfl (by rw [ex3_29]; rfl) (by decide) rfl (fun ls hl => ?_)
    refine lv_goto (tgt := 176) hx hb dX6_counted_202 (by decide) ?_
    exact K_176 x2_28 x3_29 _ _ _ hP hS (lv_sub hl [2, 1, 0] rfl) hf
  have w_176 : ∀ (n : Nat), ∀ (x2 : Int32) (x3 : Int32) (H : Heap) (locs : List Loc) (ls : Array Slot), Ps g 55 20 u H → va_S (aA g) s.heap H locs → lv_has ls 4 [(0, .ref (aD g 55)), (2, .int x2), (3, .int x3)] → f_X6_counted_176 n x2 x3 u = some r → W p l e R s m args below meth c H locs 0 0 Q (F0 m 176 ls []) := by
    intro n
    induction n with
    | zero =>
      intro x2 x3 H locs ls hP hS hl hf
      rw [f_X6_counted_176] at hf
      cases hf
    | succ n ih =>
      intro x2 x3 H locs ls hP hS hl hf
      rw [f_X6_counted_176] at hf
      refine lv_iload_n hx hb dX6_counted_176 rfl (lv_at hl 2 rfl) ?_
      refine lv_bipush (v := (6 : Int32)) hx hb dX6_counted_177 (by decide) ?_
      refine lv_icmp_ge (tgt := 205) hx hb dX6_counted_179 (by decide) (fun c_25 => ?_) (fun c_25 => ?_)
      · rw [if_pos c_25] at hf
        refine lv_iload_n hx hb dX6_counted_205 rfl (lv_at hl 1 rfl) ?_
        obtain rfl := sp1 hf
        exact kret _ _ _ _ dX6_counted_206 hP hS trivial
      rw [if_neg c_25] at hf
      refine lv_iload_n hx hb dX6_counted_182 rfl (lv_at hl 1 rfl) ?_
      refine lv_aload_n hx hb dX6_counted_183 rfl (lv_at hl 0 rfl) ?_
      refine r_get hx hb hts hown hC hP hinX6 55 (by decide) (ci := 5) rfl (by decide) rfl 5 (by decide) (hts (.fieldLink RX6 17 "LoafPartsModel" "sizes" "[I") (by decide +kernel)) (v := .ref (aD g 57)) rfl dX6_counted_184 ?_
      refine lv_iload_n hx hb dX6_counted_187 rfl (lv_at hl 2 rfl) ?_
      obtain ⟨hi_26, hf⟩ := ix_ex hf
      refine r_ald hx hb hC hP 57 (by decide) rfl hi_26 dX6_counted_188 ?_
      refine lv_if_lt (tgt := 196) hx hb dX6_counted_189 (by decide) (fun c_27 => ?_) (fun c_27 => ?_)
      · rw [if_pos c_27] at hf
        refine lv_iconst (v := (0 : Int32)) hx hb dX6_counted_196 (by decide) ?_
        exact w_197 (f_X6_counted_176 n) ih x3 (0 : Int32) x2 _ _ _ hP hS (lv_sub hl [0, 2] rfl) hf
      rw [if_neg c_27] at hf
      refine lv_iconst (v := (1 : Int32)) hx hb dX6_counted_192 (by decide) ?_
      refine lv_goto (tgt := 197) hx hb dX6_counted_193 (by decide) ?_
      exact w_197 (f_X6_counted_176 n) ih x3 (1 : Int32) x2 _ _ _ hP hS (lv_sub hl [0, 2] rfl) hf
  have w_229 : ∀ (k_209 : Int32 → Int32 → UU → Option Int32) (K_209 : ∀ (x2 : Int32) (x3 : Int32) (H : Heap) (locs : List Loc) (ls : Array Slot), Ps g 55 20 u H → va_S (aA g) s.heap H locs → lv_has ls 4 [(0, .ref (aD g 55)), (2, .int x2), (3, .int x3)] → k_209 x2 x3 u = some r → W p l e R s m args below meth c H locs 0 0 Q (F0 m 209 ls [])), ∀ (x3 : Int32) (t0 : Int32) (t1 : Int32) (H : Heap) (locs : List Loc) (ls : Array Slot), Ps g 55 20 u H → va_S (aA g) s.heap H locs → lv_has ls 4 [(0, .ref (aD g 55)), (3, .int x3)] → f_X6_counted_229 k_209 x3 t0 t1 u = some r → W p l e R s m args below meth c H locs 0 0 Q (F0 m 229 ls [.int t0, .int t1]) := by
    intro k_209 K_209
    intro x3 t0 t1 H locs ls hP hS hl hf
    unfold f_X6_counted_229 at hf
    refine lv_iadd hx hb dX6_counted_229 ?_
    obtain ⟨x2_34, ex2_34, hf⟩ := lt_ex hf
    refine r_nm ex2_34 ?_
    refine lv_istore_n (lv' := [(2, .int x2_34), (0, .ref (aD g 55)), (3, .int x3)]) hx hb dX6_counted_230 rfl hl (by decide) rfl (fun ls hl => ?_)
    obtain ⟨x3_35, ex3_35, hf⟩ := lt_ex hf
    refine lv_iinc (v := x3_35) (lv' := [(3, .int x3_35), (2, .int x2_34), (0, .ref (aD g 55))]) hx hb dX6_counted_231 hl (k := 2) rfl (by rw [ex3_35]; rfl) (by decide) rfl (fun ls hl => ?_)
    refine lv_goto (tgt := 209) hx hb dX6_counted_234 (by decide) ?_
    exact K_209 x2_34 x3_35 _ _ _ hP hS (lv_sub hl [2, 1, 0] rfl) hf
  have w_209 : ∀ (n : Nat), ∀ (x2 : Int32) (x3 : Int32) (H : Heap) (locs : List Loc) (ls : Array Slot), Ps g 55 20 u H → va_S (aA g) s.heap H locs → lv_has ls 4 [(0, .ref (aD g 55)), (2, .int x2), (3, .int x3)] → f_X6_counted_209 n x2 x3 u = some r → W p l e R s m args below meth c H locs 0 0 Q (F0 m 209 ls []) := by
    intro n
    induction n with
    | zero =>
      intro x2 x3 H locs ls hP hS hl hf
      rw [f_X6_counted_209] at hf
      cases hf
    | succ n ih =>
      intro x2 x3 H locs ls hP hS hl hf
      rw [f_X6_counted_209] at hf
      refine lv_iload_n hx hb dX6_counted_209 rfl (lv_at hl 2 rfl) ?_
      refine lv_iconst (v := (4 : Int32)) hx hb dX6_counted_210 (by decide) ?_
      refine lv_icmp_ge (tgt := 237) hx hb dX6_counted_211 (by decide) (fun c_31 => ?_) (fun c_31 => ?_)
      · rw [if_pos c_31] at hf
        refine lv_iload_n hx hb dX6_counted_237 rfl (lv_at hl 1 rfl) ?_
        obtain rfl := sp1 hf
        exact kret _ _ _ _ dX6_counted_238 hP hS trivial
      rw [if_neg c_31] at hf
      refine lv_iload_n hx hb dX6_counted_214 rfl (lv_at hl 1 rfl) ?_
      refine lv_aload_n hx hb dX6_counted_215 rfl (lv_at hl 0 rfl) ?_
      refine r_get hx hb hts hown hC hP hinX6 55 (by decide) (ci := 5) rfl (by decide) rfl 8 (by decide) (hts (.fieldLink RX6 26 "LoafPartsModel" "textSizes" "[I") (by decide +kernel)) (v := .ref (aD g 60)) rfl dX6_counted_216 ?_
      refine lv_iload_n hx hb dX6_counted_219 rfl (lv_at hl 2 rfl) ?_
      obtain ⟨hi_32, hf⟩ := ix_ex hf
      refine r_ald hx hb hC hP 60 (by decide) rfl hi_32 dX6_counted_220 ?_
      refine lv_if_lt (tgt := 228) hx hb dX6_counted_221 (by decide) (fun c_33 => ?_) (fun c_33 => ?_)
      · rw [if_pos c_33] at hf
        refine lv_iconst (v := (0 : Int32)) hx hb dX6_counted_228 (by decide) ?_
        exact w_229 (f_X6_counted_209 n) ih x3 (0 : Int32) x2 _ _ _ hP hS (lv_sub hl [0, 2] rfl) hf
      rw [if_neg c_33] at hf
      refine lv_iconst (v := (1 : Int32)) hx hb dX6_counted_224 (by decide) ?_
      refine lv_goto (tgt := 229) hx hb dX6_counted_225 (by decide) ?_
      exact w_229 (f_X6_counted_209 n) ih x3 (1 : Int32) x2 _ _ _ hP hS (lv_sub hl [0, 2] rfl) hf
  have w_261 : ∀ (k_241 : Int32 → Int32 → UU → Option Int32) (K_241 : ∀ (x2 : Int32) (x3 : Int32) (H : Heap) (locs : List Loc) (ls : Array Slot), Ps g 55 20 u H → va_S (aA g) s.heap H locs → lv_has ls 4 [(0, .ref (aD g 55)), (2, .int x2), (3, .int x3)] → k_241 x2 x3 u = some r → W p l e R s m args below meth c H locs 0 0 Q (F0 m 241 ls [])), ∀ (x3 : Int32) (t0 : Int32) (t1 : Int32) (H : Heap) (locs : List Loc) (ls : Array Slot), Ps g 55 20 u H → va_S (aA g) s.heap H locs → lv_has ls 4 [(0, .ref (aD g 55)), (3, .int x3)] → f_X6_counted_261 k_241 x3 t0 t1 u = some r → W p l e R s m args below meth c H locs 0 0 Q (F0 m 261 ls [.int t0, .int t1]) := by
    intro k_241 K_241
    intro x3 t0 t1 H locs ls hP hS hl hf
    unfold f_X6_counted_261 at hf
    refine lv_iadd hx hb dX6_counted_261 ?_
    obtain ⟨x2_40, ex2_40, hf⟩ := lt_ex hf
    refine r_nm ex2_40 ?_
    refine lv_istore_n (lv' := [(2, .int x2_40), (0, .ref (aD g 55)), (3, .int x3)]) hx hb dX6_counted_262 rfl hl (by decide) rfl (fun ls hl => ?_)
    obtain ⟨x3_41, ex3_41, hf⟩ := lt_ex hf
    refine lv_iinc (v := x3_41) (lv' := [(3, .int x3_41), (2, .int x2_40), (0, .ref (aD g 55))]) hx hb dX6_counted_263 hl (k := 2) rfl (by rw [ex3_41]; rfl) (by decide) rfl (fun ls hl => ?_)
    refine lv_goto (tgt := 241) hx hb dX6_counted_266 (by decide) ?_
    exact K_241 x2_40 x3_41 _ _ _ hP hS (lv_sub hl [2, 1, 0] rfl) hf
  have w_241 : ∀ (n : Nat), ∀ (x2 : Int32) (x3 : Int32) (H : Heap) (locs : List Loc) (ls : Array Slot), Ps g 55 20 u H → va_S (aA g) s.heap H locs → lv_has ls 4 [(0, .ref (aD g 55)), (2, .int x2), (3, .int x3)] → f_X6_counted_241 n x2 x3 u = some r → W p l e R s m args below meth c H locs 0 0 Q (F0 m 241 ls []) := by
    intro n
    induction n with
    | zero =>
      intro x2 x3 H locs ls hP hS hl hf
      rw [f_X6_counted_241] at hf
      cases hf
    | succ n ih =>
      intro x2 x3 H locs ls hP hS hl hf
      rw [f_X6_counted_241] at hf
      refine lv_iload_n hx hb dX6_counted_241 rfl (lv_at hl 2 rfl) ?_
      refine lv_iconst (v := (3 : Int32)) hx hb dX6_counted_242 (by decide) ?_
      refine lv_icmp_ge (tgt := 269) hx hb dX6_counted_243 (by decide) (fun c_37 => ?_) (fun c_37 => ?_)
      · rw [if_pos c_37] at hf
        refine lv_iload_n hx hb dX6_counted_269 rfl (lv_at hl 1 rfl) ?_
        obtain rfl := sp1 hf
        exact kret _ _ _ _ dX6_counted_270 hP hS trivial
      rw [if_neg c_37] at hf
      refine lv_iload_n hx hb dX6_counted_246 rfl (lv_at hl 1 rfl) ?_
      refine lv_aload_n hx hb dX6_counted_247 rfl (lv_at hl 0 rfl) ?_
      refine r_get hx hb hts hown hC hP hinX6 55 (by decide) (ci := 5) rfl (by decide) rfl 24 (by decide) (hts (.fieldLink RX6 57 "LoafPartsModel" "keptMany" "[I") (by decide +kernel)) (v := .ref (aD g 70)) rfl dX6_counted_248 ?_
      refine lv_iload_n hx hb dX6_counted_251 rfl (lv_at hl 2 rfl) ?_
      obtain ⟨hi_38, hf⟩ := ix_ex hf
      refine r_ald hx hb hC hP 70 (by decide) rfl hi_38 dX6_counted_252 ?_
      refine lv_if_lt (tgt := 260) hx hb dX6_counted_253 (by decide) (fun c_39 => ?_) (fun c_39 => ?_)
      · rw [if_pos c_39] at hf
        refine lv_iconst (v := (0 : Int32)) hx hb dX6_counted_260 (by decide) ?_
        exact w_261 (f_X6_counted_241 n) ih x3 (0 : Int32) x2 _ _ _ hP hS (lv_sub hl [0, 2] rfl) hf
      rw [if_neg c_39] at hf
      refine lv_iconst (v := (1 : Int32)) hx hb dX6_counted_256 (by decide) ?_
      refine lv_goto (tgt := 261) hx hb dX6_counted_257 (by decide) ?_
      exact w_261 (f_X6_counted_241 n) ih x3 (1 : Int32) x2 _ _ _ hP hS (lv_sub hl [0, 2] rfl) hf
  have w_310 : ∀ (k_273 : Int32 → Int32 → Int32 → UU → Option Int32) (K_273 : ∀ (x1 : Int32) (x2 : Int32) (x3 : Int32) (H : Heap) (locs : List Loc) (ls : Array Slot), Ps g 55 20 u H → va_S (aA g) s.heap H locs → lv_has ls 4 [(0, .ref (aD g 55)), (1, .int x1), (2, .int x2), (3, .int x3)] → k_273 x1 x2 x3 u = some r → W p l e R s m args below meth c H locs 0 0 Q (F0 m 273 ls [])), ∀ (x1 : Int32) (x3 : Int32) (t0 : Int32) (t1 : Int32) (H : Heap) (locs : List Loc) (ls : Array Slot), Ps g 55 20 u H → va_S (aA g) s.heap H locs → lv_has ls 4 [(0, .ref (aD g 55)), (1, .int x1), (3, .int x3)] → f_X6_counted_310 k_273 x1 x3 t0 t1 u = some r → W p l e R s m args below meth c H locs 0 0 Q (F0 m 310 ls [.int t0, .int t1]) := by
    intro k_273 K_273
    intro x1 x3 t0 t1 H locs ls hP hS hl hf
    unfold f_X6_counted_310 at hf
    refine lv_iadd hx hb dX6_counted_310 ?_
    obtain ⟨x2_46, ex2_46, hf⟩ := lt_ex hf
    refine r_nm ex2_46 ?_
    refine lv_istore_n (lv' := [(2, .int x2_46), (0, .ref (aD g 55)), (1, .int x1), (3, .int x3)]) hx hb dX6_counted_311 rfl hl (by decide) rfl (fun ls hl => ?_)
    obtain ⟨x3_47, ex3_47, hf⟩ := lt_ex hf
    refine lv_iinc (v := x3_47) (lv' := [(3, .int x3_47), (2, .int x2_46), (0, .ref (aD g 55)), (1, .int x1)]) hx hb dX6_counted_312 hl (k := 3) rfl (by rw [ex3_47]; rfl) (by decide) rfl (fun ls hl => ?_)
    refine lv_goto (tgt := 273) hx hb dX6_counted_315 (by decide) ?_
    exact K_273 x1 x2_46 x3_47 _ _ _ hP hS (lv_sub hl [2, 3, 1, 0] rfl) hf
  have w_299 : ∀ (k_273 : Int32 → Int32 → Int32 → UU → Option Int32) (K_273 : ∀ (x1 : Int32) (x2 : Int32) (x3 : Int32) (H : Heap) (locs : List Loc) (ls : Array Slot), Ps g 55 20 u H → va_S (aA g) s.heap H locs → lv_has ls 4 [(0, .ref (aD g 55)), (1, .int x1), (2, .int x2), (3, .int x3)] → k_273 x1 x2 x3 u = some r → W p l e R s m args below meth c H locs 0 0 Q (F0 m 273 ls [])), ∀ (x1 : Int32) (x3 : Int32) (t0 : Int32) (t1 : Int32) (t2 : Int32) (H : Heap) (locs : List Loc) (ls : Array Slot), Ps g 55 20 u H → va_S (aA g) s.heap H locs → lv_has ls 4 [(0, .ref (aD g 55)), (1, .int x1), (3, .int x3)] → f_X6_counted_299 k_273 x1 x3 t0 t1 t2 u = some r → W p l e R s m args below meth c H locs 0 0 Q (F0 m 299 ls [.int t0, .int t1, .int t2]) := by
    intro k_273 K_273
    intro x1 x3 t0 t1 t2 H locs ls hP hS hl hf
    unfold f_X6_counted_299 at hf
    refine r_Si (As := [.int t1, .int t0]) (rest := [.int t2]) ⟨hx, hb, hml, hown, hts⟩ hC hP hS (c_X6_isOf l g u t1 t0 rfl) (va_cwS 2 hts gX6_counted_X6_isOf rfl rfl rfl (by decide +kernel) ⟨(Nat.le_trans (Nat.le_of_ble_eq_true rfl) hRf), (Nat.le_trans (Nat.le_of_ble_eq_true rfl) hRl)⟩) rfl hl.1 rfl (Nat.le_of_ble_eq_true rfl) dX6_counted_299 (fun H locs hP hS => ?_)
    refine lv_if_eq (tgt := 309) hx hb dX6_counted_302 (by decide) (fun c_45 => ?_) (fun c_45 => ?_)
    · rw [if_pos c_45] at hf
      refine lv_iconst (v := (0 : Int32)) hx hb dX6_counted_309 (by decide) ?_
      exact w_310 (k_273) K_273 x1 x3 (0 : Int32) t2 _ _ _ hP hS (lv_sub hl [0, 1, 2] rfl) hf
    rw [if_neg c_45] at hf
    refine lv_iconst (v := (1 : Int32)) hx hb dX6_counted_305 (by decide) ?_
    refine lv_goto (tgt := 310) hx hb dX6_counted_306 (by decide) ?_
    exact w_310 (k_273) K_273 x1 x3 (1 : Int32) t2 _ _ _ hP hS (lv_sub hl [0, 1, 2] rfl) hf
  have w_273 : ∀ (n : Nat), ∀ (x1 : Int32) (x2 : Int32) (x3 : Int32) (H : Heap) (locs : List Loc) (ls : Array Slot), Ps g 55 20 u H → va_S (aA g) s.heap H locs → lv_has ls 4 [(0, .ref (aD g 55)), (1, .int x1), (2, .int x2), (3, .int x3)] → f_X6_counted_273 n x1 x2 x3 u = some r → W p l e R s m args below meth c H locs 0 0 Q (F0 m 273 ls []) := by
    intro n
    induction n with
    | zero =>
      intro x1 x2 x3 H locs ls hP hS hl hf
      rw [f_X6_counted_273] at hf
      cases hf
    | succ n ih =>
      intro x1 x2 x3 H locs ls hP hS hl hf
      rw [f_X6_counted_273] at hf
      refine lv_iload_n hx hb dX6_counted_273 rfl (lv_at hl 3 rfl) ?_
      refine lv_aload_n hx hb dX6_counted_274 rfl (lv_at hl 0 rfl) ?_
      refine r_get hx hb hts hown hC hP hinX6 55 (by decide) (ci := 5) rfl (by decide) rfl 17 (by decide) (hts (.fieldLink RX6 136 "LoafPartsModel" "n" "I") (by decide +kernel)) (v := .int (ui u 55 17)) rfl dX6_counted_275 ?_
      refine lv_icmp_ge (tgt := 318) hx hb dX6_counted_278 (by decide) (fun c_42 => ?_) (fun c_42 => ?_)
      · rw [if_pos c_42] at hf
        refine lv_iload_n hx hb dX6_counted_318 rfl (lv_at hl 2 rfl) ?_
        obtain rfl := sp1 hf
        exact kret _ _ _ _ dX6_counted_319 hP hS trivial
      rw [if_neg c_42] at hf
      refine lv_iload_n hx hb dX6_counted_281 rfl (lv_at hl 2 rfl) ?_
      refine lv_aload_n hx hb dX6_counted_282 rfl (lv_at hl 0 rfl) ?_
      refine r_get hx hb hts hown hC hP hinX6 55 (by decide) (ci := 5) rfl (by decide) rfl 18 (by decide) (hts (.fieldLink RX6 42 "LoafPartsModel" "kind" "[I") (by decide +kernel)) (v := .ref (aD g 65)) rfl dX6_counted_283 ?_
      refine lv_iload_n hx hb dX6_counted_286 rfl (lv_at hl 3 rfl) ?_
      obtain ⟨hi_43, hf⟩ := ix_ex hf
      refine r_ald hx hb hC hP 65 (by decide) rfl hi_43 dX6_counted_287 ?_
      refine lv_iload_n hx hb dX6_counted_288 rfl (lv_at hl 1 rfl) ?_
      refine lv_bipush (v := (10 : Int32)) hx hb dX6_counted_289 (by decide) ?_
      refine lv_icmp_ne (tgt := 298) hx hb dX6_counted_291 (by decide) (fun c_44 => ?_) (fun c_44 => ?_)
      · rw [if_neg c_44] at hf
        refine lv_iconst (v := (3 : Int32)) hx hb dX6_counted_298 (by decide) ?_
        exact w_299 (f_X6_counted_273 n) ih x1 x3 (3 : Int32) (ui u 65 (x3 : Int32).toNatClampNeg) x2 _ _ _ hP hS (lv_sub hl [0, 1, 3] rfl) hf
      rw [if_pos c_44] at hf
      refine lv_iconst (v := (1 : Int32)) hx hb dX6_counted_294 (by decide) ?_
      refine lv_goto (tgt := 299) hx hb dX6_counted_295 (by decide) ?_
      exact w_299 (f_X6_counted_273 n) ih x1 x3 (1 : Int32) (ui u 65 (x3 : Int32).toNatClampNeg) x2 _ _ _ hP hS (lv_sub hl [0, 1, 3] rfl) hf
  unfold f_X6_counted at hf
  refine lv_iconst (v := (0 : Int32)) hx hb dX6_counted_0 (by decide) ?_
  refine lv_istore_n (lv' := [(2, .int (0 : Int32)), (0, .ref (aD g 55)), (1, .int x1)]) hx hb dX6_counted_1 rfl hl (by decide) rfl (fun ls hl => ?_)
  refine lv_iload_n hx hb dX6_counted_2 rfl (lv_at hl 2 rfl) ?_
  by_cases s_1 : x1 = (0 : Int32)
  · rw [if_pos s_1] at hf
    refine r_tin (tgt := 56) hx hb (0 : Int32) 53 s_1 dX6_counted_3 (by decide) ?_
    refine lv_aload_n hx hb dX6_counted_56 rfl (lv_at hl 1 rfl) ?_
    refine r_get hx hb hts hown hC hP hinX6 55 (by decide) (ci := 5) rfl (by decide) rfl 17 (by decide) (hts (.fieldLink RX6 136 "LoafPartsModel" "n" "I") (by decide +kernel)) (v := .int (ui u 55 17)) rfl dX6_counted_57 ?_
    obtain rfl := sp1 hf
    exact kret _ _ _ _ dX6_counted_60 hP hS trivial
  rw [if_neg s_1] at hf
  by_cases s_2 : x1 = (1 : Int32)
  · rw [if_pos s_2] at hf
    refine r_tin (tgt := 61) hx hb (1 : Int32) 58 s_2 dX6_counted_3 (by decide) ?_
    refine lv_aload_n hx hb dX6_counted_61 rfl (lv_at hl 1 rfl) ?_
    refine r_get hx hb hts hown hC hP hinX6 55 (by decide) (ci := 5) rfl (by decide) rfl 21 (by decide) (hts (.fieldLink RX6 51 "LoafPartsModel" "now" "[I") (by decide +kernel)) (v := .ref (aD g 68)) rfl dX6_counted_62 ?_
    refine lv_iconst (v := (0 : Int32)) hx hb dX6_counted_65 (by decide) ?_
    obtain ⟨hi_3, hf⟩ := ix_ex hf
    refine r_ald hx hb hC hP 68 (by decide) rfl hi_3 dX6_counted_66 ?_
    obtain rfl := sp1 hf
    exact kret _ _ _ _ dX6_counted_67 hP hS trivial
  rw [if_neg s_2] at hf
  by_cases s_4 : x1 = (2 : Int32)
  · rw [if_pos s_4] at hf
    refine r_tin (tgt := 68) hx hb (2 : Int32) 65 s_4 dX6_counted_3 (by decide) ?_
    refine lv_aload_n hx hb dX6_counted_68 rfl (lv_at hl 1 rfl) ?_
    refine r_get hx hb hts hown hC hP hinX6 55 (by decide) (ci := 5) rfl (by decide) rfl 22 (by decide) (hts (.fieldLink RX6 139 "LoafPartsModel" "deedMany" "I") (by decide +kernel)) (v := .int (ui u 55 22)) rfl dX6_counted_69 ?_
    obtain rfl := sp1 hf
    exact kret _ _ _ _ dX6_counted_72 hP hS trivial
  rw [if_neg s_4] at hf
  by_cases s_5 : x1 = (3 : Int32)
  · rw [if_pos s_5] at hf
    refine r_tin (tgt := 73) hx hb (3 : Int32) 70 s_5 dX6_counted_3 (by decide) ?_
    refine lv_iconst (v := (2 : Int32)) hx hb dX6_counted_73 (by decide) ?_
    refine lv_istore_n (lv' := [(3, .int (2 : Int32)), (2, .int (0 : Int32)), (0, .ref (aD g 55)), (1, .int x1)]) hx hb dX6_counted_74 rfl hl (by decide) rfl (fun ls hl => ?_)
    exact w_75 fu (0 : Int32) (2 : Int32) _ _ _ hP hS (lv_sub hl [2, 1, 0] rfl) hf
  rw [if_neg s_5] at hf
  by_cases s_10 : x1 = (4 : Int32)
  · rw [if_pos s_10] at hf
    refine r_tin (tgt := 100) hx hb (4 : Int32) 97 s_10 dX6_counted_3 (by decide) ?_
    refine lv_iconst (v := (0 : Int32)) hx hb dX6_counted_100 (by decide) ?_
    refine lv_istore_n (lv' := [(3, .int (0 : Int32)), (2, .int (0 : Int32)), (0, .ref (aD g 55)), (1, .int x1)]) hx hb dX6_counted_101 rfl hl (by decide) rfl (fun ls hl => ?_)
    exact w_102 fu (0 : Int32) (0 : Int32) _ _ _ hP hS (lv_sub hl [2, 1, 0] rfl) hf
  rw [if_neg s_10] at hf
  by_cases s_16 : x1 = (5 : Int32)
  · rw [if_pos s_16] at hf
    refine r_tin (tgt := 133) hx hb (5 : Int32) 130 s_16 dX6_counted_3 (by decide) ?_
    refine lv_iconst (v := (0 : Int32)) hx hb dX6_counted_133 (by decide) ?_
    refine lv_istore_n (lv' := [(3, .int (0 : Int32)), (2, .int (0 : Int32)), (0, .ref (aD g 55)), (1, .int x1)]) hx hb dX6_counted_134 rfl hl (by decide) rfl (fun ls hl => ?_)
    exact w_135 fu (0 : Int32) (0 : Int32) _ _ _ hP hS (lv_sub hl [2, 1, 0] rfl) hf
  rw [if_neg s_16] at hf
  by_cases s_22 : x1 = (6 : Int32)
  · rw [if_pos s_22] at hf
    refine r_tin (tgt := 169) hx hb (6 : Int32) 166 s_22 dX6_counted_3 (by decide) ?_
    refine lv_aload_n hx hb dX6_counted_169 rfl (lv_at hl 1 rfl) ?_
    obtain ⟨q_23, hq_23, hf⟩ := bind_ex hf
    refine r_Vi (As := []) (rest := []) (k := 55) (ci := 5) ⟨hx, hb, hml, hown, hts⟩ hC hP hS (by decide) rfl (by decide) rfl (c_X6_lying l g u hq_23) (cwV 0 hts gX6_counted_X6_lying rfl rfl rfl (by decide +kernel) ⟨(Nat.le_trans (Nat.le_of_ble_eq_true rfl) hRf), (Nat.le_trans (Nat.le_of_ble_eq_true rfl) hRl)⟩) rfl hl.1 rfl (Nat.le_of_ble_eq_true rfl) dX6_counted_170 (fun H locs hP hS => ?_)
    obtain rfl := sp1 hf
    exact kret _ _ _ _ dX6_counted_173 hP hS trivial
  rw [if_neg s_22] at hf
  by_cases s_24 : x1 = (7 : Int32)
  · rw [if_pos s_24] at hf
    refine r_tin (tgt := 174) hx hb (7 : Int32) 171 s_24 dX6_counted_3 (by decide) ?_
    refine lv_iconst (v := (0 : Int32)) hx hb dX6_counted_174 (by decide) ?_
    refine lv_istore_n (lv' := [(3, .int (0 : Int32)), (2, .int (0 : Int32)), (0, .ref (aD g 55)), (1, .int x1)]) hx hb dX6_counted_175 rfl hl (by decide) rfl (fun ls hl => ?_)
    exact w_176 fu (0 : Int32) (0 : Int32) _ _ _ hP hS (lv_sub hl [2, 1, 0] rfl) hf
  rw [if_neg s_24] at hf
  by_cases s_30 : x1 = (8 : Int32)
  · rw [if_pos s_30] at hf
    refine r_tin (tgt := 207) hx hb (8 : Int32) 204 s_30 dX6_counted_3 (by decide) ?_
    refine lv_iconst (v := (0 : Int32)) hx hb dX6_counted_207 (by decide) ?_
    refine lv_istore_n (lv' := [(3, .int (0 : Int32)), (2, .int (0 : Int32)), (0, .ref (aD g 55)), (1, .int x1)]) hx hb dX6_counted_208 rfl hl (by decide) rfl (fun ls hl => ?_)
    exact w_209 fu (0 : Int32) (0 : Int32) _ _ _ hP hS (lv_sub hl [2, 1, 0] rfl) hf
  rw [if_neg s_30] at hf
  by_cases s_36 : x1 = (9 : Int32)
  · rw [if_pos s_36] at hf
    refine r_tin (tgt := 239) hx hb (9 : Int32) 236 s_36 dX6_counted_3 (by decide) ?_
    refine lv_iconst (v := (0 : Int32)) hx hb dX6_counted_239 (by decide) ?_
    refine lv_istore_n (lv' := [(3, .int (0 : Int32)), (2, .int (0 : Int32)), (0, .ref (aD g 55)), (1, .int x1)]) hx hb dX6_counted_240 rfl hl (by decide) rfl (fun ls hl => ?_)
    exact w_241 fu (0 : Int32) (0 : Int32) _ _ _ hP hS (lv_sub hl [2, 1, 0] rfl) hf
  rw [if_neg s_36] at hf
  refine lv_tableOut (tgt := 271) hx hb dX6_counted_3 (tsw_out 0 9 10 [(0 : Int32), (1 : Int32), (2 : Int32), (3 : Int32), (4 : Int32), (5 : Int32), (6 : Int32), (7 : Int32), (8 : Int32), (9 : Int32)] (by decide) (by decide) (by decide) (List.forall_mem_cons.mpr ⟨s_1, (List.forall_mem_cons.mpr ⟨s_2, (List.forall_mem_cons.mpr ⟨s_4, (List.forall_mem_cons.mpr ⟨s_5, (List.forall_mem_cons.mpr ⟨s_10, (List.forall_mem_cons.mpr ⟨s_16, (List.forall_mem_cons.mpr ⟨s_22, (List.forall_mem_cons.mpr ⟨s_24, (List.forall_mem_cons.mpr ⟨s_30, (List.forall_mem_cons.mpr ⟨s_36, (fun _ h => absurd h List.not_mem_nil)⟩)⟩)⟩)⟩)⟩)⟩)⟩)⟩)⟩)⟩)) (by decide) ?_
  refine lv_iconst (v := (0 : Int32)) hx hb dX6_counted_271 (by decide) ?_
  refine lv_istore_n (lv' := [(3, .int (0 : Int32)), (2, .int (0 : Int32)), (0, .ref (aD g 55)), (1, .int x1)]) hx hb dX6_counted_272 rfl hl (by decide) rfl (fun ls hl => ?_)
  exact w_273 fu x1 (0 : Int32) (0 : Int32) _ _ _ hP hS (lv_sub hl [2, 3, 1, 0] rfl) hf
set_option maxHeartbeats 4000000 in
set_option maxRecDepth 100000 in
theorem c_X6_lots (l : Launch) (g : GG) (u : UU) (x1 : Int32) (x2 : Int32) {r : Int32} {u' : UU} (hf : f_X6_lots x1 x2 u = some (r, u')) : Ci l g 55 20 yX6_lots wsX6_lots 5 109 [.ref (aD g 55), .int x1, .int x2] u r u' := by
  refine ct_i (cc := cX6_lots) (maxL := 8) (by decide) rfl (Nat.le_of_ble_eq_true rfl) ?_
  intro p e s m args below meth c R Q ls hx hb hml hown hts hC hP hl hRf hRl kret hS
  have hown : s.vm.findClass RX6 = some m.cls := hown
  have hl : lv_has ls 8 [(0, .ref (aD g 55)), (1, .int x1), (2, .int x2)] := hl
  have hinX6 : ∀ w ∈ u_ws RX6 TX6 34, w ∈ wsX6_lots := by decide +kernel
  have w_191 : ∀ (k_52 : Int32 → Int64 → Int32 → UU → Option (Int32 × UU)) (K_52 : ∀ (x1 : Int32) (x3 : Int64) (x5 : Int32) (u : UU) (H : Heap) (locs : List Loc) (ls : Array Slot), Ps g 55 20 u H → va_S (aA g) s.heap H locs → lv_has ls 8 [(0, .ref (aD g 55)), (1, .int x1), (3, .long x3), (5, .int x5)] → k_52 x1 x3 x5 u = some (r, u') → W p l e R s m args below meth c H locs 0 0 Q (F0 m 52 ls [])), ∀ (x1 : Int32) (x3 : Int64) (x5 : Int32) (u : UU) (H : Heap) (locs : List Loc) (ls : Array Slot), Ps g 55 20 u H → va_S (aA g) s.heap H locs → lv_has ls 8 [(0, .ref (aD g 55)), (1, .int x1), (3, .long x3), (5, .int x5)] → f_X6_lots_191 k_52 x1 x3 x5 u = some (r, u') → W p l e R s m args below meth c H locs 0 0 Q (F0 m 191 ls []) := by
    intro k_52 K_52
    intro x1 x3 x5 u H locs ls hP hS hl hf
    unfold f_X6_lots_191 at hf
    obtain ⟨x5_17, ex5_17, hf⟩ := lt_ex hf
    refine lv_iinc (v := x5_17) (lv' := [(5, .int x5_17), (0, .ref (aD g 55)), (1, .int x1), (3, .long x3)]) hx hb dX6_lots_191 hl (k := 3) rfl (by rw [ex5_17]; rfl) (by decide) rfl (fun ls hl => ?_)
    refine lv_goto (tgt := 52) hx hb dX6_lots_194 (by decide) ?_
    exact K_52 x1 x3 x5_17 u _ _ _ hP hS (lv_sub hl [1, 2, 3, 0] rfl) hf
  have w_52 : ∀ (n : Nat), ∀ (x1 : Int32) (x3 : Int64) (x5 : Int32) (u : UU) (H : Heap) (locs : List Loc) (ls : Array Slot), Ps g 55 20 u H → va_S (aA g) s.heap H locs → lv_has ls 8 [(0, .ref (aD g 55)), (1, .int x1), (3, .long x3), (5, .int x5)] → f_X6_lots_52 n x1 x3 x5 u = some (r, u') → W p l e R s m args below meth c H locs 0 0 Q (F0 m 52 ls []) := by
    intro n
    induction n with
    | zero =>
      intro x1 x3 x5 u H locs ls hP hS hl hf
      rw [f_X6_lots_52] at hf
      cases hf
    | succ n ih =>
      intro x1 x3 x5 u H locs ls hP hS hl hf
      rw [f_X6_lots_52] at hf
      refine lv_iload hx hb dX6_lots_52 (lv_at hl 3 rfl) ?_
      refine lv_iload_n hx hb dX6_lots_54 rfl (lv_at hl 1 rfl) ?_
      refine lv_icmp_ge (tgt := 197) hx hb dX6_lots_55 (by decide) (fun c_6 => ?_) (fun c_6 => ?_)
      · rw [if_pos c_6] at hf
        refine lv_aload_n hx hb dX6_lots_197 rfl (lv_at hl 0 rfl) ?_
        refine lv_iconst (v := (3 : Int32)) hx hb dX6_lots_198 (by decide) ?_
        obtain ⟨q_7, hq_7, hf⟩ := bind_ex hf
        refine r_Vi (As := [.int (3 : Int32)]) (rest := []) (k := 55) (ci := 5) ⟨hx, hb, hml, hown, hts⟩ hC hP hS (by decide) rfl (by decide) rfl (c_X6_counted l g u (3 : Int32) hq_7) (cwV 1 hts gX6_lots_X6_counted rfl rfl rfl (by decide +kernel) ⟨(Nat.le_trans (Nat.le_of_ble_eq_true rfl) hRf), (Nat.le_trans (Nat.le_of_ble_eq_true rfl) hRl)⟩) rfl hl.1 rfl (Nat.le_of_ble_eq_true rfl) dX6_lots_199 (fun H locs hP hS => ?_)
        obtain ⟨rfl, rfl⟩ := sp2 hf
        exact kret _ _ _ _ dX6_lots_202 hP hS trivial
      rw [if_neg c_6] at hf
      refine lv_ldc2 (v := (48271 : Int64)) hx hb hown (hts (.constantLong RX6 251 (48271)) (by decide +kernel)) dX6_lots_58 ?_
      refine lv_lload_n hx hb dX6_lots_61 rfl (lv_at hl 2 rfl) ?_
      refine lv_lmul hx hb dX6_lots_62 ?_
      refine lv_ldc2 (v := (2147483647 : Int64)) hx hb hown (hts (.constantLong RX6 253 (2147483647)) (by decide +kernel)) dX6_lots_63 ?_
      refine lv_lrem hx hb dX6_lots_66 (by decide) ?_
      obtain ⟨x3_8, ex3_8, hf⟩ := lt_ex hf
      refine r_nml ex3_8 ?_
      refine lv_lstore_n (lv' := [(3, .long x3_8), (0, .ref (aD g 55)), (1, .int x1), (5, .int x5)]) hx hb dX6_lots_67 rfl hl (by decide) rfl (fun ls hl => ?_)
      refine lv_lload_n hx hb dX6_lots_68 rfl (lv_at hl 0 rfl) ?_
      refine lv_ldc2 (v := (8 : Int64)) hx hb hown (hts (.constantLong RX6 255 (8)) (by decide +kernel)) dX6_lots_69 ?_
      refine lv_ldiv hx hb dX6_lots_72 (by decide) ?_
      refine lv_ldc2 (v := (15 : Int64)) hx hb hown (hts (.constantLong RX6 257 (15)) (by decide +kernel)) dX6_lots_73 ?_
      refine lv_lrem hx hb dX6_lots_76 (by decide) ?_
      refine lv_l2i hx hb dX6_lots_77 rfl ?_
      refine lv_iconst (v := (2 : Int32)) hx hb dX6_lots_78 (by decide) ?_
      refine lv_iadd hx hb dX6_lots_79 ?_
      obtain ⟨x6_9, ex6_9, hf⟩ := lt_ex hf
      refine r_nm ex6_9 ?_
      refine lv_istore (lv' := [(6, .int x6_9), (3, .long x3_8), (0, .ref (aD g 55)), (1, .int x1), (5, .int x5)]) hx hb dX6_lots_80 hl (by decide) rfl (fun ls hl => ?_)
      refine lv_lload_n hx hb dX6_lots_82 rfl (lv_at hl 1 rfl) ?_
      refine lv_ldc2 (v := (128 : Int64)) hx hb hown (hts (.constantLong RX6 259 (128)) (by decide +kernel)) dX6_lots_83 ?_
      refine lv_ldiv hx hb dX6_lots_86 (by decide) ?_
      refine lv_aload_n hx hb dX6_lots_87 rfl (lv_at hl 2 rfl) ?_
      refine r_get hx hb hts hown hC hP hinX6 55 (by decide) (ci := 5) rfl (by decide) rfl 17 (by decide) (hts (.fieldLink RX6 136 "LoafPartsModel" "n" "I") (by decide +kernel)) (v := .int (ui u 55 17)) rfl dX6_lots_88 ?_
      refine lv_i2l hx hb dX6_lots_91 rfl ?_
      obtain ⟨hz_10, hf⟩ := nzl_ex hf
      refine lv_lrem hx hb dX6_lots_92 hz_10 ?_
      refine lv_l2i hx hb dX6_lots_93 rfl ?_
      obtain ⟨x7_11, ex7_11, hf⟩ := lt_ex hf
      refine r_nm ex7_11 ?_
      refine lv_istore (lv' := [(7, .int x7_11), (6, .int x6_9), (3, .long x3_8), (0, .ref (aD g 55)), (1, .int x1), (5, .int x5)]) hx hb dX6_lots_94 hl (by decide) rfl (fun ls hl => ?_)
      refine lv_aload_n hx hb dX6_lots_96 rfl (lv_at hl 3 rfl) ?_
      obtain ⟨q_12, hq_12, hf⟩ := bind_ex hf
      refine r_Vv (As := []) (rest := []) (k := 55) (ci := 5) ⟨hx, hb, hml, hown, hts⟩ hC hP hS (by decide) rfl (by decide) rfl (c_X6_remember l g u hq_12) (cwV 0 hts gX6_lots_X6_remember rfl rfl rfl (by decide +kernel) ⟨(Nat.le_trans (Nat.le_of_ble_eq_true rfl) hRf), (Nat.le_trans (Nat.le_of_ble_eq_true rfl) hRl)⟩) rfl hl.1 rfl (Nat.le_of_ble_eq_true rfl) dX6_lots_97 (fun H locs hP hS => ?_)
      refine lv_lload_n hx hb dX6_lots_100 rfl (lv_at hl 2 rfl) ?_
      refine lv_ldc2 (v := (4 : Int64)) hx hb hown (hts (.constantLong RX6 261 (4)) (by decide +kernel)) dX6_lots_101 ?_
      refine lv_lrem hx hb dX6_lots_104 (by decide) ?_
      refine lv_lconst (v := (0 : Int64)) hx hb dX6_lots_105 (by decide) ?_
      refine W.lcmp hx hb dX6_lots_106 ?_
      refine lv_if_ne (tgt := 128) hx hb dX6_lots_107 (by decide) (fun c_13 => ?_) (fun c_13 => ?_)
      · rw [if_neg c_13] at hf
        refine lv_lload_n hx hb dX6_lots_128 rfl (lv_at hl 2 rfl) ?_
        refine lv_ldc2 (v := (4 : Int64)) hx hb hown (hts (.constantLong RX6 261 (4)) (by decide +kernel)) dX6_lots_129 ?_
        refine lv_lrem hx hb dX6_lots_132 (by decide) ?_
        refine lv_ldc2 (v := (3 : Int64)) hx hb hown (hts (.constantLong RX6 263 (3)) (by decide +kernel)) dX6_lots_133 ?_
        refine W.lcmp hx hb dX6_lots_136 ?_
        refine lv_if_ne (tgt := 169) hx hb dX6_lots_137 (by decide) (fun c_14 => ?_) (fun c_14 => ?_)
        · rw [if_neg c_14] at hf
          refine lv_aload_n hx hb dX6_lots_169 rfl (lv_at hl 3 rfl) ?_
          refine lv_iload hx hb dX6_lots_170 (lv_at hl 0 rfl) ?_
          obtain ⟨q_15, hq_15, hf⟩ := bind_ex hf
          refine r_Vi (As := [.int x7_11]) (rest := []) (k := 55) (ci := 5) ⟨hx, hb, hml, hown, hts⟩ hC hP hS (by decide) rfl (by decide) rfl (c_X6_fits l g q_12 x7_11 hq_15) (cwV 1 hts gX6_lots_X6_fits rfl rfl rfl (by decide +kernel) ⟨(Nat.le_trans (Nat.le_of_ble_eq_true rfl) hRf), (Nat.le_trans (Nat.le_of_ble_eq_true rfl) hRl)⟩) rfl hl.1 rfl (Nat.le_of_ble_eq_true rfl) dX6_lots_172 (fun H locs hP hS => ?_)
          refine lv_iload hx hb dX6_lots_175 (lv_at hl 1 rfl) ?_
          refine r_Si (As := [.int q_15, .int x6_9]) (rest := []) ⟨hx, hb, hml, hown, hts⟩ hC hP hS (c_X6_has l g q_12 q_15 x6_9 rfl) (va_cwS 2 hts gX6_lots_X6_has rfl rfl rfl (by decide +kernel) ⟨(Nat.le_trans (Nat.le_of_ble_eq_true rfl) hRf), (Nat.le_trans (Nat.le_of_ble_eq_true rfl) hRl)⟩) rfl hl.1 rfl (Nat.le_of_ble_eq_true rfl) dX6_lots_177 (fun H locs hP hS => ?_)
          refine lv_if_eq (tgt := 191) hx hb dX6_lots_180 (by decide) (fun c_16 => ?_) (fun c_16 => ?_)
          · rw [if_pos c_16] at hf
            exact w_191 (f_X6_lots_52 n) ih x1 x3_8 x5 q_12 _ _ _ hP hS (lv_sub hl [3, 4, 2, 5] rfl) hf
          rw [if_neg c_16] at hf
          refine lv_aload_n hx hb dX6_lots_183 rfl (lv_at hl 3 rfl) ?_
          refine lv_iload hx hb dX6_lots_184 (lv_at hl 0 rfl) ?_
          refine lv_iload hx hb dX6_lots_186 (lv_at hl 1 rfl) ?_
          obtain ⟨q_18, hq_18, hf⟩ := bind_ex hf
          refine r_Vv (As := [.int x7_11, .int x6_9]) (rest := []) (k := 55) (ci := 5) ⟨hx, hb, hml, hown, hts⟩ hC hP hS (by decide) rfl (by decide) rfl (c_X6_gives l g q_12 x7_11 x6_9 hq_18) (cwV 2 hts gX6_lots_X6_gives rfl rfl rfl (by decide +kernel) ⟨(Nat.le_trans (Nat.le_of_ble_eq_true rfl) hRf), (Nat.le_trans (Nat.le_of_ble_eq_true rfl) hRl)⟩) rfl hl.1 rfl (Nat.le_of_ble_eq_true rfl) dX6_lots_188 (fun H locs hP hS => ?_)
          exact w_191 (f_X6_lots_52 n) ih x1 x3_8 x5 q_18 _ _ _ hP hS (lv_sub hl [3, 4, 2, 5] rfl) hf
        rw [if_pos c_14] at hf
        refine lv_aload_n hx hb dX6_lots_140 rfl (lv_at hl 3 rfl) ?_
        refine r_get hx hb hts hown hC hP hinX6 55 (by decide) (ci := 5) rfl (by decide) rfl 21 (by decide) (hts (.fieldLink RX6 51 "LoafPartsModel" "now" "[I") (by decide +kernel)) (v := .ref (aD g 68)) rfl dX6_lots_141 ?_
        refine lv_bipush (v := (18 : Int32)) hx hb dX6_lots_144 (by decide) ?_
        refine lv_iload hx hb dX6_lots_146 (lv_at hl 0 rfl) ?_
        refine lv_iadd hx hb dX6_lots_148 ?_
        obtain ⟨hi_19, hf⟩ := ix_ex hf
        refine r_ald hx hb hC hP 68 (by decide) rfl hi_19 dX6_lots_149 ?_
        refine lv_iload hx hb dX6_lots_150 (lv_at hl 1 rfl) ?_
        refine r_Si (As := [.int (ui q_12 68 (((18 : Int32) + x7_11) : Int32).toNatClampNeg), .int x6_9]) (rest := []) ⟨hx, hb, hml, hown, hts⟩ hC hP hS (c_X6_has l g q_12 (ui q_12 68 (((18 : Int32) + x7_11) : Int32).toNatClampNeg) x6_9 rfl) (va_cwS 2 hts gX6_lots_X6_has rfl rfl rfl (by decide +kernel) ⟨(Nat.le_trans (Nat.le_of_ble_eq_true rfl) hRf), (Nat.le_trans (Nat.le_of_ble_eq_true rfl) hRl)⟩) rfl hl.1 rfl (Nat.le_of_ble_eq_true rfl) dX6_lots_152 (fun H locs hP hS => ?_)
        refine lv_if_eq (tgt := 191) hx hb dX6_lots_155 (by decide) (fun c_20 => ?_) (fun c_20 => ?_)
        · rw [if_pos c_20] at hf
          exact w_191 (f_X6_lots_52 n) ih x1 x3_8 x5 q_12 _ _ _ hP hS (lv_sub hl [3, 4, 2, 5] rfl) hf
        rw [if_neg c_20] at hf
        refine lv_aload_n hx hb dX6_lots_158 rfl (lv_at hl 3 rfl) ?_
        refine lv_iload hx hb dX6_lots_159 (lv_at hl 0 rfl) ?_
        refine lv_iload hx hb dX6_lots_161 (lv_at hl 1 rfl) ?_
        obtain ⟨q_21, hq_21, hf⟩ := bind_ex hf
        refine r_Vv (As := [.int x7_11, .int x6_9]) (rest := []) (k := 55) (ci := 5) ⟨hx, hb, hml, hown, hts⟩ hC hP hS (by decide) rfl (by decide) rfl (c_X6_comesBack l g q_12 x7_11 x6_9 hq_21) (cwV 2 hts gX6_lots_X6_comesBack rfl rfl rfl (by decide +kernel) ⟨(Nat.le_trans (Nat.le_of_ble_eq_true rfl) hRf), (Nat.le_trans (Nat.le_of_ble_eq_true rfl) hRl)⟩) rfl hl.1 rfl (Nat.le_of_ble_eq_true rfl) dX6_lots_163 (fun H locs hP hS => ?_)
        refine lv_goto (tgt := 191) hx hb dX6_lots_166 (by decide) ?_
        exact w_191 (f_X6_lots_52 n) ih x1 x3_8 x5 q_21 _ _ _ hP hS (lv_sub hl [3, 4, 2, 5] rfl) hf
      rw [if_pos c_13] at hf
      refine lv_aload_n hx hb dX6_lots_110 rfl (lv_at hl 3 rfl) ?_
      refine r_get hx hb hts hown hC hP hinX6 55 (by decide) (ci := 5) rfl (by decide) rfl 21 (by decide) (hts (.fieldLink RX6 51 "LoafPartsModel" "now" "[I") (by decide +kernel)) (v := .ref (aD g 68)) rfl dX6_lots_111 ?_
      refine lv_iconst (v := (0 : Int32)) hx hb dX6_lots_114 (by decide) ?_
      obtain ⟨hi_22, hf⟩ := ix_ex hf
      refine r_ald hx hb hC hP 68 (by decide) rfl hi_22 dX6_lots_115 ?_
      refine lv_if_le (tgt := 191) hx hb dX6_lots_116 (by decide) (fun c_23 => ?_) (fun c_23 => ?_)
      · rw [if_pos c_23] at hf
        exact w_191 (f_X6_lots_52 n) ih x1 x3_8 x5 q_12 _ _ _ hP hS (lv_sub hl [3, 4, 2, 5] rfl) hf
      rw [if_neg c_23] at hf
      refine lv_aload_n hx hb dX6_lots_119 rfl (lv_at hl 3 rfl) ?_
      refine lv_iload hx hb dX6_lots_120 (lv_at hl 1 rfl) ?_
      obtain ⟨q_24, hq_24, hf⟩ := bind_ex hf
      refine r_Vv (As := [.int x6_9]) (rest := []) (k := 55) (ci := 5) ⟨hx, hb, hml, hown, hts⟩ hC hP hS (by decide) rfl (by decide) rfl (c_X6_cuts l g q_12 x6_9 hq_24) (cwV 1 hts gX6_lots_X6_cuts rfl rfl rfl (by decide +kernel) ⟨(Nat.le_trans (Nat.le_of_ble_eq_true rfl) hRf), (Nat.le_trans (Nat.le_of_ble_eq_true rfl) hRl)⟩) rfl hl.1 rfl (Nat.le_of_ble_eq_true rfl) dX6_lots_122 (fun H locs hP hS => ?_)
      refine lv_goto (tgt := 191) hx hb dX6_lots_125 (by decide) ?_
      exact w_191 (f_X6_lots_52 n) ih x1 x3_8 x5 q_24 _ _ _ hP hS (lv_sub hl [3, 4, 2, 5] rfl) hf
  unfold f_X6_lots at hf
  refine lv_iload_n hx hb dX6_lots_0 rfl (lv_at hl 1 rfl) ?_
  refine lv_iconst (v := (1 : Int32)) hx hb dX6_lots_1 (by decide) ?_
  refine lv_bipush (v := (20 : Int32)) hx hb dX6_lots_2 (by decide) ?_
  refine r_Si (As := [.int x1, .int (1 : Int32), .int (20 : Int32)]) (rest := []) ⟨hx, hb, hml, hown, hts⟩ hC hP hS (c_X6_in l g u x1 (1 : Int32) (20 : Int32) rfl) (va_cwS 3 hts gX6_lots_X6_in rfl rfl rfl (by decide +kernel) ⟨(Nat.le_trans (Nat.le_of_ble_eq_true rfl) hRf), (Nat.le_trans (Nat.le_of_ble_eq_true rfl) hRl)⟩) rfl hl.1 rfl (Nat.le_of_ble_eq_true rfl) dX6_lots_4 (fun H locs hP hS => ?_)
  refine lv_if_eq (tgt := 20) hx hb dX6_lots_7 (by decide) (fun c_1 => ?_) (fun c_1 => ?_)
  · rw [if_pos c_1] at hf
    refine lv_iconst (v := (-1 : Int32)) hx hb dX6_lots_20 (by decide) ?_
    obtain ⟨rfl, rfl⟩ := sp2 hf
    exact kret _ _ _ _ dX6_lots_21 hP hS trivial
  rw [if_neg c_1] at hf
  refine lv_iload_n hx hb dX6_lots_10 rfl (lv_at hl 2 rfl) ?_
  refine lv_iconst (v := (1 : Int32)) hx hb dX6_lots_11 (by decide) ?_
  refine lv_ldc (v := (2147483646 : Int32)) hx hb hown (hts (.constant RX6 250 (2147483646)) (by decide +kernel)) dX6_lots_12 ?_
  refine r_Si (As := [.int x2, .int (1 : Int32), .int (2147483646 : Int32)]) (rest := []) ⟨hx, hb, hml, hown, hts⟩ hC hP hS (c_X6_in l g u x2 (1 : Int32) (2147483646 : Int32) rfl) (va_cwS 3 hts gX6_lots_X6_in rfl rfl rfl (by decide +kernel) ⟨(Nat.le_trans (Nat.le_of_ble_eq_true rfl) hRf), (Nat.le_trans (Nat.le_of_ble_eq_true rfl) hRl)⟩) rfl hl.1 rfl (Nat.le_of_ble_eq_true rfl) dX6_lots_14 (fun H locs hP hS => ?_)
  refine lv_if_ne (tgt := 22) hx hb dX6_lots_17 (by decide) (fun c_2 => ?_) (fun c_2 => ?_)
  · rw [if_neg c_2] at hf
    refine lv_aload_n hx hb dX6_lots_22 rfl (lv_at hl 0 rfl) ?_
    refine r_get hx hb hts hown hC hP hinX6 55 (by decide) (ci := 5) rfl (by decide) rfl 17 (by decide) (hts (.fieldLink RX6 136 "LoafPartsModel" "n" "I") (by decide +kernel)) (v := .int (ui u 55 17)) rfl dX6_lots_23 ?_
    refine lv_if_ne (tgt := 32) hx hb dX6_lots_26 (by decide) (fun c_3 => ?_) (fun c_3 => ?_)
    · rw [if_neg c_3] at hf
      refine lv_aload_n hx hb dX6_lots_32 rfl (lv_at hl 0 rfl) ?_
      refine r_get hx hb hts hown hC hP hinX6 55 (by decide) (ci := 5) rfl (by decide) rfl 22 (by decide) (hts (.fieldLink RX6 139 "LoafPartsModel" "deedMany" "I") (by decide +kernel)) (v := .int (ui u 55 22)) rfl dX6_lots_33 ?_
      refine lv_iload_n hx hb dX6_lots_36 rfl (lv_at hl 1 rfl) ?_
      refine lv_iadd hx hb dX6_lots_37 ?_
      refine lv_bipush (v := (40 : Int32)) hx hb dX6_lots_38 (by decide) ?_
      refine lv_icmp_le (tgt := 46) hx hb dX6_lots_40 (by decide) (fun c_4 => ?_) (fun c_4 => ?_)
      · rw [if_pos c_4] at hf
        refine lv_iload_n hx hb dX6_lots_46 rfl (lv_at hl 2 rfl) ?_
        refine lv_i2l hx hb dX6_lots_47 rfl ?_
        obtain ⟨x3_5, ex3_5, hf⟩ := lt_ex hf
        refine r_nml ex3_5 ?_
        refine lv_lstore_n (lv' := [(3, .long x3_5), (0, .ref (aD g 55)), (1, .int x1), (2, .int x2)]) hx hb dX6_lots_48 rfl hl (by decide) rfl (fun ls hl => ?_)
        refine lv_iconst (v := (0 : Int32)) hx hb dX6_lots_49 (by decide) ?_
        refine lv_istore (lv' := [(5, .int (0 : Int32)), (3, .long x3_5), (0, .ref (aD g 55)), (1, .int x1), (2, .int x2)]) hx hb dX6_lots_50 hl (by decide) rfl (fun ls hl => ?_)
        exact w_52 fu x1 x3_5 (0 : Int32) u _ _ _ hP hS (lv_sub hl [2, 3, 1, 0] rfl) hf
      rw [if_neg c_4] at hf
      refine lv_bipush (v := (-2 : Int32)) hx hb dX6_lots_43 (by decide) ?_
      obtain ⟨rfl, rfl⟩ := sp2 hf
      exact kret _ _ _ _ dX6_lots_45 hP hS trivial
    rw [if_pos c_3] at hf
    refine lv_bipush (v := (-4 : Int32)) hx hb dX6_lots_29 (by decide) ?_
    obtain ⟨rfl, rfl⟩ := sp2 hf
    exact kret _ _ _ _ dX6_lots_31 hP hS trivial
  rw [if_pos c_2] at hf
  refine lv_iconst (v := (-1 : Int32)) hx hb dX6_lots_20 (by decide) ?_
  obtain ⟨rfl, rfl⟩ := sp2 hf
  exact kret _ _ _ _ dX6_lots_21 hP hS trivial
set_option maxHeartbeats 4000000 in
set_option maxRecDepth 100000 in
theorem c_X6_count (l : Launch) (g : GG) (u : UU) (x1 : Int32) {r : Int32} (hf : f_X6_count x1 u = some r) : Ci l g 55 20 yX6_count wsX6_count 4 87 [.ref (aD g 55), .int x1] u r u := by
  refine ct_i (cc := cX6_count) (maxL := 2) (by decide) rfl (Nat.le_of_ble_eq_true rfl) ?_
  intro p e s m args below meth c R Q ls hx hb hml hown hts hC hP hl hRf hRl kret hS
  have hown : s.vm.findClass RX6 = some m.cls := hown
  have hl : lv_has ls 2 [(0, .ref (aD g 55)), (1, .int x1)] := hl
  unfold f_X6_count at hf
  refine lv_iload_n hx hb dX6_count_0 rfl (lv_at hl 1 rfl) ?_
  refine lv_iconst (v := (0 : Int32)) hx hb dX6_count_1 (by decide) ?_
  refine lv_bipush (v := (11 : Int32)) hx hb dX6_count_2 (by decide) ?_
  refine r_Si (As := [.int x1, .int (0 : Int32), .int (11 : Int32)]) (rest := []) ⟨hx, hb, hml, hown, hts⟩ hC hP hS (c_X6_in l g u x1 (0 : Int32) (11 : Int32) rfl) (va_cwS 3 hts gX6_count_X6_in rfl rfl rfl (by decide +kernel) ⟨(Nat.le_trans (Nat.le_of_ble_eq_true rfl) hRf), (Nat.le_trans (Nat.le_of_ble_eq_true rfl) hRl)⟩) rfl hl.1 rfl (Nat.le_of_ble_eq_true rfl) dX6_count_4 (fun H locs hP hS => ?_)
  refine lv_if_eq (tgt := 18) hx hb dX6_count_7 (by decide) (fun c_1 => ?_) (fun c_1 => ?_)
  · rw [if_pos c_1] at hf
    refine lv_iconst (v := (-1 : Int32)) hx hb dX6_count_18 (by decide) ?_
    obtain rfl := sp1 hf
    exact kret _ _ _ _ dX6_count_19 hP hS trivial
  rw [if_neg c_1] at hf
  refine lv_aload_n hx hb dX6_count_10 rfl (lv_at hl 0 rfl) ?_
  refine lv_iload_n hx hb dX6_count_11 rfl (lv_at hl 1 rfl) ?_
  obtain ⟨q_2, hq_2, hf⟩ := bind_ex hf
  refine r_Vi (As := [.int x1]) (rest := []) (k := 55) (ci := 5) ⟨hx, hb, hml, hown, hts⟩ hC hP hS (by decide) rfl (by decide) rfl (c_X6_counted l g u x1 hq_2) (cwV 1 hts gX6_count_X6_counted rfl rfl rfl (by decide +kernel) ⟨(Nat.le_trans (Nat.le_of_ble_eq_true rfl) hRf), (Nat.le_trans (Nat.le_of_ble_eq_true rfl) hRl)⟩) rfl hl.1 rfl (Nat.le_of_ble_eq_true rfl) dX6_count_12 (fun H locs hP hS => ?_)
  refine lv_goto (tgt := 19) hx hb dX6_count_15 (by decide) ?_
  obtain rfl := sp1 hf
  exact kret _ _ _ _ dX6_count_19 hP hS trivial
set_option maxHeartbeats 4000000 in
set_option maxRecDepth 100000 in
theorem c_X6_adds (l : Launch) (g : GG) (u : UU) (x1 : Int64) {u' : UU} (hf : f_X6_adds x1 u = some u') : Cv l g 55 20 yX6_adds wsX6_adds 0 0 [.ref (aD g 55), .long x1] u u' := by
  refine ct_v (cc := cX6_adds) (maxL := 3) (by decide) rfl (Nat.le_of_ble_eq_true rfl) ?_
  intro p e s m args below meth c R Q ls hx hb hml hown hts hC hP hl hRf hRl kret hS
  have hown : s.vm.findClass RX6 = some m.cls := hown
  have hl : lv_has ls 3 [(0, .ref (aD g 55)), (1, .long x1)] := hl
  have hinX6 : ∀ w ∈ u_ws RX6 TX6 34, w ∈ wsX6_adds := by decide +kernel
  unfold f_X6_adds at hf
  refine lv_aload_n hx hb dX6_adds_0 rfl (lv_at hl 0 rfl) ?_
  refine lv_ldc2 (v := (31 : Int64)) hx hb hown (hts (.constantLong RX6 268 (31)) (by decide +kernel)) dX6_adds_1 ?_
  refine lv_aload_n hx hb dX6_adds_4 rfl (lv_at hl 0 rfl) ?_
  refine r_get hx hb hts hown hC hP hinX6 55 (by decide) (ci := 5) rfl (by decide) rfl 33 (by decide) (hts (.fieldLink RX6 270 "LoafPartsModel" "h" "J") (by decide +kernel)) (v := .long (ul u 55 33)) rfl dX6_adds_5 ?_
  refine lv_lmul hx hb dX6_adds_8 ?_
  refine lv_lload_n hx hb dX6_adds_9 rfl (lv_at hl 1 rfl) ?_
  refine lv_ladd hx hb dX6_adds_10 ?_
  obtain ⟨u_1, eu_1, hf⟩ := lt_ex hf
  refine r_putl hx hb hts hown hC hP hS hinX6 tyX6 tyX6_ok nmX6 55 (by decide) (ci := 5) rfl (by decide) rfl 33 (by decide) (hts (.fieldLink RX6 270 "LoafPartsModel" "h" "J") (by decide +kernel)) rfl (by decide +kernel) (by decide) (by decide) eu_1 dX6_adds_11 (fun H locs hP hS => ?_)
  obtain rfl := sp1 hf
  exact kret _ _ _ _ dX6_adds_14 hP hS trivial