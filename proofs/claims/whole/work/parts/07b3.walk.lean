set_option maxHeartbeats 4000000 in
set_option maxRecDepth 100000 in
theorem c_X6_dues (l : Launch) (g : GG) (u : UU) (x1 : Int32) {r : Int32} {u' : UU} (hf : f_X6_dues x1 u = some (r, u')) : Ci l g 55 20 yX6_dues wsX6_dues 2 43 [.ref (aD g 55), .int x1] u r u' := by
  refine ct_i (cc := cX6_dues) (maxL := 8) (by decide) rfl (Nat.le_of_ble_eq_true rfl) ?_
  intro p e s m args below meth c R Q ls hx hb hml hown hts hC hP hl hRf hRl kret hS
  have hown : s.vm.findClass RX6 = some m.cls := hown
  have hl : lv_has ls 8 [(0, .ref (aD g 55)), (1, .int x1)] := hl
  have hinX6 : ∀ w ∈ u_ws RX6 TX6 34, w ∈ wsX6_dues := by decide +kernel
  have w_168 : ∀ (k_91 : Int32 → Int32 → Int32 → Int32 → UU → Option (Int32 × UU)) (K_91 : ∀ (x2 : Int32) (x3 : Int32) (x4 : Int32) (x5 : Int32) (u : UU) (H : Heap) (locs : List Loc) (ls : Array Slot), Ps g 55 20 u H → va_S (aA g) s.heap H locs → lv_has ls 8 [(0, .ref (aD g 55)), (2, .int x2), (3, .int x3), (4, .int x4), (5, .int x5)] → k_91 x2 x3 x4 x5 u = some (r, u') → W p l e R s m args below meth c H locs 0 0 Q (F0 m 91 ls [])) (k_101 : Int32 → Int32 → Int32 → Int32 → Int32 → UU → Option (Int32 × UU)) (K_101 : ∀ (x2 : Int32) (x3 : Int32) (x4 : Int32) (x5 : Int32) (x6 : Int32) (u : UU) (H : Heap) (locs : List Loc) (ls : Array Slot), Ps g 55 20 u H → va_S (aA g) s.heap H locs → lv_has ls 8 [(0, .ref (aD g 55)), (2, .int x2), (3, .int x3), (4, .int x4), (5, .int x5), (6, .int x6)] → k_101 x2 x3 x4 x5 x6 u = some (r, u') → W p l e R s m args below meth c H locs 0 0 Q (F0 m 101 ls [])), ∀ (x2 : Int32) (x3 : Int32) (x5 : Int32) (x6 : Int32) (t0 : Int32) (u : UU) (H : Heap) (locs : List Loc) (ls : Array Slot), Ps g 55 20 u H → va_S (aA g) s.heap H locs → lv_has ls 8 [(0, .ref (aD g 55)), (2, .int x2), (3, .int x3), (5, .int x5), (6, .int x6)] → f_X6_dues_168 k_91 k_101 x2 x3 x5 x6 t0 u = some (r, u') → W p l e R s m args below meth c H locs 0 0 Q (F0 m 168 ls [.int t0]) := by
    intro k_91 K_91 k_101 K_101
    intro x2 x3 x5 x6 t0 u H locs ls hP hS hl hf
    unfold f_X6_dues_168 at hf
    refine lv_istore (lv' := [(4, .int t0), (0, .ref (aD g 55)), (2, .int x2), (3, .int x3), (5, .int x5), (6, .int x6)]) hx hb dX6_dues_168 hl (by decide) rfl (fun ls hl => ?_)
    obtain ⟨x6_17, ex6_17, hf⟩ := lt_ex hf
    refine lv_iinc (v := x6_17) (lv' := [(6, .int x6_17), (4, .int t0), (0, .ref (aD g 55)), (2, .int x2), (3, .int x3), (5, .int x5)]) hx hb dX6_dues_170 hl (k := 5) rfl (by rw [ex6_17]; rfl) (by decide) rfl (fun ls hl => ?_)
    refine lv_goto (tgt := 101) hx hb dX6_dues_173 (by decide) ?_
    exact K_101 x2 x3 t0 x5 x6_17 u _ _ _ hP hS (lv_sub hl [2, 3, 4, 1, 5, 0] rfl) hf
  have w_166 : ∀ (k_91 : Int32 → Int32 → Int32 → Int32 → UU → Option (Int32 × UU)) (K_91 : ∀ (x2 : Int32) (x3 : Int32) (x4 : Int32) (x5 : Int32) (u : UU) (H : Heap) (locs : List Loc) (ls : Array Slot), Ps g 55 20 u H → va_S (aA g) s.heap H locs → lv_has ls 8 [(0, .ref (aD g 55)), (2, .int x2), (3, .int x3), (4, .int x4), (5, .int x5)] → k_91 x2 x3 x4 x5 u = some (r, u') → W p l e R s m args below meth c H locs 0 0 Q (F0 m 91 ls [])) (k_101 : Int32 → Int32 → Int32 → Int32 → Int32 → UU → Option (Int32 × UU)) (K_101 : ∀ (x2 : Int32) (x3 : Int32) (x4 : Int32) (x5 : Int32) (x6 : Int32) (u : UU) (H : Heap) (locs : List Loc) (ls : Array Slot), Ps g 55 20 u H → va_S (aA g) s.heap H locs → lv_has ls 8 [(0, .ref (aD g 55)), (2, .int x2), (3, .int x3), (4, .int x4), (5, .int x5), (6, .int x6)] → k_101 x2 x3 x4 x5 x6 u = some (r, u') → W p l e R s m args below meth c H locs 0 0 Q (F0 m 101 ls [])), ∀ (x2 : Int32) (x3 : Int32) (x4 : Int32) (x5 : Int32) (x6 : Int32) (u : UU) (H : Heap) (locs : List Loc) (ls : Array Slot), Ps g 55 20 u H → va_S (aA g) s.heap H locs → lv_has ls 8 [(0, .ref (aD g 55)), (2, .int x2), (3, .int x3), (4, .int x4), (5, .int x5), (6, .int x6)] → f_X6_dues_166 k_91 k_101 x2 x3 x4 x5 x6 u = some (r, u') → W p l e R s m args below meth c H locs 0 0 Q (F0 m 166 ls []) := by
    intro k_91 K_91 k_101 K_101
    intro x2 x3 x4 x5 x6 u H locs ls hP hS hl hf
    unfold f_X6_dues_166 at hf
    refine lv_iload hx hb dX6_dues_166 (lv_at hl 3 rfl) ?_
    exact w_168 (k_91) K_91 (k_101) K_101 x2 x3 x5 x6 x4 u _ _ _ hP hS (lv_sub hl [0, 1, 2, 4, 5] rfl) hf
  have w_141 : ∀ (k_91 : Int32 → Int32 → Int32 → Int32 → UU → Option (Int32 × UU)) (K_91 : ∀ (x2 : Int32) (x3 : Int32) (x4 : Int32) (x5 : Int32) (u : UU) (H : Heap) (locs : List Loc) (ls : Array Slot), Ps g 55 20 u H → va_S (aA g) s.heap H locs → lv_has ls 8 [(0, .ref (aD g 55)), (2, .int x2), (3, .int x3), (4, .int x4), (5, .int x5)] → k_91 x2 x3 x4 x5 u = some (r, u') → W p l e R s m args below meth c H locs 0 0 Q (F0 m 91 ls [])) (k_101 : Int32 → Int32 → Int32 → Int32 → Int32 → UU → Option (Int32 × UU)) (K_101 : ∀ (x2 : Int32) (x3 : Int32) (x4 : Int32) (x5 : Int32) (x6 : Int32) (u : UU) (H : Heap) (locs : List Loc) (ls : Array Slot), Ps g 55 20 u H → va_S (aA g) s.heap H locs → lv_has ls 8 [(0, .ref (aD g 55)), (2, .int x2), (3, .int x3), (4, .int x4), (5, .int x5), (6, .int x6)] → k_101 x2 x3 x4 x5 x6 u = some (r, u') → W p l e R s m args below meth c H locs 0 0 Q (F0 m 101 ls [])), ∀ (x2 : Int32) (x4 : Int32) (x5 : Int32) (x6 : Int32) (x7 : Int32) (t0 : Int32) (t1 : Int32) (u : UU) (H : Heap) (locs : List Loc) (ls : Array Slot), Ps g 55 20 u H → va_S (aA g) s.heap H locs → lv_has ls 8 [(0, .ref (aD g 55)), (2, .int x2), (4, .int x4), (5, .int x5), (6, .int x6), (7, .int x7)] → f_X6_dues_141 k_91 k_101 x2 x4 x5 x6 x7 t0 t1 u = some (r, u') → W p l e R s m args below meth c H locs 0 0 Q (F0 m 141 ls [.int t0, .int t1]) := by
    intro k_91 K_91 k_101 K_101
    intro x2 x4 x5 x6 x7 t0 t1 u H locs ls hP hS hl hf
    unfold f_X6_dues_141 at hf
    refine lv_iadd hx hb dX6_dues_141 ?_
    obtain ⟨x3_15, ex3_15, hf⟩ := lt_ex hf
    refine r_nm ex3_15 ?_
    refine lv_istore_n (lv' := [(3, .int x3_15), (0, .ref (aD g 55)), (2, .int x2), (4, .int x4), (5, .int x5), (6, .int x6), (7, .int x7)]) hx hb dX6_dues_142 rfl hl (by decide) rfl (fun ls hl => ?_)
    refine lv_iload hx hb dX6_dues_143 (lv_at hl 6 rfl) ?_
    refine lv_if_eq (tgt := 166) hx hb dX6_dues_145 (by decide) (fun c_16 => ?_) (fun c_16 => ?_)
    · rw [if_pos c_16] at hf
      exact w_166 (k_91) K_91 (k_101) K_101 x2 x3_15 x4 x5 x6 u _ _ _ hP hS (lv_sub hl [1, 2, 0, 3, 4, 5] rfl) hf
    rw [if_neg c_16] at hf
    refine lv_iload hx hb dX6_dues_148 (lv_at hl 3 rfl) ?_
    refine lv_bipush (v := (-9 : Int32)) hx hb dX6_dues_150 (by decide) ?_
    refine lv_icmp_ne (tgt := 166) hx hb dX6_dues_152 (by decide) (fun c_18 => ?_) (fun c_18 => ?_)
    · rw [if_neg c_18] at hf
      exact w_166 (k_91) K_91 (k_101) K_101 x2 x3_15 x4 x5 x6 u _ _ _ hP hS (lv_sub hl [1, 2, 0, 3, 4, 5] rfl) hf
    rw [if_pos c_18] at hf
    refine lv_bipush (v := (10 : Int32)) hx hb dX6_dues_155 (by decide) ?_
    refine lv_iload hx hb dX6_dues_157 (lv_at hl 4 rfl) ?_
    refine lv_imul hx hb dX6_dues_159 ?_
    refine lv_iload hx hb dX6_dues_160 (lv_at hl 5 rfl) ?_
    refine lv_iadd hx hb dX6_dues_162 ?_
    refine lv_goto (tgt := 168) hx hb dX6_dues_163 (by decide) ?_
    exact w_168 (k_91) K_91 (k_101) K_101 x2 x3_15 x5 x6 (((10 : Int32) * x5) + x6) u _ _ _ hP hS (lv_sub hl [1, 2, 0, 4, 5] rfl) hf
  have w_128 : ∀ (k_91 : Int32 → Int32 → Int32 → Int32 → UU → Option (Int32 × UU)) (K_91 : ∀ (x2 : Int32) (x3 : Int32) (x4 : Int32) (x5 : Int32) (u : UU) (H : Heap) (locs : List Loc) (ls : Array Slot), Ps g 55 20 u H → va_S (aA g) s.heap H locs → lv_has ls 8 [(0, .ref (aD g 55)), (2, .int x2), (3, .int x3), (4, .int x4), (5, .int x5)] → k_91 x2 x3 x4 x5 u = some (r, u') → W p l e R s m args below meth c H locs 0 0 Q (F0 m 91 ls [])) (k_101 : Int32 → Int32 → Int32 → Int32 → Int32 → UU → Option (Int32 × UU)) (K_101 : ∀ (x2 : Int32) (x3 : Int32) (x4 : Int32) (x5 : Int32) (x6 : Int32) (u : UU) (H : Heap) (locs : List Loc) (ls : Array Slot), Ps g 55 20 u H → va_S (aA g) s.heap H locs → lv_has ls 8 [(0, .ref (aD g 55)), (2, .int x2), (3, .int x3), (4, .int x4), (5, .int x5), (6, .int x6)] → k_101 x2 x3 x4 x5 x6 u = some (r, u') → W p l e R s m args below meth c H locs 0 0 Q (F0 m 101 ls [])), ∀ (x2 : Int32) (x3 : Int32) (x4 : Int32) (x5 : Int32) (x6 : Int32) (t0 : Int32) (u : UU) (H : Heap) (locs : List Loc) (ls : Array Slot), Ps g 55 20 u H → va_S (aA g) s.heap H locs → lv_has ls 8 [(0, .ref (aD g 55)), (2, .int x2), (3, .int x3), (4, .int x4), (5, .int x5), (6, .int x6)] → f_X6_dues_128 k_91 k_101 x2 x3 x4 x5 x6 t0 u = some (r, u') → W p l e R s m args below meth c H locs 0 0 Q (F0 m 128 ls [.int t0]) := by
    intro k_91 K_91 k_101 K_101
    intro x2 x3 x4 x5 x6 t0 u H locs ls hP hS hl hf
    unfold f_X6_dues_128 at hf
    refine lv_istore (lv' := [(7, .int t0), (0, .ref (aD g 55)), (2, .int x2), (3, .int x3), (4, .int x4), (5, .int x5), (6, .int x6)]) hx hb dX6_dues_128 hl (by decide) rfl (fun ls hl => ?_)
    refine lv_iload_n hx hb dX6_dues_130 rfl (lv_at hl 3 rfl) ?_
    refine lv_iload hx hb dX6_dues_131 (lv_at hl 0 rfl) ?_
    refine lv_if_eq (tgt := 140) hx hb dX6_dues_133 (by decide) (fun c_14 => ?_) (fun c_14 => ?_)
    · rw [if_pos c_14] at hf
      refine lv_iconst (v := (0 : Int32)) hx hb dX6_dues_140 (by decide) ?_
      exact w_141 (k_91) K_91 (k_101) K_101 x2 x4 x5 x6 t0 (0 : Int32) x3 u _ _ _ hP hS (lv_sub hl [1, 2, 4, 5, 6, 0] rfl) hf
    rw [if_neg c_14] at hf
    refine lv_iconst (v := (1 : Int32)) hx hb dX6_dues_136 (by decide) ?_
    refine lv_goto (tgt := 141) hx hb dX6_dues_137 (by decide) ?_
    exact w_141 (k_91) K_91 (k_101) K_101 x2 x4 x5 x6 t0 (1 : Int32) x3 u _ _ _ hP hS (lv_sub hl [1, 2, 4, 5, 6, 0] rfl) hf
  have w_101 : ∀ (k_91 : Int32 → Int32 → Int32 → Int32 → UU → Option (Int32 × UU)) (K_91 : ∀ (x2 : Int32) (x3 : Int32) (x4 : Int32) (x5 : Int32) (u : UU) (H : Heap) (locs : List Loc) (ls : Array Slot), Ps g 55 20 u H → va_S (aA g) s.heap H locs → lv_has ls 8 [(0, .ref (aD g 55)), (2, .int x2), (3, .int x3), (4, .int x4), (5, .int x5)] → k_91 x2 x3 x4 x5 u = some (r, u') → W p l e R s m args below meth c H locs 0 0 Q (F0 m 91 ls [])) (n : Nat), ∀ (x2 : Int32) (x3 : Int32) (x4 : Int32) (x5 : Int32) (x6 : Int32) (u : UU) (H : Heap) (locs : List Loc) (ls : Array Slot), Ps g 55 20 u H → va_S (aA g) s.heap H locs → lv_has ls 8 [(0, .ref (aD g 55)), (2, .int x2), (3, .int x3), (4, .int x4), (5, .int x5), (6, .int x6)] → f_X6_dues_101 k_91 n x2 x3 x4 x5 x6 u = some (r, u') → W p l e R s m args below meth c H locs 0 0 Q (F0 m 101 ls []) := by
    intro k_91 K_91 n
    induction n with
    | zero =>
      intro x2 x3 x4 x5 x6 u H locs ls hP hS hl hf
      rw [f_X6_dues_101] at hf
      cases hf
    | succ n ih =>
      intro x2 x3 x4 x5 x6 u H locs ls hP hS hl hf
      rw [f_X6_dues_101] at hf
      refine lv_iload hx hb dX6_dues_101 (lv_at hl 5 rfl) ?_
      refine lv_bipush (v := (10 : Int32)) hx hb dX6_dues_103 (by decide) ?_
      refine lv_icmp_ge (tgt := 176) hx hb dX6_dues_105 (by decide) (fun c_9 => ?_) (fun c_9 => ?_)
      · rw [if_pos c_9] at hf
        obtain ⟨x5_10, ex5_10, hf⟩ := lt_ex hf
        refine lv_iinc (v := x5_10) (lv' := [(5, .int x5_10), (0, .ref (aD g 55)), (2, .int x2), (3, .int x3), (4, .int x4), (6, .int x6)]) hx hb dX6_dues_176 hl (k := 4) rfl (by rw [ex5_10]; rfl) (by decide) rfl (fun ls hl => ?_)
        refine lv_goto (tgt := 91) hx hb dX6_dues_179 (by decide) ?_
        exact K_91 x2 x3 x4 x5_10 u _ _ _ hP hS (lv_sub hl [1, 2, 3, 4, 0] rfl) hf
      rw [if_neg c_9] at hf
      refine lv_ldc (v := (720720 : Int32)) hx hb hown (hts (.constant RX6 149 (720720)) (by decide +kernel)) dX6_dues_108 ?_
      refine lv_iload hx hb dX6_dues_110 (lv_at hl 5 rfl) ?_
      obtain ⟨hz_11, hf⟩ := nz_ex hf
      refine lv_idiv hx hb dX6_dues_112 hz_11 ?_
      refine lv_iload hx hb dX6_dues_113 (lv_at hl 4 rfl) ?_
      refine lv_imul hx hb dX6_dues_115 ?_
      refine lv_iload_n hx hb dX6_dues_116 rfl (lv_at hl 1 rfl) ?_
      obtain ⟨q_12, hq_12, hf⟩ := bind_ex hf
      refine r_Si (As := [.int x2]) (rest := [.int (((720720 : Int32) / x6) * x5)]) ⟨hx, hb, hml, hown, hts⟩ hC hP hS (c_X6_sumOf l g u x2 hq_12) (va_cwS 1 hts gX6_dues_X6_sumOf rfl rfl rfl (by decide +kernel) ⟨(Nat.le_trans (Nat.le_of_ble_eq_true rfl) hRf), (Nat.le_trans (Nat.le_of_ble_eq_true rfl) hRl)⟩) rfl hl.1 rfl (Nat.le_of_ble_eq_true rfl) dX6_dues_117 (fun H locs hP hS => ?_)
      refine lv_icmp_ne (tgt := 127) hx hb dX6_dues_120 (by decide) (fun c_13 => ?_) (fun c_13 => ?_)
      · rw [if_neg c_13] at hf
        refine lv_iconst (v := (0 : Int32)) hx hb dX6_dues_127 (by decide) ?_
        exact w_128 (k_91) K_91 (f_X6_dues_101 k_91 n) ih x2 x3 x4 x5 x6 (0 : Int32) u _ _ _ hP hS (lv_sub hl [0, 1, 2, 3, 4, 5] rfl) hf
      rw [if_pos c_13] at hf
      refine lv_iconst (v := (1 : Int32)) hx hb dX6_dues_123 (by decide) ?_
      refine lv_goto (tgt := 128) hx hb dX6_dues_124 (by decide) ?_
      exact w_128 (k_91) K_91 (f_X6_dues_101 k_91 n) ih x2 x3 x4 x5 x6 (1 : Int32) u _ _ _ hP hS (lv_sub hl [0, 1, 2, 3, 4, 5] rfl) hf
  have w_91 : ∀ (n : Nat), ∀ (x2 : Int32) (x3 : Int32) (x4 : Int32) (x5 : Int32) (u : UU) (H : Heap) (locs : List Loc) (ls : Array Slot), Ps g 55 20 u H → va_S (aA g) s.heap H locs → lv_has ls 8 [(0, .ref (aD g 55)), (2, .int x2), (3, .int x3), (4, .int x4), (5, .int x5)] → f_X6_dues_91 n x2 x3 x4 x5 u = some (r, u') → W p l e R s m args below meth c H locs 0 0 Q (F0 m 91 ls []) := by
    intro n
    induction n with
    | zero =>
      intro x2 x3 x4 x5 u H locs ls hP hS hl hf
      rw [f_X6_dues_91] at hf
      cases hf
    | succ n ih =>
      intro x2 x3 x4 x5 u H locs ls hP hS hl hf
      rw [f_X6_dues_91] at hf
      refine lv_iload hx hb dX6_dues_91 (lv_at hl 4 rfl) ?_
      refine lv_bipush (v := (10 : Int32)) hx hb dX6_dues_93 (by decide) ?_
      refine lv_icmp_ge (tgt := 182) hx hb dX6_dues_95 (by decide) (fun c_6 => ?_) (fun c_6 => ?_)
      · rw [if_pos c_6] at hf
        refine lv_iload_n hx hb dX6_dues_182 rfl (lv_at hl 2 rfl) ?_
        refine lv_if_ne (tgt := 191) hx hb dX6_dues_183 (by decide) (fun c_7 => ?_) (fun c_7 => ?_)
        · rw [if_neg c_7] at hf
          refine lv_aload_n hx hb dX6_dues_191 rfl (lv_at hl 0 rfl) ?_
          refine lv_iload hx hb dX6_dues_192 (lv_at hl 3 rfl) ?_
          refine lv_iload_n hx hb dX6_dues_194 rfl (lv_at hl 2 rfl) ?_
          obtain ⟨q_8, hq_8, hf⟩ := bind_ex hf
          refine r_Vi (r := q_8.1) (u' := q_8.2) (As := [.int x4, .int x3]) (rest := []) (k := 55) (ci := 5) ⟨hx, hb, hml, hown, hts⟩ hC hP hS (by decide) rfl (by decide) rfl (c_X6_tells l g u x4 x3 hq_8) (cwV 2 hts gX6_dues_X6_tells rfl rfl rfl (by decide +kernel) ⟨(Nat.le_trans (Nat.le_of_ble_eq_true rfl) hRf), (Nat.le_trans (Nat.le_of_ble_eq_true rfl) hRl)⟩) rfl hl.1 rfl (Nat.le_of_ble_eq_true rfl) dX6_dues_195 (fun H locs hP hS => ?_)
          obtain ⟨rfl, rfl⟩ := sp2 hf
          exact kret _ _ _ _ dX6_dues_198 hP hS trivial
        rw [if_pos c_7] at hf
        refine lv_bipush (v := (-9 : Int32)) hx hb dX6_dues_186 (by decide) ?_
        refine lv_goto (tgt := 198) hx hb dX6_dues_188 (by decide) ?_
        obtain ⟨rfl, rfl⟩ := sp2 hf
        exact kret _ _ _ _ dX6_dues_198 hP hS trivial
      rw [if_neg c_6] at hf
      refine lv_iconst (v := (1 : Int32)) hx hb dX6_dues_98 (by decide) ?_
      refine lv_istore (lv' := [(6, .int (1 : Int32)), (0, .ref (aD g 55)), (2, .int x2), (3, .int x3), (4, .int x4), (5, .int x5)]) hx hb dX6_dues_99 hl (by decide) rfl (fun ls hl => ?_)
      exact w_101 (f_X6_dues_91 n) ih fu x2 x3 x4 x5 (1 : Int32) u _ _ _ hP hS (lv_sub hl [1, 2, 3, 4, 5, 0] rfl) hf
  have w_63 : ∀ (u : UU) (H : Heap) (locs : List Loc) (ls : Array Slot), Ps g 55 20 u H → va_S (aA g) s.heap H locs → lv_has ls 8 [(0, .ref (aD g 55))] → f_X6_dues_63 u = some (r, u') → W p l e R s m args below meth c H locs 0 0 Q (F0 m 63 ls []) := by
    intro u H locs ls hP hS hl hf
    unfold f_X6_dues_63 at hf
    refine lv_aload_n hx hb dX6_dues_63 rfl (lv_at hl 0 rfl) ?_
    refine lv_iconst (v := (3 : Int32)) hx hb dX6_dues_64 (by decide) ?_
    obtain ⟨q_21, hq_21, hf⟩ := bind_ex hf
    refine r_Vi (r := q_21.1) (u' := q_21.2) (As := [.int (3 : Int32)]) (rest := []) (k := 55) (ci := 5) ⟨hx, hb, hml, hown, hts⟩ hC hP hS (by decide) rfl (by decide) rfl (c_X6_meets l g u (3 : Int32) hq_21) (cwV 1 hts gX6_dues_X6_meets rfl rfl rfl (by decide +kernel) ⟨(Nat.le_trans (Nat.le_of_ble_eq_true rfl) hRf), (Nat.le_trans (Nat.le_of_ble_eq_true rfl) hRl)⟩) rfl hl.1 rfl (Nat.le_of_ble_eq_true rfl) dX6_dues_65 (fun H locs hP hS => ?_)
    obtain ⟨rfl, rfl⟩ := sp2 hf
    exact kret _ _ _ _ dX6_dues_68 hP hS trivial
  have w_28 : ∀ (n : Nat), ∀ (x1 : Int32) (x2 : Int32) (x3 : Int32) (u : UU) (H : Heap) (locs : List Loc) (ls : Array Slot), Ps g 55 20 u H → va_S (aA g) s.heap H locs → lv_has ls 8 [(0, .ref (aD g 55)), (1, .int x1), (2, .int x2), (3, .int x3)] → f_X6_dues_28 n x1 x2 x3 u = some (r, u') → W p l e R s m args below meth c H locs 0 0 Q (F0 m 28 ls []) := by
    intro n
    induction n with
    | zero =>
      intro x1 x2 x3 u H locs ls hP hS hl hf
      rw [f_X6_dues_28] at hf
      cases hf
    | succ n ih =>
      intro x1 x2 x3 u H locs ls hP hS hl hf
      rw [f_X6_dues_28] at hf
      refine lv_iload_n hx hb dX6_dues_28 rfl (lv_at hl 3 rfl) ?_
      refine lv_aload_n hx hb dX6_dues_29 rfl (lv_at hl 0 rfl) ?_
      refine r_get hx hb hts hown hC hP hinX6 55 (by decide) (ci := 5) rfl (by decide) rfl 5 (by decide) (hts (.fieldLink RX6 17 "LoafPartsModel" "sizes" "[I") (by decide +kernel)) (v := .ref (aD g 57)) rfl dX6_dues_30 ?_
      refine lv_iload_n hx hb dX6_dues_33 rfl (lv_at hl 1 rfl) ?_
      obtain ⟨hi_4, hf⟩ := ix_ex hf
      refine r_ald hx hb hC hP 57 (by decide) rfl hi_4 dX6_dues_34 ?_
      refine lv_icmp_ge (tgt := 82) hx hb dX6_dues_35 (by decide) (fun c_5 => ?_) (fun c_5 => ?_)
      · rw [if_pos c_5] at hf
        refine lv_iconst (v := (0 : Int32)) hx hb dX6_dues_82 (by decide) ?_
        refine lv_istore_n (lv' := [(3, .int (0 : Int32)), (0, .ref (aD g 55)), (1, .int x1), (2, .int x2)]) hx hb dX6_dues_83 rfl hl (by decide) rfl (fun ls hl => ?_)
        refine lv_bipush (v := (-9 : Int32)) hx hb dX6_dues_84 (by decide) ?_
        refine lv_istore (lv' := [(4, .int (-9 : Int32)), (3, .int (0 : Int32)), (0, .ref (aD g 55)), (1, .int x1), (2, .int x2)]) hx hb dX6_dues_86 hl (by decide) rfl (fun ls hl => ?_)
        refine lv_iconst (v := (1 : Int32)) hx hb dX6_dues_88 (by decide) ?_
        refine lv_istore (lv' := [(5, .int (1 : Int32)), (4, .int (-9 : Int32)), (3, .int (0 : Int32)), (0, .ref (aD g 55)), (1, .int x1), (2, .int x2)]) hx hb dX6_dues_89 hl (by decide) rfl (fun ls hl => ?_)
        exact w_91 fu x2 (0 : Int32) (-9 : Int32) (1 : Int32) u _ _ _ hP hS (lv_sub hl [3, 5, 2, 1, 0] rfl) hf
      rw [if_neg c_5] at hf
      refine lv_aload_n hx hb dX6_dues_38 rfl (lv_at hl 0 rfl) ?_
      refine lv_iload_n hx hb dX6_dues_39 rfl (lv_at hl 1 rfl) ?_
      refine lv_iload_n hx hb dX6_dues_40 rfl (lv_at hl 3 rfl) ?_
      obtain ⟨q_19, hq_19, hf⟩ := bind_ex hf
      refine r_Vi (As := [.int x1, .int x3]) (rest := []) (k := 55) (ci := 5) ⟨hx, hb, hml, hown, hts⟩ hC hP hS (by decide) rfl (by decide) rfl (c_X6_rowAt l g u x1 x3 hq_19) (cwV 2 hts gX6_dues_X6_rowAt rfl rfl rfl (by decide +kernel) ⟨(Nat.le_trans (Nat.le_of_ble_eq_true rfl) hRf), (Nat.le_trans (Nat.le_of_ble_eq_true rfl) hRl)⟩) rfl hl.1 rfl (Nat.le_of_ble_eq_true rfl) dX6_dues_41 (fun H locs hP hS => ?_)
      refine lv_istore (lv' := [(4, .int q_19), (0, .ref (aD g 55)), (1, .int x1), (2, .int x2), (3, .int x3)]) hx hb dX6_dues_44 hl (by decide) rfl (fun ls hl => ?_)
      refine lv_iload hx hb dX6_dues_46 (lv_at hl 0 rfl) ?_
      refine r_Si (As := [.int q_19]) (rest := []) ⟨hx, hb, hml, hown, hts⟩ hC hP hS (c_X6_isPart l g u q_19 rfl) (va_cwS 1 hts gX6_dues_X6_isPart rfl rfl rfl (by decide +kernel) ⟨(Nat.le_trans (Nat.le_of_ble_eq_true rfl) hRf), (Nat.le_trans (Nat.le_of_ble_eq_true rfl) hRl)⟩) rfl hl.1 rfl (Nat.le_of_ble_eq_true rfl) dX6_dues_48 (fun H locs hP hS => ?_)
      refine lv_if_eq (tgt := 63) hx hb dX6_dues_51 (by decide) (fun c_20 => ?_) (fun c_20 => ?_)
      · rw [if_pos c_20] at hf
        exact w_63 u _ _ _ hP hS (lv_sub hl [1] rfl) hf
      rw [if_neg c_20] at hf
      refine lv_iload_n hx hb dX6_dues_54 rfl (lv_at hl 3 rfl) ?_
      refine lv_iload hx hb dX6_dues_55 (lv_at hl 0 rfl) ?_
      refine r_Si (As := [.int x2, .int q_19]) (rest := []) ⟨hx, hb, hml, hown, hts⟩ hC hP hS (c_X6_has l g u x2 q_19 rfl) (va_cwS 2 hts gX6_dues_X6_has rfl rfl rfl (by decide +kernel) ⟨(Nat.le_trans (Nat.le_of_ble_eq_true rfl) hRf), (Nat.le_trans (Nat.le_of_ble_eq_true rfl) hRl)⟩) rfl hl.1 rfl (Nat.le_of_ble_eq_true rfl) dX6_dues_57 (fun H locs hP hS => ?_)
      refine lv_if_eq (tgt := 69) hx hb dX6_dues_60 (by decide) (fun c_22 => ?_) (fun c_22 => ?_)
      · rw [if_pos c_22] at hf
        refine lv_iload_n hx hb dX6_dues_69 rfl (lv_at hl 3 rfl) ?_
        refine lv_iconst (v := (1 : Int32)) hx hb dX6_dues_70 (by decide) ?_
        refine lv_iload hx hb dX6_dues_71 (lv_at hl 0 rfl) ?_
        refine lv_ishl hx hb dX6_dues_73 ?_
        refine lv_ior hx hb dX6_dues_74 ?_
        obtain ⟨x2_23, ex2_23, hf⟩ := lt_ex hf
        refine r_nm ex2_23 ?_
        refine lv_istore_n (lv' := [(2, .int x2_23), (4, .int q_19), (0, .ref (aD g 55)), (1, .int x1), (3, .int x3)]) hx hb dX6_dues_75 rfl hl (by decide) rfl (fun ls hl => ?_)
        obtain ⟨x3_24, ex3_24, hf⟩ := lt_ex hf
        refine lv_iinc (v := x3_24) (lv' := [(3, .int x3_24), (2, .int x2_23), (4, .int q_19), (0, .ref (aD g 55)), (1, .int x1)]) hx hb dX6_dues_76 hl (k := 4) rfl (by rw [ex3_24]; rfl) (by decide) rfl (fun ls hl => ?_)
        refine lv_goto (tgt := 28) hx hb dX6_dues_79 (by decide) ?_
        exact ih x1 x2_23 x3_24 u _ _ _ hP hS (lv_sub hl [3, 4, 1, 0] rfl) hf
      rw [if_neg c_22] at hf
      exact w_63 u _ _ _ hP hS (lv_sub hl [1] rfl) hf
  unfold f_X6_dues at hf
  refine lv_iload_n hx hb dX6_dues_0 rfl (lv_at hl 1 rfl) ?_
  refine r_Si (As := [.int x1]) (rest := []) ⟨hx, hb, hml, hown, hts⟩ hC hP hS (c_X6_isRow l g u x1 rfl) (va_cwS 1 hts gX6_dues_X6_isRow rfl rfl rfl (by decide +kernel) ⟨(Nat.le_trans (Nat.le_of_ble_eq_true rfl) hRf), (Nat.le_trans (Nat.le_of_ble_eq_true rfl) hRl)⟩) rfl hl.1 rfl (Nat.le_of_ble_eq_true rfl) dX6_dues_1 (fun H locs hP hS => ?_)
  refine lv_if_ne (tgt := 9) hx hb dX6_dues_4 (by decide) (fun c_1 => ?_) (fun c_1 => ?_)
  · rw [if_neg c_1] at hf
    refine lv_aload_n hx hb dX6_dues_9 rfl (lv_at hl 0 rfl) ?_
    refine r_get hx hb hts hown hC hP hinX6 55 (by decide) (ci := 5) rfl (by decide) rfl 5 (by decide) (hts (.fieldLink RX6 17 "LoafPartsModel" "sizes" "[I") (by decide +kernel)) (v := .ref (aD g 57)) rfl dX6_dues_10 ?_
    refine lv_iload_n hx hb dX6_dues_13 rfl (lv_at hl 1 rfl) ?_
    obtain ⟨hi_2, hf⟩ := ix_ex hf
    refine r_ald hx hb hC hP 57 (by decide) rfl hi_2 dX6_dues_14 ?_
    refine lv_if_ge (tgt := 24) hx hb dX6_dues_15 (by decide) (fun c_3 => ?_) (fun c_3 => ?_)
    · rw [if_pos c_3] at hf
      refine lv_iconst (v := (0 : Int32)) hx hb dX6_dues_24 (by decide) ?_
      refine lv_istore_n (lv' := [(2, .int (0 : Int32)), (0, .ref (aD g 55)), (1, .int x1)]) hx hb dX6_dues_25 rfl hl (by decide) rfl (fun ls hl => ?_)
      refine lv_iconst (v := (0 : Int32)) hx hb dX6_dues_26 (by decide) ?_
      refine lv_istore_n (lv' := [(3, .int (0 : Int32)), (2, .int (0 : Int32)), (0, .ref (aD g 55)), (1, .int x1)]) hx hb dX6_dues_27 rfl hl (by decide) rfl (fun ls hl => ?_)
      exact w_28 fu x1 (0 : Int32) (0 : Int32) u _ _ _ hP hS (lv_sub hl [2, 3, 1, 0] rfl) hf
    rw [if_neg c_3] at hf
    refine lv_aload_n hx hb dX6_dues_18 rfl (lv_at hl 0 rfl) ?_
    refine lv_iconst (v := (1 : Int32)) hx hb dX6_dues_19 (by decide) ?_
    obtain ⟨q_25, hq_25, hf⟩ := bind_ex hf
    refine r_Vi (r := q_25.1) (u' := q_25.2) (As := [.int (1 : Int32)]) (rest := []) (k := 55) (ci := 5) ⟨hx, hb, hml, hown, hts⟩ hC hP hS (by decide) rfl (by decide) rfl (c_X6_meets l g u (1 : Int32) hq_25) (cwV 1 hts gX6_dues_X6_meets rfl rfl rfl (by decide +kernel) ⟨(Nat.le_trans (Nat.le_of_ble_eq_true rfl) hRf), (Nat.le_trans (Nat.le_of_ble_eq_true rfl) hRl)⟩) rfl hl.1 rfl (Nat.le_of_ble_eq_true rfl) dX6_dues_20 (fun H locs hP hS => ?_)
    obtain ⟨rfl, rfl⟩ := sp2 hf
    exact kret _ _ _ _ dX6_dues_23 hP hS trivial
  rw [if_pos c_1] at hf
  refine lv_iconst (v := (-1 : Int32)) hx hb dX6_dues_7 (by decide) ?_
  obtain ⟨rfl, rfl⟩ := sp2 hf
  exact kret _ _ _ _ dX6_dues_8 hP hS trivial
set_option maxHeartbeats 4000000 in
set_option maxRecDepth 100000 in
theorem c_X6_needPairs (l : Launch) (g : GG) (u : UU) (x1 : Int32) {r : Int32} {u' : UU} (hf : f_X6_needPairs x1 u = some (r, u')) : Ci l g 55 20 yX6_needPairs wsX6_needPairs 2 42 [.ref (aD g 55), .int x1] u r u' := by
  refine ct_i (cc := cX6_needPairs) (maxL := 4) (by decide) rfl (Nat.le_of_ble_eq_true rfl) ?_
  intro p e s m args below meth c R Q ls hx hb hml hown hts hC hP hl hRf hRl kret hS
  have hown : s.vm.findClass RX6 = some m.cls := hown
  have hl : lv_has ls 4 [(0, .ref (aD g 55)), (1, .int x1)] := hl
  have hinX6 : ∀ w ∈ u_ws RX6 TX6 34, w ∈ wsX6_needPairs := by decide +kernel
  have w_92 : ∀ (k_45 : Int32 → Int32 → Int32 → UU → Option (Int32 × UU)) (K_45 : ∀ (x1 : Int32) (x2 : Int32) (x3 : Int32) (u : UU) (H : Heap) (locs : List Loc) (ls : Array Slot), Ps g 55 20 u H → va_S (aA g) s.heap H locs → lv_has ls 4 [(0, .ref (aD g 55)), (1, .int x1), (2, .int x2), (3, .int x3)] → k_45 x1 x2 x3 u = some (r, u') → W p l e R s m args below meth c H locs 0 0 Q (F0 m 45 ls [])), ∀ (x1 : Int32) (x3 : Int32) (t0 : Int32) (u : UU) (H : Heap) (locs : List Loc) (ls : Array Slot), Ps g 55 20 u H → va_S (aA g) s.heap H locs → lv_has ls 4 [(0, .ref (aD g 55)), (1, .int x1), (3, .int x3)] → f_X6_needPairs_92 k_45 x1 x3 t0 u = some (r, u') → W p l e R s m args below meth c H locs 0 0 Q (F0 m 92 ls [.int t0]) := by
    intro k_45 K_45
    intro x1 x3 t0 u H locs ls hP hS hl hf
    unfold f_X6_needPairs_92 at hf
    refine lv_istore_n (lv' := [(2, .int t0), (0, .ref (aD g 55)), (1, .int x1), (3, .int x3)]) hx hb dX6_needPairs_92 rfl hl (by decide) rfl (fun ls hl => ?_)
    obtain ⟨x3_11, ex3_11, hf⟩ := lt_ex hf
    refine lv_iinc (v := x3_11) (lv' := [(3, .int x3_11), (2, .int t0), (0, .ref (aD g 55)), (1, .int x1)]) hx hb dX6_needPairs_93 hl (k := 3) rfl (by rw [ex3_11]; rfl) (by decide) rfl (fun ls hl => ?_)
    refine lv_goto (tgt := 45) hx hb dX6_needPairs_96 (by decide) ?_
    exact K_45 x1 t0 x3_11 u _ _ _ hP hS (lv_sub hl [2, 3, 1, 0] rfl) hf
  have w_91 : ∀ (k_45 : Int32 → Int32 → Int32 → UU → Option (Int32 × UU)) (K_45 : ∀ (x1 : Int32) (x2 : Int32) (x3 : Int32) (u : UU) (H : Heap) (locs : List Loc) (ls : Array Slot), Ps g 55 20 u H → va_S (aA g) s.heap H locs → lv_has ls 4 [(0, .ref (aD g 55)), (1, .int x1), (2, .int x2), (3, .int x3)] → k_45 x1 x2 x3 u = some (r, u') → W p l e R s m args below meth c H locs 0 0 Q (F0 m 45 ls [])), ∀ (x1 : Int32) (x3 : Int32) (u : UU) (H : Heap) (locs : List Loc) (ls : Array Slot), Ps g 55 20 u H → va_S (aA g) s.heap H locs → lv_has ls 4 [(0, .ref (aD g 55)), (1, .int x1), (3, .int x3)] → f_X6_needPairs_91 k_45 x1 x3 u = some (r, u') → W p l e R s m args below meth c H locs 0 0 Q (F0 m 91 ls []) := by
    intro k_45 K_45
    intro x1 x3 u H locs ls hP hS hl hf
    unfold f_X6_needPairs_91 at hf
    refine lv_iconst (v := (0 : Int32)) hx hb dX6_needPairs_91 (by decide) ?_
    exact w_92 (k_45) K_45 x1 x3 (0 : Int32) u _ _ _ hP hS (lv_sub hl [0, 1, 2] rfl) hf
  have w_45 : ∀ (n : Nat), ∀ (x1 : Int32) (x2 : Int32) (x3 : Int32) (u : UU) (H : Heap) (locs : List Loc) (ls : Array Slot), Ps g 55 20 u H → va_S (aA g) s.heap H locs → lv_has ls 4 [(0, .ref (aD g 55)), (1, .int x1), (2, .int x2), (3, .int x3)] → f_X6_needPairs_45 n x1 x2 x3 u = some (r, u') → W p l e R s m args below meth c H locs 0 0 Q (F0 m 45 ls []) := by
    intro n
    induction n with
    | zero =>
      intro x1 x2 x3 u H locs ls hP hS hl hf
      rw [f_X6_needPairs_45] at hf
      cases hf
    | succ n ih =>
      intro x1 x2 x3 u H locs ls hP hS hl hf
      rw [f_X6_needPairs_45] at hf
      refine lv_iload_n hx hb dX6_needPairs_45 rfl (lv_at hl 3 rfl) ?_
      refine lv_aload_n hx hb dX6_needPairs_46 rfl (lv_at hl 0 rfl) ?_
      refine r_get hx hb hts hown hC hP hinX6 55 (by decide) (ci := 5) rfl (by decide) rfl 5 (by decide) (hts (.fieldLink RX6 17 "LoafPartsModel" "sizes" "[I") (by decide +kernel)) (v := .ref (aD g 57)) rfl dX6_needPairs_47 ?_
      refine lv_iload_n hx hb dX6_needPairs_50 rfl (lv_at hl 1 rfl) ?_
      obtain ⟨hi_6, hf⟩ := ix_ex hf
      refine r_ald hx hb hC hP 57 (by decide) rfl hi_6 dX6_needPairs_51 ?_
      refine lv_icmp_ge (tgt := 99) hx hb dX6_needPairs_52 (by decide) (fun c_7 => ?_) (fun c_7 => ?_)
      · rw [if_pos c_7] at hf
        refine lv_iload_n hx hb dX6_needPairs_99 rfl (lv_at hl 2 rfl) ?_
        refine lv_if_eq (tgt := 107) hx hb dX6_needPairs_100 (by decide) (fun c_8 => ?_) (fun c_8 => ?_)
        · rw [if_pos c_8] at hf
          refine lv_aload_n hx hb dX6_needPairs_107 rfl (lv_at hl 0 rfl) ?_
          refine lv_iconst (v := (3 : Int32)) hx hb dX6_needPairs_108 (by decide) ?_
          obtain ⟨q_9, hq_9, hf⟩ := bind_ex hf
          refine r_Vi (r := q_9.1) (u' := q_9.2) (As := [.int (3 : Int32)]) (rest := []) (k := 55) (ci := 5) ⟨hx, hb, hml, hown, hts⟩ hC hP hS (by decide) rfl (by decide) rfl (c_X6_meets l g u (3 : Int32) hq_9) (cwV 1 hts gX6_needPairs_X6_meets rfl rfl rfl (by decide +kernel) ⟨(Nat.le_trans (Nat.le_of_ble_eq_true rfl) hRf), (Nat.le_trans (Nat.le_of_ble_eq_true rfl) hRl)⟩) rfl hl.1 rfl (Nat.le_of_ble_eq_true rfl) dX6_needPairs_109 (fun H locs hP hS => ?_)
          obtain ⟨rfl, rfl⟩ := sp2 hf
          exact kret _ _ _ _ dX6_needPairs_112 hP hS trivial
        rw [if_neg c_8] at hf
        refine lv_iconst (v := (0 : Int32)) hx hb dX6_needPairs_103 (by decide) ?_
        refine lv_goto (tgt := 112) hx hb dX6_needPairs_104 (by decide) ?_
        obtain ⟨rfl, rfl⟩ := sp2 hf
        exact kret _ _ _ _ dX6_needPairs_112 hP hS trivial
      rw [if_neg c_7] at hf
      refine lv_iload_n hx hb dX6_needPairs_55 rfl (lv_at hl 2 rfl) ?_
      refine lv_if_eq (tgt := 91) hx hb dX6_needPairs_56 (by decide) (fun c_10 => ?_) (fun c_10 => ?_)
      · rw [if_pos c_10] at hf
        exact w_91 (f_X6_needPairs_45 n) ih x1 x3 u _ _ _ hP hS (lv_sub hl [0, 1, 3] rfl) hf
      rw [if_neg c_10] at hf
      refine lv_aload_n hx hb dX6_needPairs_59 rfl (lv_at hl 0 rfl) ?_
      refine lv_iload_n hx hb dX6_needPairs_60 rfl (lv_at hl 1 rfl) ?_
      refine lv_iload_n hx hb dX6_needPairs_61 rfl (lv_at hl 3 rfl) ?_
      obtain ⟨q_12, hq_12, hf⟩ := bind_ex hf
      refine r_Vi (As := [.int x1, .int x3]) (rest := []) (k := 55) (ci := 5) ⟨hx, hb, hml, hown, hts⟩ hC hP hS (by decide) rfl (by decide) rfl (c_X6_rowAt l g u x1 x3 hq_12) (cwV 2 hts gX6_needPairs_X6_rowAt rfl rfl rfl (by decide +kernel) ⟨(Nat.le_trans (Nat.le_of_ble_eq_true rfl) hRf), (Nat.le_trans (Nat.le_of_ble_eq_true rfl) hRl)⟩) rfl hl.1 rfl (Nat.le_of_ble_eq_true rfl) dX6_needPairs_62 (fun H locs hP hS => ?_)
      refine r_Si (As := [.int q_12]) (rest := []) ⟨hx, hb, hml, hown, hts⟩ hC hP hS (c_X6_isPart l g u q_12 rfl) (va_cwS 1 hts gX6_needPairs_X6_isPart rfl rfl rfl (by decide +kernel) ⟨(Nat.le_trans (Nat.le_of_ble_eq_true rfl) hRf), (Nat.le_trans (Nat.le_of_ble_eq_true rfl) hRl)⟩) rfl hl.1 rfl (Nat.le_of_ble_eq_true rfl) dX6_needPairs_65 (fun H locs hP hS => ?_)
      refine lv_if_eq (tgt := 91) hx hb dX6_needPairs_68 (by decide) (fun c_13 => ?_) (fun c_13 => ?_)
      · rw [if_pos c_13] at hf
        exact w_91 (f_X6_needPairs_45 n) ih x1 x3 u _ _ _ hP hS (lv_sub hl [0, 1, 3] rfl) hf
      rw [if_neg c_13] at hf
      refine lv_aload_n hx hb dX6_needPairs_71 rfl (lv_at hl 0 rfl) ?_
      refine lv_iload_n hx hb dX6_needPairs_72 rfl (lv_at hl 1 rfl) ?_
      refine lv_iload_n hx hb dX6_needPairs_73 rfl (lv_at hl 3 rfl) ?_
      refine lv_iconst (v := (1 : Int32)) hx hb dX6_needPairs_74 (by decide) ?_
      refine lv_iadd hx hb dX6_needPairs_75 ?_
      obtain ⟨q_14, hq_14, hf⟩ := bind_ex hf
      refine r_Vi (As := [.int x1, .int (x3 + (1 : Int32))]) (rest := []) (k := 55) (ci := 5) ⟨hx, hb, hml, hown, hts⟩ hC hP hS (by decide) rfl (by decide) rfl (c_X6_rowAt l g u x1 (x3 + (1 : Int32)) hq_14) (cwV 2 hts gX6_needPairs_X6_rowAt rfl rfl rfl (by decide +kernel) ⟨(Nat.le_trans (Nat.le_of_ble_eq_true rfl) hRf), (Nat.le_trans (Nat.le_of_ble_eq_true rfl) hRl)⟩) rfl hl.1 rfl (Nat.le_of_ble_eq_true rfl) dX6_needPairs_76 (fun H locs hP hS => ?_)
      refine lv_iconst (v := (0 : Int32)) hx hb dX6_needPairs_79 (by decide) ?_
      refine lv_iconst (v := (1 : Int32)) hx hb dX6_needPairs_80 (by decide) ?_
      refine r_Si (As := [.int q_14, .int (0 : Int32), .int (1 : Int32)]) (rest := []) ⟨hx, hb, hml, hown, hts⟩ hC hP hS (c_X6_in l g u q_14 (0 : Int32) (1 : Int32) rfl) (va_cwS 3 hts gX6_needPairs_X6_in rfl rfl rfl (by decide +kernel) ⟨(Nat.le_trans (Nat.le_of_ble_eq_true rfl) hRf), (Nat.le_trans (Nat.le_of_ble_eq_true rfl) hRl)⟩) rfl hl.1 rfl (Nat.le_of_ble_eq_true rfl) dX6_needPairs_81 (fun H locs hP hS => ?_)
      refine lv_if_eq (tgt := 91) hx hb dX6_needPairs_84 (by decide) (fun c_15 => ?_) (fun c_15 => ?_)
      · rw [if_pos c_15] at hf
        exact w_91 (f_X6_needPairs_45 n) ih x1 x3 u _ _ _ hP hS (lv_sub hl [0, 1, 3] rfl) hf
      rw [if_neg c_15] at hf
      refine lv_iconst (v := (1 : Int32)) hx hb dX6_needPairs_87 (by decide) ?_
      refine lv_goto (tgt := 92) hx hb dX6_needPairs_88 (by decide) ?_
      exact w_92 (f_X6_needPairs_45 n) ih x1 x3 (1 : Int32) u _ _ _ hP hS (lv_sub hl [0, 1, 3] rfl) hf
  unfold f_X6_needPairs at hf
  refine lv_iload_n hx hb dX6_needPairs_0 rfl (lv_at hl 1 rfl) ?_
  refine r_Si (As := [.int x1]) (rest := []) ⟨hx, hb, hml, hown, hts⟩ hC hP hS (c_X6_isRow l g u x1 rfl) (va_cwS 1 hts gX6_needPairs_X6_isRow rfl rfl rfl (by decide +kernel) ⟨(Nat.le_trans (Nat.le_of_ble_eq_true rfl) hRf), (Nat.le_trans (Nat.le_of_ble_eq_true rfl) hRl)⟩) rfl hl.1 rfl (Nat.le_of_ble_eq_true rfl) dX6_needPairs_1 (fun H locs hP hS => ?_)
  refine lv_if_ne (tgt := 9) hx hb dX6_needPairs_4 (by decide) (fun c_1 => ?_) (fun c_1 => ?_)
  · rw [if_neg c_1] at hf
    refine lv_aload_n hx hb dX6_needPairs_9 rfl (lv_at hl 0 rfl) ?_
    refine r_get hx hb hts hown hC hP hinX6 55 (by decide) (ci := 5) rfl (by decide) rfl 5 (by decide) (hts (.fieldLink RX6 17 "LoafPartsModel" "sizes" "[I") (by decide +kernel)) (v := .ref (aD g 57)) rfl dX6_needPairs_10 ?_
    refine lv_iload_n hx hb dX6_needPairs_13 rfl (lv_at hl 1 rfl) ?_
    obtain ⟨hi_2, hf⟩ := ix_ex hf
    refine r_ald hx hb hC hP 57 (by decide) rfl hi_2 dX6_needPairs_14 ?_
    refine lv_if_ge (tgt := 24) hx hb dX6_needPairs_15 (by decide) (fun c_3 => ?_) (fun c_3 => ?_)
    · rw [if_pos c_3] at hf
      refine lv_aload_n hx hb dX6_needPairs_24 rfl (lv_at hl 0 rfl) ?_
      refine r_get hx hb hts hown hC hP hinX6 55 (by decide) (ci := 5) rfl (by decide) rfl 5 (by decide) (hts (.fieldLink RX6 17 "LoafPartsModel" "sizes" "[I") (by decide +kernel)) (v := .ref (aD g 57)) rfl dX6_needPairs_25 ?_
      refine lv_iload_n hx hb dX6_needPairs_28 rfl (lv_at hl 1 rfl) ?_
      obtain ⟨hi_4, hf⟩ := ix_ex hf
      refine r_ald hx hb hC hP 57 (by decide) rfl hi_4 dX6_needPairs_29 ?_
      refine lv_iconst (v := (2 : Int32)) hx hb dX6_needPairs_30 (by decide) ?_
      refine lv_irem hx hb dX6_needPairs_31 (by decide) ?_
      refine lv_if_eq (tgt := 41) hx hb dX6_needPairs_32 (by decide) (fun c_5 => ?_) (fun c_5 => ?_)
      · rw [if_pos c_5] at hf
        refine lv_iconst (v := (1 : Int32)) hx hb dX6_needPairs_41 (by decide) ?_
        refine lv_istore_n (lv' := [(2, .int (1 : Int32)), (0, .ref (aD g 55)), (1, .int x1)]) hx hb dX6_needPairs_42 rfl hl (by decide) rfl (fun ls hl => ?_)
        refine lv_iconst (v := (0 : Int32)) hx hb dX6_needPairs_43 (by decide) ?_
        refine lv_istore_n (lv' := [(3, .int (0 : Int32)), (2, .int (1 : Int32)), (0, .ref (aD g 55)), (1, .int x1)]) hx hb dX6_needPairs_44 rfl hl (by decide) rfl (fun ls hl => ?_)
        exact w_45 fu x1 (1 : Int32) (0 : Int32) u _ _ _ hP hS (lv_sub hl [2, 3, 1, 0] rfl) hf
      rw [if_neg c_5] at hf
      refine lv_aload_n hx hb dX6_needPairs_35 rfl (lv_at hl 0 rfl) ?_
      refine lv_iconst (v := (5 : Int32)) hx hb dX6_needPairs_36 (by decide) ?_
      obtain ⟨q_16, hq_16, hf⟩ := bind_ex hf
      refine r_Vi (r := q_16.1) (u' := q_16.2) (As := [.int (5 : Int32)]) (rest := []) (k := 55) (ci := 5) ⟨hx, hb, hml, hown, hts⟩ hC hP hS (by decide) rfl (by decide) rfl (c_X6_meets l g u (5 : Int32) hq_16) (cwV 1 hts gX6_needPairs_X6_meets rfl rfl rfl (by decide +kernel) ⟨(Nat.le_trans (Nat.le_of_ble_eq_true rfl) hRf), (Nat.le_trans (Nat.le_of_ble_eq_true rfl) hRl)⟩) rfl hl.1 rfl (Nat.le_of_ble_eq_true rfl) dX6_needPairs_37 (fun H locs hP hS => ?_)
      obtain ⟨rfl, rfl⟩ := sp2 hf
      exact kret _ _ _ _ dX6_needPairs_40 hP hS trivial
    rw [if_neg c_3] at hf
    refine lv_aload_n hx hb dX6_needPairs_18 rfl (lv_at hl 0 rfl) ?_
    refine lv_iconst (v := (1 : Int32)) hx hb dX6_needPairs_19 (by decide) ?_
    obtain ⟨q_17, hq_17, hf⟩ := bind_ex hf
    refine r_Vi (r := q_17.1) (u' := q_17.2) (As := [.int (1 : Int32)]) (rest := []) (k := 55) (ci := 5) ⟨hx, hb, hml, hown, hts⟩ hC hP hS (by decide) rfl (by decide) rfl (c_X6_meets l g u (1 : Int32) hq_17) (cwV 1 hts gX6_needPairs_X6_meets rfl rfl rfl (by decide +kernel) ⟨(Nat.le_trans (Nat.le_of_ble_eq_true rfl) hRf), (Nat.le_trans (Nat.le_of_ble_eq_true rfl) hRl)⟩) rfl hl.1 rfl (Nat.le_of_ble_eq_true rfl) dX6_needPairs_20 (fun H locs hP hS => ?_)
    obtain ⟨rfl, rfl⟩ := sp2 hf
    exact kret _ _ _ _ dX6_needPairs_23 hP hS trivial
  rw [if_pos c_1] at hf
  refine lv_iconst (v := (-1 : Int32)) hx hb dX6_needPairs_7 (by decide) ?_
  obtain ⟨rfl, rfl⟩ := sp2 hf
  exact kret _ _ _ _ dX6_needPairs_8 hP hS trivial
set_option maxHeartbeats 4000000 in
set_option maxRecDepth 100000 in
theorem c_X6_kindsBy (l : Launch) (g : GG) (u : UU) (x1 : Int32) {r : Int32} (hf : f_X6_kindsBy x1 u = some r) : Ci l g 55 20 yX6_kindsBy wsX6_kindsBy 1 22 [.ref (aD g 55), .int x1] u r u := by
  refine ct_i (cc := cX6_kindsBy) (maxL := 6) (by decide) rfl (Nat.le_of_ble_eq_true rfl) ?_
  intro p e s m args below meth c R Q ls hx hb hml hown hts hC hP hl hRf hRl kret hS
  have hown : s.vm.findClass RX6 = some m.cls := hown
  have hl : lv_has ls 6 [(0, .ref (aD g 55)), (1, .int x1)] := hl
  have hinX6 : ∀ w ∈ u_ws RX6 TX6 34, w ∈ wsX6_kindsBy := by decide +kernel
  have w_90 : ∀ (k_4 : Int32 → Int32 → Int32 → UU → Option Int32) (K_4 : ∀ (x1 : Int32) (x2 : Int32) (x3 : Int32) (H : Heap) (locs : List Loc) (ls : Array Slot), Ps g 55 20 u H → va_S (aA g) s.heap H locs → lv_has ls 6 [(0, .ref (aD g 55)), (1, .int x1), (2, .int x2), (3, .int x3)] → k_4 x1 x2 x3 u = some r → W p l e R s m args below meth c H locs 0 0 Q (F0 m 4 ls [])), ∀ (x1 : Int32) (x3 : Int32) (t0 : Int32) (t1 : Int32) (H : Heap) (locs : List Loc) (ls : Array Slot), Ps g 55 20 u H → va_S (aA g) s.heap H locs → lv_has ls 6 [(0, .ref (aD g 55)), (1, .int x1), (3, .int x3)] → f_X6_kindsBy_90 k_4 x1 x3 t0 t1 u = some r → W p l e R s m args below meth c H locs 0 0 Q (F0 m 90 ls [.int t0, .int t1]) := by
    intro k_4 K_4
    intro x1 x3 t0 t1 H locs ls hP hS hl hf
    unfold f_X6_kindsBy_90 at hf
    refine lv_ior hx hb dX6_kindsBy_90 ?_
    obtain ⟨x2_5, ex2_5, hf⟩ := lt_ex hf
    refine r_nm ex2_5 ?_
    refine lv_istore_n (lv' := [(2, .int x2_5), (0, .ref (aD g 55)), (1, .int x1), (3, .int x3)]) hx hb dX6_kindsBy_91 rfl hl (by decide) rfl (fun ls hl => ?_)
    obtain ⟨x3_6, ex3_6, hf⟩ := lt_ex hf
    refine lv_iinc (v := x3_6) (lv' := [(3, .int x3_6), (2, .int x2_5), (0, .ref (aD g 55)), (1, .int x1)]) hx hb dX6_kindsBy_92 hl (k := 3) rfl (by rw [ex3_6]; rfl) (by decide) rfl (fun ls hl => ?_)
    refine lv_goto (tgt := 4) hx hb dX6_kindsBy_95 (by decide) ?_
    exact K_4 x1 x2_5 x3_6 _ _ _ hP hS (lv_sub hl [2, 3, 1, 0] rfl) hf
  have w_69 : ∀ (k_4 : Int32 → Int32 → Int32 → UU → Option Int32) (K_4 : ∀ (x1 : Int32) (x2 : Int32) (x3 : Int32) (H : Heap) (locs : List Loc) (ls : Array Slot), Ps g 55 20 u H → va_S (aA g) s.heap H locs → lv_has ls 6 [(0, .ref (aD g 55)), (1, .int x1), (2, .int x2), (3, .int x3)] → k_4 x1 x2 x3 u = some r → W p l e R s m args below meth c H locs 0 0 Q (F0 m 4 ls [])) (k_16 : Int32 → Int32 → Int32 → Int32 → Int32 → UU → Option Int32) (K_16 : ∀ (x1 : Int32) (x2 : Int32) (x3 : Int32) (x4 : Int32) (x5 : Int32) (H : Heap) (locs : List Loc) (ls : Array Slot), Ps g 55 20 u H → va_S (aA g) s.heap H locs → lv_has ls 6 [(0, .ref (aD g 55)), (1, .int x1), (2, .int x2), (3, .int x3), (4, .int x4), (5, .int x5)] → k_16 x1 x2 x3 x4 x5 u = some r → W p l e R s m args below meth c H locs 0 0 Q (F0 m 16 ls [])), ∀ (x1 : Int32) (x2 : Int32) (x3 : Int32) (x5 : Int32) (t0 : Int32) (H : Heap) (locs : List Loc) (ls : Array Slot), Ps g 55 20 u H → va_S (aA g) s.heap H locs → lv_has ls 6 [(0, .ref (aD g 55)), (1, .int x1), (2, .int x2), (3, .int x3), (5, .int x5)] → f_X6_kindsBy_69 k_4 k_16 x1 x2 x3 x5 t0 u = some r → W p l e R s m args below meth c H locs 0 0 Q (F0 m 69 ls [.int t0]) := by
    intro k_4 K_4 k_16 K_16
    intro x1 x2 x3 x5 t0 H locs ls hP hS hl hf
    unfold f_X6_kindsBy_69 at hf
    refine lv_istore (lv' := [(4, .int t0), (0, .ref (aD g 55)), (1, .int x1), (2, .int x2), (3, .int x3), (5, .int x5)]) hx hb dX6_kindsBy_69 hl (by decide) rfl (fun ls hl => ?_)
    obtain ⟨x5_8, ex5_8, hf⟩ := lt_ex hf
    refine lv_iinc (v := x5_8) (lv' := [(5, .int x5_8), (4, .int t0), (0, .ref (aD g 55)), (1, .int x1), (2, .int x2), (3, .int x3)]) hx hb dX6_kindsBy_71 hl (k := 5) rfl (by rw [ex5_8]; rfl) (by decide) rfl (fun ls hl => ?_)
    refine lv_goto (tgt := 16) hx hb dX6_kindsBy_74 (by decide) ?_
    exact K_16 x1 x2 x3 t0 x5_8 _ _ _ hP hS (lv_sub hl [2, 3, 4, 5, 1, 0] rfl) hf
  have w_68 : ∀ (k_4 : Int32 → Int32 → Int32 → UU → Option Int32) (K_4 : ∀ (x1 : Int32) (x2 : Int32) (x3 : Int32) (H : Heap) (locs : List Loc) (ls : Array Slot), Ps g 55 20 u H → va_S (aA g) s.heap H locs → lv_has ls 6 [(0, .ref (aD g 55)), (1, .int x1), (2, .int x2), (3, .int x3)] → k_4 x1 x2 x3 u = some r → W p l e R s m args below meth c H locs 0 0 Q (F0 m 4 ls [])) (k_16 : Int32 → Int32 → Int32 → Int32 → Int32 → UU → Option Int32) (K_16 : ∀ (x1 : Int32) (x2 : Int32) (x3 : Int32) (x4 : Int32) (x5 : Int32) (H : Heap) (locs : List Loc) (ls : Array Slot), Ps g 55 20 u H → va_S (aA g) s.heap H locs → lv_has ls 6 [(0, .ref (aD g 55)), (1, .int x1), (2, .int x2), (3, .int x3), (4, .int x4), (5, .int x5)] → k_16 x1 x2 x3 x4 x5 u = some r → W p l e R s m args below meth c H locs 0 0 Q (F0 m 16 ls [])), ∀ (x1 : Int32) (x2 : Int32) (x3 : Int32) (x5 : Int32) (H : Heap) (locs : List Loc) (ls : Array Slot), Ps g 55 20 u H → va_S (aA g) s.heap H locs → lv_has ls 6 [(0, .ref (aD g 55)), (1, .int x1), (2, .int x2), (3, .int x3), (5, .int x5)] → f_X6_kindsBy_68 k_4 k_16 x1 x2 x3 x5 u = some r → W p l e R s m args below meth c H locs 0 0 Q (F0 m 68 ls []) := by
    intro k_4 K_4 k_16 K_16
    intro x1 x2 x3 x5 H locs ls hP hS hl hf
    unfold f_X6_kindsBy_68 at hf
    refine lv_iconst (v := (0 : Int32)) hx hb dX6_kindsBy_68 (by decide) ?_
    exact w_69 (k_4) K_4 (k_16) K_16 x1 x2 x3 x5 (0 : Int32) _ _ _ hP hS (lv_sub hl [0, 1, 2, 3, 4] rfl) hf
  have w_61 : ∀ (k_4 : Int32 → Int32 → Int32 → UU → Option Int32) (K_4 : ∀ (x1 : Int32) (x2 : Int32) (x3 : Int32) (H : Heap) (locs : List Loc) (ls : Array Slot), Ps g 55 20 u H → va_S (aA g) s.heap H locs → lv_has ls 6 [(0, .ref (aD g 55)), (1, .int x1), (2, .int x2), (3, .int x3)] → k_4 x1 x2 x3 u = some r → W p l e R s m args below meth c H locs 0 0 Q (F0 m 4 ls [])) (k_16 : Int32 → Int32 → Int32 → Int32 → Int32 → UU → Option Int32) (K_16 : ∀ (x1 : Int32) (x2 : Int32) (x3 : Int32) (x4 : Int32) (x5 : Int32) (H : Heap) (locs : List Loc) (ls : Array Slot), Ps g 55 20 u H → va_S (aA g) s.heap H locs → lv_has ls 6 [(0, .ref (aD g 55)), (1, .int x1), (2, .int x2), (3, .int x3), (4, .int x4), (5, .int x5)] → k_16 x1 x2 x3 x4 x5 u = some r → W p l e R s m args below meth c H locs 0 0 Q (F0 m 16 ls [])), ∀ (x1 : Int32) (x2 : Int32) (x3 : Int32) (x5 : Int32) (t0 : Int32) (t1 : Int32) (H : Heap) (locs : List Loc) (ls : Array Slot), Ps g 55 20 u H → va_S (aA g) s.heap H locs → lv_has ls 6 [(0, .ref (aD g 55)), (1, .int x1), (2, .int x2), (3, .int x3), (5, .int x5)] → f_X6_kindsBy_61 k_4 k_16 x1 x2 x3 x5 t0 t1 u = some r → W p l e R s m args below meth c H locs 0 0 Q (F0 m 61 ls [.int t0, .int t1]) := by
    intro k_4 K_4 k_16 K_16
    intro x1 x2 x3 x5 t0 t1 H locs ls hP hS hl hf
    unfold f_X6_kindsBy_61 at hf
    refine lv_icmp_ne (tgt := 68) hx hb dX6_kindsBy_61 (by decide) (fun c_13 => ?_) (fun c_13 => ?_)
    · rw [if_neg c_13] at hf
      exact w_68 (k_4) K_4 (k_16) K_16 x1 x2 x3 x5 _ _ _ hP hS (lv_sub hl [0, 1, 2, 3, 4] rfl) hf
    rw [if_pos c_13] at hf
    refine lv_iconst (v := (1 : Int32)) hx hb dX6_kindsBy_64 (by decide) ?_
    refine lv_goto (tgt := 69) hx hb dX6_kindsBy_65 (by decide) ?_
    exact w_69 (k_4) K_4 (k_16) K_16 x1 x2 x3 x5 (1 : Int32) _ _ _ hP hS (lv_sub hl [0, 1, 2, 3, 4] rfl) hf
  have w_16 : ∀ (k_4 : Int32 → Int32 → Int32 → UU → Option Int32) (K_4 : ∀ (x1 : Int32) (x2 : Int32) (x3 : Int32) (H : Heap) (locs : List Loc) (ls : Array Slot), Ps g 55 20 u H → va_S (aA g) s.heap H locs → lv_has ls 6 [(0, .ref (aD g 55)), (1, .int x1), (2, .int x2), (3, .int x3)] → k_4 x1 x2 x3 u = some r → W p l e R s m args below meth c H locs 0 0 Q (F0 m 4 ls [])) (n : Nat), ∀ (x1 : Int32) (x2 : Int32) (x3 : Int32) (x4 : Int32) (x5 : Int32) (H : Heap) (locs : List Loc) (ls : Array Slot), Ps g 55 20 u H → va_S (aA g) s.heap H locs → lv_has ls 6 [(0, .ref (aD g 55)), (1, .int x1), (2, .int x2), (3, .int x3), (4, .int x4), (5, .int x5)] → f_X6_kindsBy_16 k_4 n x1 x2 x3 x4 x5 u = some r → W p l e R s m args below meth c H locs 0 0 Q (F0 m 16 ls []) := by
    intro k_4 K_4 n
    induction n with
    | zero =>
      intro x1 x2 x3 x4 x5 H locs ls hP hS hl hf
      rw [f_X6_kindsBy_16] at hf
      cases hf
    | succ n ih =>
      intro x1 x2 x3 x4 x5 H locs ls hP hS hl hf
      rw [f_X6_kindsBy_16] at hf
      refine lv_iload hx hb dX6_kindsBy_16 (lv_at hl 5 rfl) ?_
      refine lv_aload_n hx hb dX6_kindsBy_18 rfl (lv_at hl 0 rfl) ?_
      refine r_get hx hb hts hown hC hP hinX6 55 (by decide) (ci := 5) rfl (by decide) rfl 5 (by decide) (hts (.fieldLink RX6 17 "LoafPartsModel" "sizes" "[I") (by decide +kernel)) (v := .ref (aD g 57)) rfl dX6_kindsBy_19 ?_
      refine lv_iload_n hx hb dX6_kindsBy_22 rfl (lv_at hl 1 rfl) ?_
      obtain ⟨hi_2, hf⟩ := ix_ex hf
      refine r_ald hx hb hC hP 57 (by decide) rfl hi_2 dX6_kindsBy_23 ?_
      refine lv_icmp_ge (tgt := 77) hx hb dX6_kindsBy_24 (by decide) (fun c_3 => ?_) (fun c_3 => ?_)
      · rw [if_pos c_3] at hf
        refine lv_iload_n hx hb dX6_kindsBy_77 rfl (lv_at hl 2 rfl) ?_
        refine lv_iload hx hb dX6_kindsBy_78 (lv_at hl 4 rfl) ?_
        refine lv_if_eq (tgt := 89) hx hb dX6_kindsBy_80 (by decide) (fun c_4 => ?_) (fun c_4 => ?_)
        · rw [if_pos c_4] at hf
          refine lv_iconst (v := (0 : Int32)) hx hb dX6_kindsBy_89 (by decide) ?_
          exact w_90 (k_4) K_4 x1 x3 (0 : Int32) x2 _ _ _ hP hS (lv_sub hl [0, 1, 3] rfl) hf
        rw [if_neg c_4] at hf
        refine lv_iconst (v := (1 : Int32)) hx hb dX6_kindsBy_83 (by decide) ?_
        refine lv_iload_n hx hb dX6_kindsBy_84 rfl (lv_at hl 3 rfl) ?_
        refine lv_ishl hx hb dX6_kindsBy_85 ?_
        refine lv_goto (tgt := 90) hx hb dX6_kindsBy_86 (by decide) ?_
        exact w_90 (k_4) K_4 x1 x3 ((1 : Int32) <<< (x3 &&& (31 : Int32))) x2 _ _ _ hP hS (lv_sub hl [0, 1, 3] rfl) hf
      rw [if_neg c_3] at hf
      refine lv_iload hx hb dX6_kindsBy_27 (lv_at hl 4 rfl) ?_
      refine lv_if_eq (tgt := 68) hx hb dX6_kindsBy_29 (by decide) (fun c_7 => ?_) (fun c_7 => ?_)
      · rw [if_pos c_7] at hf
        exact w_68 (k_4) K_4 (f_X6_kindsBy_16 k_4 n) ih x1 x2 x3 x5 _ _ _ hP hS (lv_sub hl [0, 1, 2, 3, 5] rfl) hf
      rw [if_neg c_7] at hf
      refine lv_iload_n hx hb dX6_kindsBy_32 rfl (lv_at hl 3 rfl) ?_
      refine lv_aload_n hx hb dX6_kindsBy_33 rfl (lv_at hl 0 rfl) ?_
      refine lv_iload_n hx hb dX6_kindsBy_34 rfl (lv_at hl 1 rfl) ?_
      refine lv_iload hx hb dX6_kindsBy_35 (lv_at hl 5 rfl) ?_
      obtain ⟨q_9, hq_9, hf⟩ := bind_ex hf
      refine r_Vi (As := [.int x1, .int x5]) (rest := [.int x3]) (k := 55) (ci := 5) ⟨hx, hb, hml, hown, hts⟩ hC hP hS (by decide) rfl (by decide) rfl (c_X6_rowAt l g u x1 x5 hq_9) (cwV 2 hts gX6_kindsBy_X6_rowAt rfl rfl rfl (by decide +kernel) ⟨(Nat.le_trans (Nat.le_of_ble_eq_true rfl) hRf), (Nat.le_trans (Nat.le_of_ble_eq_true rfl) hRl)⟩) rfl hl.1 rfl (Nat.le_of_ble_eq_true rfl) dX6_kindsBy_37 (fun H locs hP hS => ?_)
      obtain ⟨q_10, hq_10, hf⟩ := bind_ex hf
      refine r_Si (As := [.int x3, .int q_9]) (rest := []) ⟨hx, hb, hml, hown, hts⟩ hC hP hS (c_X6_takesAs l g u x3 q_9 hq_10) (va_cwS 2 hts gX6_kindsBy_X6_takesAs rfl rfl rfl (by decide +kernel) ⟨(Nat.le_trans (Nat.le_of_ble_eq_true rfl) hRf), (Nat.le_trans (Nat.le_of_ble_eq_true rfl) hRl)⟩) rfl hl.1 rfl (Nat.le_of_ble_eq_true rfl) dX6_kindsBy_40 (fun H locs hP hS => ?_)
      refine lv_aload_n hx hb dX6_kindsBy_43 rfl (lv_at hl 0 rfl) ?_
      refine lv_iload_n hx hb dX6_kindsBy_44 rfl (lv_at hl 1 rfl) ?_
      refine lv_iload hx hb dX6_kindsBy_45 (lv_at hl 5 rfl) ?_
      refine lv_iconst (v := (1 : Int32)) hx hb dX6_kindsBy_47 (by decide) ?_
      refine lv_iadd hx hb dX6_kindsBy_48 ?_
      obtain ⟨q_11, hq_11, hf⟩ := bind_ex hf
      refine r_Vi (As := [.int x1, .int (x5 + (1 : Int32))]) (rest := [.int q_10]) (k := 55) (ci := 5) ⟨hx, hb, hml, hown, hts⟩ hC hP hS (by decide) rfl (by decide) rfl (c_X6_rowAt l g u x1 (x5 + (1 : Int32)) hq_11) (cwV 2 hts gX6_kindsBy_X6_rowAt rfl rfl rfl (by decide +kernel) ⟨(Nat.le_trans (Nat.le_of_ble_eq_true rfl) hRf), (Nat.le_trans (Nat.le_of_ble_eq_true rfl) hRl)⟩) rfl hl.1 rfl (Nat.le_of_ble_eq_true rfl) dX6_kindsBy_49 (fun H locs hP hS => ?_)
      refine lv_iconst (v := (1 : Int32)) hx hb dX6_kindsBy_52 (by decide) ?_
      refine lv_icmp_ne (tgt := 60) hx hb dX6_kindsBy_53 (by decide) (fun c_12 => ?_) (fun c_12 => ?_)
      · rw [if_neg c_12] at hf
        refine lv_iconst (v := (0 : Int32)) hx hb dX6_kindsBy_60 (by decide) ?_
        exact w_61 (k_4) K_4 (f_X6_kindsBy_16 k_4 n) ih x1 x2 x3 x5 (0 : Int32) q_10 _ _ _ hP hS (lv_sub hl [0, 1, 2, 3, 5] rfl) hf
      rw [if_pos c_12] at hf
      refine lv_iconst (v := (1 : Int32)) hx hb dX6_kindsBy_56 (by decide) ?_
      refine lv_goto (tgt := 61) hx hb dX6_kindsBy_57 (by decide) ?_
      exact w_61 (k_4) K_4 (f_X6_kindsBy_16 k_4 n) ih x1 x2 x3 x5 (1 : Int32) q_10 _ _ _ hP hS (lv_sub hl [0, 1, 2, 3, 5] rfl) hf
  have w_4 : ∀ (n : Nat), ∀ (x1 : Int32) (x2 : Int32) (x3 : Int32) (H : Heap) (locs : List Loc) (ls : Array Slot), Ps g 55 20 u H → va_S (aA g) s.heap H locs → lv_has ls 6 [(0, .ref (aD g 55)), (1, .int x1), (2, .int x2), (3, .int x3)] → f_X6_kindsBy_4 n x1 x2 x3 u = some r → W p l e R s m args below meth c H locs 0 0 Q (F0 m 4 ls []) := by
    intro n
    induction n with
    | zero =>
      intro x1 x2 x3 H locs ls hP hS hl hf
      rw [f_X6_kindsBy_4] at hf
      cases hf
    | succ n ih =>
      intro x1 x2 x3 H locs ls hP hS hl hf
      rw [f_X6_kindsBy_4] at hf
      refine lv_iload_n hx hb dX6_kindsBy_4 rfl (lv_at hl 3 rfl) ?_
      refine lv_bipush (v := (6 : Int32)) hx hb dX6_kindsBy_5 (by decide) ?_
      refine lv_icmp_ge (tgt := 98) hx hb dX6_kindsBy_7 (by decide) (fun c_1 => ?_) (fun c_1 => ?_)
      · rw [if_pos c_1] at hf
        refine lv_iload_n hx hb dX6_kindsBy_98 rfl (lv_at hl 2 rfl) ?_
        obtain rfl := sp1 hf
        exact kret _ _ _ _ dX6_kindsBy_99 hP hS trivial
      rw [if_neg c_1] at hf
      refine lv_iconst (v := (1 : Int32)) hx hb dX6_kindsBy_10 (by decide) ?_
      refine lv_istore (lv' := [(4, .int (1 : Int32)), (0, .ref (aD g 55)), (1, .int x1), (2, .int x2), (3, .int x3)]) hx hb dX6_kindsBy_11 hl (by decide) rfl (fun ls hl => ?_)
      refine lv_iconst (v := (0 : Int32)) hx hb dX6_kindsBy_13 (by decide) ?_
      refine lv_istore (lv' := [(5, .int (0 : Int32)), (4, .int (1 : Int32)), (0, .ref (aD g 55)), (1, .int x1), (2, .int x2), (3, .int x3)]) hx hb dX6_kindsBy_14 hl (by decide) rfl (fun ls hl => ?_)
      exact w_16 (f_X6_kindsBy_4 n) ih fu x1 x2 x3 (1 : Int32) (0 : Int32) _ _ _ hP hS (lv_sub hl [2, 3, 4, 5, 1, 0] rfl) hf
  unfold f_X6_kindsBy at hf
  refine lv_iconst (v := (0 : Int32)) hx hb dX6_kindsBy_0 (by decide) ?_
  refine lv_istore_n (lv' := [(2, .int (0 : Int32)), (0, .ref (aD g 55)), (1, .int x1)]) hx hb dX6_kindsBy_1 rfl hl (by decide) rfl (fun ls hl => ?_)
  refine lv_iconst (v := (0 : Int32)) hx hb dX6_kindsBy_2 (by decide) ?_
  refine lv_istore_n (lv' := [(3, .int (0 : Int32)), (2, .int (0 : Int32)), (0, .ref (aD g 55)), (1, .int x1)]) hx hb dX6_kindsBy_3 rfl hl (by decide) rfl (fun ls hl => ?_)
  exact w_4 fu x1 (0 : Int32) (0 : Int32) _ _ _ hP hS (lv_sub hl [2, 3, 1, 0] rfl) hf
set_option maxHeartbeats 4000000 in
set_option maxRecDepth 100000 in
theorem c_X6_kinds (l : Launch) (g : GG) (u : UU) (x1 : Int32) {r : Int32} {u' : UU} (hf : f_X6_kinds x1 u = some (r, u')) : Ci l g 55 20 yX6_kinds wsX6_kinds 3 65 [.ref (aD g 55), .int x1] u r u' := by
  refine ct_i (cc := cX6_kinds) (maxL := 3) (by decide) rfl (Nat.le_of_ble_eq_true rfl) ?_
  intro p e s m args below meth c R Q ls hx hb hml hown hts hC hP hl hRf hRl kret hS
  have hown : s.vm.findClass RX6 = some m.cls := hown
  have hl : lv_has ls 3 [(0, .ref (aD g 55)), (1, .int x1)] := hl
  unfold f_X6_kinds at hf
  refine lv_aload_n hx hb dX6_kinds_0 rfl (lv_at hl 0 rfl) ?_
  refine lv_iload_n hx hb dX6_kinds_1 rfl (lv_at hl 1 rfl) ?_
  obtain ⟨q_1, hq_1, hf⟩ := bind_ex hf
  refine r_Vi (r := q_1.1) (u' := q_1.2) (As := [.int x1]) (rest := []) (k := 55) (ci := 5) ⟨hx, hb, hml, hown, hts⟩ hC hP hS (by decide) rfl (by decide) rfl (c_X6_needPairs l g u x1 hq_1) (cwV 1 hts gX6_kinds_X6_needPairs rfl rfl rfl (by decide +kernel) ⟨(Nat.le_trans (Nat.le_of_ble_eq_true rfl) hRf), (Nat.le_trans (Nat.le_of_ble_eq_true rfl) hRl)⟩) rfl hl.1 rfl (Nat.le_of_ble_eq_true rfl) dX6_kinds_2 (fun H locs hP hS => ?_)
  refine lv_istore_n (lv' := [(2, .int q_1.1), (0, .ref (aD g 55)), (1, .int x1)]) hx hb dX6_kinds_5 rfl hl (by decide) rfl (fun ls hl => ?_)
  refine lv_iload_n hx hb dX6_kinds_6 rfl (lv_at hl 0 rfl) ?_
  refine lv_if_ge (tgt := 14) hx hb dX6_kinds_7 (by decide) (fun c_2 => ?_) (fun c_2 => ?_)
  · rw [if_pos c_2] at hf
    refine lv_aload_n hx hb dX6_kinds_14 rfl (lv_at hl 1 rfl) ?_
    refine lv_iload_n hx hb dX6_kinds_15 rfl (lv_at hl 2 rfl) ?_
    obtain ⟨q_3, hq_3, hf⟩ := bind_ex hf
    refine r_Vi (As := [.int x1]) (rest := []) (k := 55) (ci := 5) ⟨hx, hb, hml, hown, hts⟩ hC hP hS (by decide) rfl (by decide) rfl (c_X6_kindsBy l g q_1.2 x1 hq_3) (cwV 1 hts gX6_kinds_X6_kindsBy rfl rfl rfl (by decide +kernel) ⟨(Nat.le_trans (Nat.le_of_ble_eq_true rfl) hRf), (Nat.le_trans (Nat.le_of_ble_eq_true rfl) hRl)⟩) rfl hl.1 rfl (Nat.le_of_ble_eq_true rfl) dX6_kinds_16 (fun H locs hP hS => ?_)
    obtain ⟨rfl, rfl⟩ := sp2 hf
    exact kret _ _ _ _ dX6_kinds_19 hP hS trivial
  rw [if_neg c_2] at hf
  refine lv_iload_n hx hb dX6_kinds_10 rfl (lv_at hl 0 rfl) ?_
  refine lv_goto (tgt := 19) hx hb dX6_kinds_11 (by decide) ?_
  obtain ⟨rfl, rfl⟩ := sp2 hf
  exact kret _ _ _ _ dX6_kinds_19 hP hS trivial
set_option maxHeartbeats 4000000 in
set_option maxRecDepth 100000 in
theorem c_X6_test (l : Launch) (g : GG) (u : UU) (x1 : Int32) {r : Int32} {u' : UU} (hf : f_X6_test x1 u = some (r, u')) : Ci l g 55 20 yX6_test wsX6_test 3 65 [.ref (aD g 55), .int x1] u r u' := by
  refine ct_i (cc := cX6_test) (maxL := 9) (by decide) rfl (Nat.le_of_ble_eq_true rfl) ?_
  intro p e s m args below meth c R Q ls hx hb hml hown hts hC hP hl hRf hRl kret hS
  have hown : s.vm.findClass RX6 = some m.cls := hown
  have hl : lv_has ls 9 [(0, .ref (aD g 55)), (1, .int x1)] := hl
  have w_146 : ∀ (k_35 : Int32 → Int32 → Int32 → Int32 → UU → Option (Int32 × UU)) (K_35 : ∀ (x3 : Int32) (x4 : Int32) (x5 : Int32) (x6 : Int32) (u : UU) (H : Heap) (locs : List Loc) (ls : Array Slot), Ps g 55 20 u H → va_S (aA g) s.heap H locs → lv_has ls 9 [(0, .ref (aD g 55)), (3, .int x3), (4, .int x4), (5, .int x5), (6, .int x6)] → k_35 x3 x4 x5 x6 u = some (r, u') → W p l e R s m args below meth c H locs 0 0 Q (F0 m 35 ls [])), ∀ (x3 : Int32) (x4 : Int32) (x6 : Int32) (t0 : Int32) (u : UU) (H : Heap) (locs : List Loc) (ls : Array Slot), Ps g 55 20 u H → va_S (aA g) s.heap H locs → lv_has ls 9 [(0, .ref (aD g 55)), (3, .int x3), (4, .int x4), (6, .int x6)] → f_X6_test_146 k_35 x3 x4 x6 t0 u = some (r, u') → W p l e R s m args below meth c H locs 0 0 Q (F0 m 146 ls [.int t0]) := by
    intro k_35 K_35
    intro x3 x4 x6 t0 u H locs ls hP hS hl hf
    unfold f_X6_test_146 at hf
    refine lv_istore (lv' := [(5, .int t0), (0, .ref (aD g 55)), (3, .int x3), (4, .int x4), (6, .int x6)]) hx hb dX6_test_146 hl (by decide) rfl (fun ls hl => ?_)
    obtain ⟨x6_13, ex6_13, hf⟩ := lt_ex hf
    refine lv_iinc (v := x6_13) (lv' := [(6, .int x6_13), (5, .int t0), (0, .ref (aD g 55)), (3, .int x3), (4, .int x4)]) hx hb dX6_test_148 hl (k := 4) rfl (by rw [ex6_13]; rfl) (by decide) rfl (fun ls hl => ?_)
    refine lv_goto (tgt := 35) hx hb dX6_test_151 (by decide) ?_
    exact K_35 x3 x4 t0 x6_13 u _ _ _ hP hS (lv_sub hl [2, 3, 4, 1, 0] rfl) hf
  have w_130 : ∀ (k_35 : Int32 → Int32 → Int32 → Int32 → UU → Option (Int32 × UU)) (K_35 : ∀ (x3 : Int32) (x4 : Int32) (x5 : Int32) (x6 : Int32) (u : UU) (H : Heap) (locs : List Loc) (ls : Array Slot), Ps g 55 20 u H → va_S (aA g) s.heap H locs → lv_has ls 9 [(0, .ref (aD g 55)), (3, .int x3), (4, .int x4), (5, .int x5), (6, .int x6)] → k_35 x3 x4 x5 x6 u = some (r, u') → W p l e R s m args below meth c H locs 0 0 Q (F0 m 35 ls [])), ∀ (x3 : Int32) (x5 : Int32) (x6 : Int32) (x8 : Int32) (t0 : Int32) (u : UU) (H : Heap) (locs : List Loc) (ls : Array Slot), Ps g 55 20 u H → va_S (aA g) s.heap H locs → lv_has ls 9 [(0, .ref (aD g 55)), (3, .int x3), (5, .int x5), (6, .int x6), (8, .int x8)] → f_X6_test_130 k_35 x3 x5 x6 x8 t0 u = some (r, u') → W p l e R s m args below meth c H locs 0 0 Q (F0 m 130 ls [.int t0]) := by
    intro k_35 K_35
    intro x3 x5 x6 x8 t0 u H locs ls hP hS hl hf
    unfold f_X6_test_130 at hf
    refine lv_istore (lv' := [(4, .int t0), (0, .ref (aD g 55)), (3, .int x3), (5, .int x5), (6, .int x6), (8, .int x8)]) hx hb dX6_test_130 hl (by decide) rfl (fun ls hl => ?_)
    refine lv_iload hx hb dX6_test_132 (lv_at hl 5 rfl) ?_
    refine lv_iload hx hb dX6_test_134 (lv_at hl 3 rfl) ?_
    refine lv_icmp_ge (tgt := 144) hx hb dX6_test_136 (by decide) (fun c_12 => ?_) (fun c_12 => ?_)
    · rw [if_pos c_12] at hf
      refine lv_iload hx hb dX6_test_144 (lv_at hl 3 rfl) ?_
      exact w_146 (k_35) K_35 x3 t0 x6 x5 u _ _ _ hP hS (lv_sub hl [1, 2, 0, 4] rfl) hf
    rw [if_neg c_12] at hf
    refine lv_iload hx hb dX6_test_139 (lv_at hl 5 rfl) ?_
    refine lv_goto (tgt := 146) hx hb dX6_test_141 (by decide) ?_
    exact w_146 (k_35) K_35 x3 t0 x6 x8 u _ _ _ hP hS (lv_sub hl [1, 2, 0, 4] rfl) hf
  have w_114 : ∀ (k_35 : Int32 → Int32 → Int32 → Int32 → UU → Option (Int32 × UU)) (K_35 : ∀ (x3 : Int32) (x4 : Int32) (x5 : Int32) (x6 : Int32) (u : UU) (H : Heap) (locs : List Loc) (ls : Array Slot), Ps g 55 20 u H → va_S (aA g) s.heap H locs → lv_has ls 9 [(0, .ref (aD g 55)), (3, .int x3), (4, .int x4), (5, .int x5), (6, .int x6)] → k_35 x3 x4 x5 x6 u = some (r, u') → W p l e R s m args below meth c H locs 0 0 Q (F0 m 35 ls [])), ∀ (x3 : Int32) (x4 : Int32) (x5 : Int32) (x6 : Int32) (t0 : Int32) (u : UU) (H : Heap) (locs : List Loc) (ls : Array Slot), Ps g 55 20 u H → va_S (aA g) s.heap H locs → lv_has ls 9 [(0, .ref (aD g 55)), (3, .int x3), (4, .int x4), (5, .int x5), (6, .int x6)] → f_X6_test_114 k_35 x3 x4 x5 x6 t0 u = some (r, u') → W p l e R s m args below meth c H locs 0 0 Q (F0 m 114 ls [.int t0]) := by
    intro k_35 K_35
    intro x3 x4 x5 x6 t0 u H locs ls hP hS hl hf
    unfold f_X6_test_114 at hf
    refine lv_istore (lv' := [(8, .int t0), (0, .ref (aD g 55)), (3, .int x3), (4, .int x4), (5, .int x5), (6, .int x6)]) hx hb dX6_test_114 hl (by decide) rfl (fun ls hl => ?_)
    refine lv_iload hx hb dX6_test_116 (lv_at hl 0 rfl) ?_
    refine lv_iload hx hb dX6_test_118 (lv_at hl 4 rfl) ?_
    refine lv_icmp_ge (tgt := 128) hx hb dX6_test_120 (by decide) (fun c_11 => ?_) (fun c_11 => ?_)
    · rw [if_pos c_11] at hf
      refine lv_iload hx hb dX6_test_128 (lv_at hl 3 rfl) ?_
      exact w_130 (k_35) K_35 x3 x5 x6 t0 x4 u _ _ _ hP hS (lv_sub hl [1, 2, 4, 5, 0] rfl) hf
    rw [if_neg c_11] at hf
    refine lv_iload hx hb dX6_test_123 (lv_at hl 5 rfl) ?_
    refine lv_goto (tgt := 130) hx hb dX6_test_125 (by decide) ?_
    exact w_130 (k_35) K_35 x3 x5 x6 t0 x6 u _ _ _ hP hS (lv_sub hl [1, 2, 4, 5, 0] rfl) hf
  have w_81 : ∀ (k_35 : Int32 → Int32 → Int32 → Int32 → UU → Option (Int32 × UU)) (K_35 : ∀ (x3 : Int32) (x4 : Int32) (x5 : Int32) (x6 : Int32) (u : UU) (H : Heap) (locs : List Loc) (ls : Array Slot), Ps g 55 20 u H → va_S (aA g) s.heap H locs → lv_has ls 9 [(0, .ref (aD g 55)), (3, .int x3), (4, .int x4), (5, .int x5), (6, .int x6)] → k_35 x3 x4 x5 x6 u = some (r, u') → W p l e R s m args below meth c H locs 0 0 Q (F0 m 35 ls [])) (k_48 : Int32 → Int32 → Int32 → Int32 → Int32 → Int32 → UU → Option (Int32 × UU)) (K_48 : ∀ (x3 : Int32) (x4 : Int32) (x5 : Int32) (x6 : Int32) (x7 : Int32) (x8 : Int32) (u : UU) (H : Heap) (locs : List Loc) (ls : Array Slot), Ps g 55 20 u H → va_S (aA g) s.heap H locs → lv_has ls 9 [(0, .ref (aD g 55)), (3, .int x3), (4, .int x4), (5, .int x5), (6, .int x6), (7, .int x7), (8, .int x8)] → k_48 x3 x4 x5 x6 x7 x8 u = some (r, u') → W p l e R s m args below meth c H locs 0 0 Q (F0 m 48 ls [])), ∀ (x3 : Int32) (x4 : Int32) (x5 : Int32) (x6 : Int32) (x8 : Int32) (t0 : Int32) (t1 : Int32) (u : UU) (H : Heap) (locs : List Loc) (ls : Array Slot), Ps g 55 20 u H → va_S (aA g) s.heap H locs → lv_has ls 9 [(0, .ref (aD g 55)), (3, .int x3), (4, .int x4), (5, .int x5), (6, .int x6), (8, .int x8)] → f_X6_test_81 k_35 k_48 x3 x4 x5 x6 x8 t0 t1 u = some (r, u') → W p l e R s m args below meth c H locs 0 0 Q (F0 m 81 ls [.int t0, .int t1]) := by
    intro k_35 K_35 k_48 K_48
    intro x3 x4 x5 x6 x8 t0 t1 u H locs ls hP hS hl hf
    unfold f_X6_test_81 at hf
    refine lv_iadd hx hb dX6_test_81 ?_
    obtain ⟨x7_15, ex7_15, hf⟩ := lt_ex hf
    refine r_nm ex7_15 ?_
    refine lv_istore (lv' := [(7, .int x7_15), (0, .ref (aD g 55)), (3, .int x3), (4, .int x4), (5, .int x5), (6, .int x6), (8, .int x8)]) hx hb dX6_test_82 hl (by decide) rfl (fun ls hl => ?_)
    obtain ⟨x8_16, ex8_16, hf⟩ := lt_ex hf
    refine lv_iinc (v := x8_16) (lv' := [(8, .int x8_16), (7, .int x7_15), (0, .ref (aD g 55)), (3, .int x3), (4, .int x4), (5, .int x5), (6, .int x6)]) hx hb dX6_test_84 hl (k := 6) rfl (by rw [ex8_16]; rfl) (by decide) rfl (fun ls hl => ?_)
    refine lv_goto (tgt := 48) hx hb dX6_test_87 (by decide) ?_
    exact K_48 x3 x4 x5 x6 x7_15 x8_16 u _ _ _ hP hS (lv_sub hl [2, 3, 4, 5, 6, 1, 0] rfl) hf
  have w_80 : ∀ (k_35 : Int32 → Int32 → Int32 → Int32 → UU → Option (Int32 × UU)) (K_35 : ∀ (x3 : Int32) (x4 : Int32) (x5 : Int32) (x6 : Int32) (u : UU) (H : Heap) (locs : List Loc) (ls : Array Slot), Ps g 55 20 u H → va_S (aA g) s.heap H locs → lv_has ls 9 [(0, .ref (aD g 55)), (3, .int x3), (4, .int x4), (5, .int x5), (6, .int x6)] → k_35 x3 x4 x5 x6 u = some (r, u') → W p l e R s m args below meth c H locs 0 0 Q (F0 m 35 ls [])) (k_48 : Int32 → Int32 → Int32 → Int32 → Int32 → Int32 → UU → Option (Int32 × UU)) (K_48 : ∀ (x3 : Int32) (x4 : Int32) (x5 : Int32) (x6 : Int32) (x7 : Int32) (x8 : Int32) (u : UU) (H : Heap) (locs : List Loc) (ls : Array Slot), Ps g 55 20 u H → va_S (aA g) s.heap H locs → lv_has ls 9 [(0, .ref (aD g 55)), (3, .int x3), (4, .int x4), (5, .int x5), (6, .int x6), (7, .int x7), (8, .int x8)] → k_48 x3 x4 x5 x6 x7 x8 u = some (r, u') → W p l e R s m args below meth c H locs 0 0 Q (F0 m 48 ls [])), ∀ (x3 : Int32) (x4 : Int32) (x5 : Int32) (x6 : Int32) (x8 : Int32) (t0 : Int32) (u : UU) (H : Heap) (locs : List Loc) (ls : Array Slot), Ps g 55 20 u H → va_S (aA g) s.heap H locs → lv_has ls 9 [(0, .ref (aD g 55)), (3, .int x3), (4, .int x4), (5, .int x5), (6, .int x6), (8, .int x8)] → f_X6_test_80 k_35 k_48 x3 x4 x5 x6 x8 t0 u = some (r, u') → W p l e R s m args below meth c H locs 0 0 Q (F0 m 80 ls [.int t0]) := by
    intro k_35 K_35 k_48 K_48
    intro x3 x4 x5 x6 x8 t0 u H locs ls hP hS hl hf
    unfold f_X6_test_80 at hf
    refine lv_iconst (v := (0 : Int32)) hx hb dX6_test_80 (by decide) ?_
    exact w_81 (k_35) K_35 (k_48) K_48 x3 x4 x5 x6 x8 (0 : Int32) t0 u _ _ _ hP hS (lv_sub hl [0, 1, 2, 3, 4, 5] rfl) hf
  have w_48 : ∀ (k_35 : Int32 → Int32 → Int32 → Int32 → UU → Option (Int32 × UU)) (K_35 : ∀ (x3 : Int32) (x4 : Int32) (x5 : Int32) (x6 : Int32) (u : UU) (H : Heap) (locs : List Loc) (ls : Array Slot), Ps g 55 20 u H → va_S (aA g) s.heap H locs → lv_has ls 9 [(0, .ref (aD g 55)), (3, .int x3), (4, .int x4), (5, .int x5), (6, .int x6)] → k_35 x3 x4 x5 x6 u = some (r, u') → W p l e R s m args below meth c H locs 0 0 Q (F0 m 35 ls [])) (n : Nat), ∀ (x3 : Int32) (x4 : Int32) (x5 : Int32) (x6 : Int32) (x7 : Int32) (x8 : Int32) (u : UU) (H : Heap) (locs : List Loc) (ls : Array Slot), Ps g 55 20 u H → va_S (aA g) s.heap H locs → lv_has ls 9 [(0, .ref (aD g 55)), (3, .int x3), (4, .int x4), (5, .int x5), (6, .int x6), (7, .int x7), (8, .int x8)] → f_X6_test_48 k_35 n x3 x4 x5 x6 x7 x8 u = some (r, u') → W p l e R s m args below meth c H locs 0 0 Q (F0 m 48 ls []) := by
    intro k_35 K_35 n
    induction n with
    | zero =>
      intro x3 x4 x5 x6 x7 x8 u H locs ls hP hS hl hf
      rw [f_X6_test_48] at hf
      cases hf
    | succ n ih =>
      intro x3 x4 x5 x6 x7 x8 u H locs ls hP hS hl hf
      rw [f_X6_test_48] at hf
      refine lv_iload hx hb dX6_test_48 (lv_at hl 6 rfl) ?_
      refine lv_bipush (v := (6 : Int32)) hx hb dX6_test_50 (by decide) ?_
      refine lv_icmp_ge (tgt := 90) hx hb dX6_test_52 (by decide) (fun c_7 => ?_) (fun c_7 => ?_)
      · rw [if_pos c_7] at hf
        refine lv_iload hx hb dX6_test_90 (lv_at hl 5 rfl) ?_
        refine lv_iload_n hx hb dX6_test_92 rfl (lv_at hl 1 rfl) ?_
        obtain ⟨q_8, hq_8, hf⟩ := bind_ex hf
        refine r_Si (As := [.int x3]) (rest := [.int x7]) ⟨hx, hb, hml, hown, hts⟩ hC hP hS (c_X6_bits l g u x3 hq_8) (va_cwS 1 hts gX6_test_X6_bits rfl rfl rfl (by decide +kernel) ⟨(Nat.le_trans (Nat.le_of_ble_eq_true rfl) hRf), (Nat.le_trans (Nat.le_of_ble_eq_true rfl) hRl)⟩) rfl hl.1 rfl (Nat.le_of_ble_eq_true rfl) dX6_test_93 (fun H locs hP hS => ?_)
        refine lv_iload hx hb dX6_test_96 (lv_at hl 5 rfl) ?_
        refine lv_isub hx hb dX6_test_98 ?_
        refine lv_icmp_le (tgt := 107) hx hb dX6_test_99 (by decide) (fun c_9 => ?_) (fun c_9 => ?_)
        · rw [if_pos c_9] at hf
          refine lv_iload_n hx hb dX6_test_107 rfl (lv_at hl 1 rfl) ?_
          obtain ⟨q_10, hq_10, hf⟩ := bind_ex hf
          refine r_Si (As := [.int x3]) (rest := []) ⟨hx, hb, hml, hown, hts⟩ hC hP hS (c_X6_bits l g u x3 hq_10) (va_cwS 1 hts gX6_test_X6_bits rfl rfl rfl (by decide +kernel) ⟨(Nat.le_trans (Nat.le_of_ble_eq_true rfl) hRf), (Nat.le_trans (Nat.le_of_ble_eq_true rfl) hRl)⟩) rfl hl.1 rfl (Nat.le_of_ble_eq_true rfl) dX6_test_108 (fun H locs hP hS => ?_)
          refine lv_iload hx hb dX6_test_111 (lv_at hl 5 rfl) ?_
          refine lv_isub hx hb dX6_test_113 ?_
          exact w_114 (k_35) K_35 x3 x4 x5 x6 (q_10 - x7) u _ _ _ hP hS (lv_sub hl [0, 1, 2, 3, 4] rfl) hf
        rw [if_neg c_9] at hf
        refine lv_iload hx hb dX6_test_102 (lv_at hl 5 rfl) ?_
        refine lv_goto (tgt := 114) hx hb dX6_test_104 (by decide) ?_
        exact w_114 (k_35) K_35 x3 x4 x5 x6 x7 u _ _ _ hP hS (lv_sub hl [0, 1, 2, 3, 4] rfl) hf
      rw [if_neg c_7] at hf
      refine lv_iload hx hb dX6_test_55 (lv_at hl 5 rfl) ?_
      refine lv_iload_n hx hb dX6_test_57 rfl (lv_at hl 1 rfl) ?_
      refine lv_iload hx hb dX6_test_58 (lv_at hl 6 rfl) ?_
      refine r_Si (As := [.int x3, .int x8]) (rest := [.int x7]) ⟨hx, hb, hml, hown, hts⟩ hC hP hS (c_X6_has l g u x3 x8 rfl) (va_cwS 2 hts gX6_test_X6_has rfl rfl rfl (by decide +kernel) ⟨(Nat.le_trans (Nat.le_of_ble_eq_true rfl) hRf), (Nat.le_trans (Nat.le_of_ble_eq_true rfl) hRl)⟩) rfl hl.1 rfl (Nat.le_of_ble_eq_true rfl) dX6_test_60 (fun H locs hP hS => ?_)
      refine lv_if_eq (tgt := 80) hx hb dX6_test_63 (by decide) (fun c_14 => ?_) (fun c_14 => ?_)
      · rw [if_pos c_14] at hf
        exact w_80 (k_35) K_35 (f_X6_test_48 k_35 n) ih x3 x4 x5 x6 x8 x7 u _ _ _ hP hS (lv_sub hl [0, 1, 2, 3, 4, 6] rfl) hf
      rw [if_neg c_14] at hf
      refine lv_iload hx hb dX6_test_66 (lv_at hl 6 rfl) ?_
      refine lv_iload hx hb dX6_test_68 (lv_at hl 4 rfl) ?_
      obtain ⟨q_17, hq_17, hf⟩ := bind_ex hf
      refine r_Si (As := [.int x8, .int x6]) (rest := [.int x7]) ⟨hx, hb, hml, hown, hts⟩ hC hP hS (c_X6_takesAs l g u x8 x6 hq_17) (va_cwS 2 hts gX6_test_X6_takesAs rfl rfl rfl (by decide +kernel) ⟨(Nat.le_trans (Nat.le_of_ble_eq_true rfl) hRf), (Nat.le_trans (Nat.le_of_ble_eq_true rfl) hRl)⟩) rfl hl.1 rfl (Nat.le_of_ble_eq_true rfl) dX6_test_70 (fun H locs hP hS => ?_)
      refine lv_if_eq (tgt := 80) hx hb dX6_test_73 (by decide) (fun c_18 => ?_) (fun c_18 => ?_)
      · rw [if_pos c_18] at hf
        exact w_80 (k_35) K_35 (f_X6_test_48 k_35 n) ih x3 x4 x5 x6 x8 x7 u _ _ _ hP hS (lv_sub hl [0, 1, 2, 3, 4, 6] rfl) hf
      rw [if_neg c_18] at hf
      refine lv_iconst (v := (1 : Int32)) hx hb dX6_test_76 (by decide) ?_
      refine lv_goto (tgt := 81) hx hb dX6_test_77 (by decide) ?_
      exact w_81 (k_35) K_35 (f_X6_test_48 k_35 n) ih x3 x4 x5 x6 x8 (1 : Int32) x7 u _ _ _ hP hS (lv_sub hl [0, 1, 2, 3, 4, 6] rfl) hf
  have w_35 : ∀ (n : Nat), ∀ (x3 : Int32) (x4 : Int32) (x5 : Int32) (x6 : Int32) (u : UU) (H : Heap) (locs : List Loc) (ls : Array Slot), Ps g 55 20 u H → va_S (aA g) s.heap H locs → lv_has ls 9 [(0, .ref (aD g 55)), (3, .int x3), (4, .int x4), (5, .int x5), (6, .int x6)] → f_X6_test_35 n x3 x4 x5 x6 u = some (r, u') → W p l e R s m args below meth c H locs 0 0 Q (F0 m 35 ls []) := by
    intro n
    induction n with
    | zero =>
      intro x3 x4 x5 x6 u H locs ls hP hS hl hf
      rw [f_X6_test_35] at hf
      cases hf
    | succ n ih =>
      intro x3 x4 x5 x6 u H locs ls hP hS hl hf
      rw [f_X6_test_35] at hf
      refine lv_iload hx hb dX6_test_35 (lv_at hl 4 rfl) ?_
      refine lv_bipush (v := (16 : Int32)) hx hb dX6_test_37 (by decide) ?_
      refine lv_icmp_gt (tgt := 154) hx hb dX6_test_39 (by decide) (fun c_5 => ?_) (fun c_5 => ?_)
      · rw [if_pos c_5] at hf
        refine lv_aload_n hx hb dX6_test_154 rfl (lv_at hl 0 rfl) ?_
        refine lv_iload hx hb dX6_test_155 (lv_at hl 3 rfl) ?_
        refine lv_iload hx hb dX6_test_157 (lv_at hl 2 rfl) ?_
        obtain ⟨q_6, hq_6, hf⟩ := bind_ex hf
        refine r_Vi (r := q_6.1) (u' := q_6.2) (As := [.int x5, .int x4]) (rest := []) (k := 55) (ci := 5) ⟨hx, hb, hml, hown, hts⟩ hC hP hS (by decide) rfl (by decide) rfl (c_X6_tells l g u x5 x4 hq_6) (cwV 2 hts gX6_test_X6_tells rfl rfl rfl (by decide +kernel) ⟨(Nat.le_trans (Nat.le_of_ble_eq_true rfl) hRf), (Nat.le_trans (Nat.le_of_ble_eq_true rfl) hRl)⟩) rfl hl.1 rfl (Nat.le_of_ble_eq_true rfl) dX6_test_159 (fun H locs hP hS => ?_)
        obtain ⟨rfl, rfl⟩ := sp2 hf
        exact kret _ _ _ _ dX6_test_162 hP hS trivial
      rw [if_neg c_5] at hf
      refine lv_iconst (v := (0 : Int32)) hx hb dX6_test_42 (by decide) ?_
      refine lv_istore (lv' := [(7, .int (0 : Int32)), (0, .ref (aD g 55)), (3, .int x3), (4, .int x4), (5, .int x5), (6, .int x6)]) hx hb dX6_test_43 hl (by decide) rfl (fun ls hl => ?_)
      refine lv_iconst (v := (0 : Int32)) hx hb dX6_test_45 (by decide) ?_
      refine lv_istore (lv' := [(8, .int (0 : Int32)), (7, .int (0 : Int32)), (0, .ref (aD g 55)), (3, .int x3), (4, .int x4), (5, .int x5), (6, .int x6)]) hx hb dX6_test_46 hl (by decide) rfl (fun ls hl => ?_)
      exact w_48 (f_X6_test_35 n) ih fu x3 x4 x5 x6 (0 : Int32) (0 : Int32) u _ _ _ hP hS (lv_sub hl [2, 3, 4, 5, 6, 1, 0] rfl) hf
  unfold f_X6_test at hf
  refine lv_aload_n hx hb dX6_test_0 rfl (lv_at hl 0 rfl) ?_
  refine lv_iload_n hx hb dX6_test_1 rfl (lv_at hl 1 rfl) ?_
  obtain ⟨q_1, hq_1, hf⟩ := bind_ex hf
  refine r_Vi (r := q_1.1) (u' := q_1.2) (As := [.int x1]) (rest := []) (k := 55) (ci := 5) ⟨hx, hb, hml, hown, hts⟩ hC hP hS (by decide) rfl (by decide) rfl (c_X6_needPairs l g u x1 hq_1) (cwV 1 hts gX6_test_X6_needPairs rfl rfl rfl (by decide +kernel) ⟨(Nat.le_trans (Nat.le_of_ble_eq_true rfl) hRf), (Nat.le_trans (Nat.le_of_ble_eq_true rfl) hRl)⟩) rfl hl.1 rfl (Nat.le_of_ble_eq_true rfl) dX6_test_2 (fun H locs hP hS => ?_)
  refine lv_istore_n (lv' := [(2, .int q_1.1), (0, .ref (aD g 55)), (1, .int x1)]) hx hb dX6_test_5 rfl hl (by decide) rfl (fun ls hl => ?_)
  refine lv_iload_n hx hb dX6_test_6 rfl (lv_at hl 0 rfl) ?_
  refine lv_if_ge (tgt := 12) hx hb dX6_test_7 (by decide) (fun c_2 => ?_) (fun c_2 => ?_)
  · rw [if_pos c_2] at hf
    refine lv_aload_n hx hb dX6_test_12 rfl (lv_at hl 1 rfl) ?_
    refine lv_iload_n hx hb dX6_test_13 rfl (lv_at hl 2 rfl) ?_
    obtain ⟨q_3, hq_3, hf⟩ := bind_ex hf
    refine r_Vi (As := [.int x1]) (rest := []) (k := 55) (ci := 5) ⟨hx, hb, hml, hown, hts⟩ hC hP hS (by decide) rfl (by decide) rfl (c_X6_kindsBy l g q_1.2 x1 hq_3) (cwV 1 hts gX6_test_X6_kindsBy rfl rfl rfl (by decide +kernel) ⟨(Nat.le_trans (Nat.le_of_ble_eq_true rfl) hRf), (Nat.le_trans (Nat.le_of_ble_eq_true rfl) hRl)⟩) rfl hl.1 rfl (Nat.le_of_ble_eq_true rfl) dX6_test_14 (fun H locs hP hS => ?_)
    refine lv_istore_n (lv' := [(3, .int q_3), (2, .int q_1.1), (0, .ref (aD g 55)), (1, .int x1)]) hx hb dX6_test_17 rfl hl (by decide) rfl (fun ls hl => ?_)
    refine lv_iload_n hx hb dX6_test_18 rfl (lv_at hl 0 rfl) ?_
    refine lv_if_ne (tgt := 25) hx hb dX6_test_19 (by decide) (fun c_4 => ?_) (fun c_4 => ?_)
    · rw [if_neg c_4] at hf
      refine lv_iconst (v := (0 : Int32)) hx hb dX6_test_25 (by decide) ?_
      refine lv_istore (lv' := [(4, .int (0 : Int32)), (3, .int q_3), (2, .int q_1.1), (0, .ref (aD g 55)), (1, .int x1)]) hx hb dX6_test_26 hl (by decide) rfl (fun ls hl => ?_)
      refine lv_bipush (v := (7 : Int32)) hx hb dX6_test_28 (by decide) ?_
      refine lv_istore (lv' := [(5, .int (7 : Int32)), (4, .int (0 : Int32)), (3, .int q_3), (2, .int q_1.1), (0, .ref (aD g 55)), (1, .int x1)]) hx hb dX6_test_30 hl (by decide) rfl (fun ls hl => ?_)
      refine lv_iconst (v := (2 : Int32)) hx hb dX6_test_32 (by decide) ?_
      refine lv_istore (lv' := [(6, .int (2 : Int32)), (5, .int (7 : Int32)), (4, .int (0 : Int32)), (3, .int q_3), (2, .int q_1.1), (0, .ref (aD g 55)), (1, .int x1)]) hx hb dX6_test_33 hl (by decide) rfl (fun ls hl => ?_)
      exact w_35 fu q_3 (0 : Int32) (7 : Int32) (2 : Int32) q_1.2 _ _ _ hP hS (lv_sub hl [5, 3, 2, 1, 0] rfl) hf
    rw [if_pos c_4] at hf
    refine lv_bipush (v := (-9 : Int32)) hx hb dX6_test_22 (by decide) ?_
    obtain ⟨rfl, rfl⟩ := sp2 hf
    exact kret _ _ _ _ dX6_test_24 hP hS trivial
  rw [if_neg c_2] at hf
  refine lv_iload_n hx hb dX6_test_10 rfl (lv_at hl 0 rfl) ?_
  obtain ⟨rfl, rfl⟩ := sp2 hf
  exact kret _ _ _ _ dX6_test_11 hP hS trivial