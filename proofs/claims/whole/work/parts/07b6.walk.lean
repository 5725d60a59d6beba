set_option maxHeartbeats 4000000 in
set_option maxRecDepth 100000 in
theorem c_X6_digest (l : Launch) (g : GG) (u : UU) {r : Int64} {u' : UU} (hf : f_X6_digest u = some (r, u')) : Cl l g 55 20 yX6_digest wsX6_digest 6 131 [.ref (aD g 55)] u r u' := by
  refine ct_l (cc := cX6_digest) (maxL := 3) (by decide) rfl (Nat.le_of_ble_eq_true rfl) ?_
  intro p e s m args below meth c R Q ls hx hb hml hown hts hC hP hl hRf hRl kret hS
  have hown : s.vm.findClass RX6 = some m.cls := hown
  have hl : lv_has ls 3 [(0, .ref (aD g 55))] := hl
  have hinX6 : ∀ w ∈ u_ws RX6 TX6 34, w ∈ wsX6_digest := by decide +kernel
  have w_197 : ∀ (k_179 : Int32 → UU → Option (Int64 × UU)) (K_179 : ∀ (x1 : Int32) (u : UU) (H : Heap) (locs : List Loc) (ls : Array Slot), Ps g 55 20 u H → va_S (aA g) s.heap H locs → lv_has ls 3 [(0, .ref (aD g 55)), (1, .int x1)] → k_179 x1 u = some (r, u') → W p l e R s m args below meth c H locs 0 0 Q (F0 m 179 ls [])) (n : Nat), ∀ (x1 : Int32) (x2 : Int32) (u : UU) (H : Heap) (locs : List Loc) (ls : Array Slot), Ps g 55 20 u H → va_S (aA g) s.heap H locs → lv_has ls 3 [(0, .ref (aD g 55)), (1, .int x1), (2, .int x2)] → f_X6_digest_197 k_179 n x1 x2 u = some (r, u') → W p l e R s m args below meth c H locs 0 0 Q (F0 m 197 ls []) := by
    intro k_179 K_179 n
    induction n with
    | zero =>
      intro x1 x2 u H locs ls hP hS hl hf
      rw [f_X6_digest_197] at hf
      cases hf
    | succ n ih =>
      intro x1 x2 u H locs ls hP hS hl hf
      rw [f_X6_digest_197] at hf
      refine lv_iload_n hx hb dX6_digest_197 rfl (lv_at hl 2 rfl) ?_
      refine lv_aload_n hx hb dX6_digest_198 rfl (lv_at hl 0 rfl) ?_
      refine r_get hx hb hts hown hC hP hinX6 55 (by decide) (ci := 5) rfl (by decide) rfl 8 (by decide) (hts (.fieldLink RX6 26 "LoafPartsModel" "textSizes" "[I") (by decide +kernel)) (v := .ref (aD g 60)) rfl dX6_digest_199 ?_
      refine lv_iload_n hx hb dX6_digest_202 rfl (lv_at hl 1 rfl) ?_
      obtain ⟨hi_10, hf⟩ := ix_ex hf
      refine r_ald hx hb hC hP 60 (by decide) rfl hi_10 dX6_digest_203 ?_
      refine lv_icmp_ge (tgt := 229) hx hb dX6_digest_204 (by decide) (fun c_11 => ?_) (fun c_11 => ?_)
      · rw [if_pos c_11] at hf
        obtain ⟨x1_12, ex1_12, hf⟩ := lt_ex hf
        refine lv_iinc (v := x1_12) (lv' := [(1, .int x1_12), (0, .ref (aD g 55)), (2, .int x2)]) hx hb dX6_digest_229 hl (k := 1) rfl (by rw [ex1_12]; rfl) (by decide) rfl (fun ls hl => ?_)
        refine lv_goto (tgt := 179) hx hb dX6_digest_232 (by decide) ?_
        exact K_179 x1_12 u _ _ _ hP hS (lv_sub hl [1, 0] rfl) hf
      rw [if_neg c_11] at hf
      refine lv_aload_n hx hb dX6_digest_207 rfl (lv_at hl 0 rfl) ?_
      refine lv_aload_n hx hb dX6_digest_208 rfl (lv_at hl 0 rfl) ?_
      refine r_get hx hb hts hown hC hP hinX6 55 (by decide) (ci := 5) rfl (by decide) rfl 9 (by decide) (hts (.fieldLink RX6 29 "LoafPartsModel" "bytes" "[B") (by decide +kernel)) (v := .ref (aD g 61)) rfl dX6_digest_209 ?_
      refine lv_bipush (v := (60 : Int32)) hx hb dX6_digest_212 (by decide) ?_
      refine lv_iload_n hx hb dX6_digest_214 rfl (lv_at hl 1 rfl) ?_
      refine lv_imul hx hb dX6_digest_215 ?_
      refine lv_iload_n hx hb dX6_digest_216 rfl (lv_at hl 2 rfl) ?_
      refine lv_iadd hx hb dX6_digest_217 ?_
      obtain ⟨hi_13, hf⟩ := ix_ex hf
      refine r_bald hx hb hC hP 61 (by decide) rfl hi_13 dX6_digest_218 ?_
      refine lv_i2l hx hb dX6_digest_219 rfl ?_
      obtain ⟨q_14, hq_14, hf⟩ := bind_ex hf
      refine r_Vv (As := [.long (((ui u 61 ((((60 : Int32) * x1) + x2) : Int32).toNatClampNeg) : Int32).toInt64)]) (rest := []) (k := 55) (ci := 5) ⟨hx, hb, hml, hown, hts⟩ hC hP hS (by decide) rfl (by decide) rfl (c_X6_adds l g u (((ui u 61 ((((60 : Int32) * x1) + x2) : Int32).toNatClampNeg) : Int32).toInt64) hq_14) (cwV 1 hts gX6_digest_X6_adds rfl rfl rfl (by decide +kernel) ⟨(Nat.le_trans (Nat.le_of_ble_eq_true rfl) hRf), (Nat.le_trans (Nat.le_of_ble_eq_true rfl) hRl)⟩) rfl hl.1 rfl (Nat.le_of_ble_eq_true rfl) dX6_digest_220 (fun H locs hP hS => ?_)
      obtain ⟨x2_15, ex2_15, hf⟩ := lt_ex hf
      refine lv_iinc (v := x2_15) (lv' := [(2, .int x2_15), (0, .ref (aD g 55)), (1, .int x1)]) hx hb dX6_digest_223 hl (k := 2) rfl (by rw [ex2_15]; rfl) (by decide) rfl (fun ls hl => ?_)
      refine lv_goto (tgt := 197) hx hb dX6_digest_226 (by decide) ?_
      exact ih x1 x2_15 q_14 _ _ _ hP hS (lv_sub hl [1, 2, 0] rfl) hf
  have w_179 : ∀ (n : Nat), ∀ (x1 : Int32) (u : UU) (H : Heap) (locs : List Loc) (ls : Array Slot), Ps g 55 20 u H → va_S (aA g) s.heap H locs → lv_has ls 3 [(0, .ref (aD g 55)), (1, .int x1)] → f_X6_digest_179 n x1 u = some (r, u') → W p l e R s m args below meth c H locs 0 0 Q (F0 m 179 ls []) := by
    intro n
    induction n with
    | zero =>
      intro x1 u H locs ls hP hS hl hf
      rw [f_X6_digest_179] at hf
      cases hf
    | succ n ih =>
      intro x1 u H locs ls hP hS hl hf
      rw [f_X6_digest_179] at hf
      refine lv_iload_n hx hb dX6_digest_179 rfl (lv_at hl 1 rfl) ?_
      refine lv_iconst (v := (4 : Int32)) hx hb dX6_digest_180 (by decide) ?_
      refine lv_icmp_ge (tgt := 235) hx hb dX6_digest_181 (by decide) (fun c_7 => ?_) (fun c_7 => ?_)
      · rw [if_pos c_7] at hf
        refine lv_aload_n hx hb dX6_digest_235 rfl (lv_at hl 0 rfl) ?_
        refine r_get hx hb hts hown hC hP hinX6 55 (by decide) (ci := 5) rfl (by decide) rfl 33 (by decide) (hts (.fieldLink RX6 270 "LoafPartsModel" "h" "J") (by decide +kernel)) (v := .long (ul u 55 33)) rfl dX6_digest_236 ?_
        obtain ⟨rfl, rfl⟩ := sp2 hf
        exact kret _ _ _ _ dX6_digest_239 hP hS trivial
      rw [if_neg c_7] at hf
      refine lv_aload_n hx hb dX6_digest_184 rfl (lv_at hl 0 rfl) ?_
      refine lv_aload_n hx hb dX6_digest_185 rfl (lv_at hl 0 rfl) ?_
      refine r_get hx hb hts hown hC hP hinX6 55 (by decide) (ci := 5) rfl (by decide) rfl 8 (by decide) (hts (.fieldLink RX6 26 "LoafPartsModel" "textSizes" "[I") (by decide +kernel)) (v := .ref (aD g 60)) rfl dX6_digest_186 ?_
      refine lv_iload_n hx hb dX6_digest_189 rfl (lv_at hl 1 rfl) ?_
      obtain ⟨hi_8, hf⟩ := ix_ex hf
      refine r_ald hx hb hC hP 60 (by decide) rfl hi_8 dX6_digest_190 ?_
      refine lv_i2l hx hb dX6_digest_191 rfl ?_
      obtain ⟨q_9, hq_9, hf⟩ := bind_ex hf
      refine r_Vv (As := [.long (((ui u 60 (x1 : Int32).toNatClampNeg) : Int32).toInt64)]) (rest := []) (k := 55) (ci := 5) ⟨hx, hb, hml, hown, hts⟩ hC hP hS (by decide) rfl (by decide) rfl (c_X6_adds l g u (((ui u 60 (x1 : Int32).toNatClampNeg) : Int32).toInt64) hq_9) (cwV 1 hts gX6_digest_X6_adds rfl rfl rfl (by decide +kernel) ⟨(Nat.le_trans (Nat.le_of_ble_eq_true rfl) hRf), (Nat.le_trans (Nat.le_of_ble_eq_true rfl) hRl)⟩) rfl hl.1 rfl (Nat.le_of_ble_eq_true rfl) dX6_digest_192 (fun H locs hP hS => ?_)
      refine lv_iconst (v := (0 : Int32)) hx hb dX6_digest_195 (by decide) ?_
      refine lv_istore_n (lv' := [(2, .int (0 : Int32)), (0, .ref (aD g 55)), (1, .int x1)]) hx hb dX6_digest_196 rfl hl (by decide) rfl (fun ls hl => ?_)
      exact w_197 (f_X6_digest_179 n) ih fu x1 (0 : Int32) q_9 _ _ _ hP hS (lv_sub hl [1, 2, 0] rfl) hf
  have w_144 : ∀ (k_125 : Int32 → UU → Option (Int64 × UU)) (K_125 : ∀ (x1 : Int32) (u : UU) (H : Heap) (locs : List Loc) (ls : Array Slot), Ps g 55 20 u H → va_S (aA g) s.heap H locs → lv_has ls 3 [(0, .ref (aD g 55)), (1, .int x1)] → k_125 x1 u = some (r, u') → W p l e R s m args below meth c H locs 0 0 Q (F0 m 125 ls [])) (n : Nat), ∀ (x1 : Int32) (x2 : Int32) (u : UU) (H : Heap) (locs : List Loc) (ls : Array Slot), Ps g 55 20 u H → va_S (aA g) s.heap H locs → lv_has ls 3 [(0, .ref (aD g 55)), (1, .int x1), (2, .int x2)] → f_X6_digest_144 k_125 n x1 x2 u = some (r, u') → W p l e R s m args below meth c H locs 0 0 Q (F0 m 144 ls []) := by
    intro k_125 K_125 n
    induction n with
    | zero =>
      intro x1 x2 u H locs ls hP hS hl hf
      rw [f_X6_digest_144] at hf
      cases hf
    | succ n ih =>
      intro x1 x2 u H locs ls hP hS hl hf
      rw [f_X6_digest_144] at hf
      refine lv_iload_n hx hb dX6_digest_144 rfl (lv_at hl 2 rfl) ?_
      refine lv_aload_n hx hb dX6_digest_145 rfl (lv_at hl 0 rfl) ?_
      refine r_get hx hb hts hown hC hP hinX6 55 (by decide) (ci := 5) rfl (by decide) rfl 5 (by decide) (hts (.fieldLink RX6 17 "LoafPartsModel" "sizes" "[I") (by decide +kernel)) (v := .ref (aD g 57)) rfl dX6_digest_146 ?_
      refine lv_iload_n hx hb dX6_digest_149 rfl (lv_at hl 1 rfl) ?_
      obtain ⟨hi_18, hf⟩ := ix_ex hf
      refine r_ald hx hb hC hP 57 (by decide) rfl hi_18 dX6_digest_150 ?_
      refine lv_icmp_ge (tgt := 171) hx hb dX6_digest_151 (by decide) (fun c_19 => ?_) (fun c_19 => ?_)
      · rw [if_pos c_19] at hf
        obtain ⟨x1_20, ex1_20, hf⟩ := lt_ex hf
        refine lv_iinc (v := x1_20) (lv' := [(1, .int x1_20), (0, .ref (aD g 55)), (2, .int x2)]) hx hb dX6_digest_171 hl (k := 1) rfl (by rw [ex1_20]; rfl) (by decide) rfl (fun ls hl => ?_)
        refine lv_goto (tgt := 125) hx hb dX6_digest_174 (by decide) ?_
        exact K_125 x1_20 u _ _ _ hP hS (lv_sub hl [1, 0] rfl) hf
      rw [if_neg c_19] at hf
      refine lv_aload_n hx hb dX6_digest_154 rfl (lv_at hl 0 rfl) ?_
      refine lv_aload_n hx hb dX6_digest_155 rfl (lv_at hl 0 rfl) ?_
      refine lv_iload_n hx hb dX6_digest_156 rfl (lv_at hl 1 rfl) ?_
      refine lv_iload_n hx hb dX6_digest_157 rfl (lv_at hl 2 rfl) ?_
      obtain ⟨q_21, hq_21, hf⟩ := bind_ex hf
      refine r_Vi (As := [.int x1, .int x2]) (rest := [.ref (aD g 55)]) (k := 55) (ci := 5) ⟨hx, hb, hml, hown, hts⟩ hC hP hS (by decide) rfl (by decide) rfl (c_X6_rowAt l g u x1 x2 hq_21) (cwV 2 hts gX6_digest_X6_rowAt rfl rfl rfl (by decide +kernel) ⟨(Nat.le_trans (Nat.le_of_ble_eq_true rfl) hRf), (Nat.le_trans (Nat.le_of_ble_eq_true rfl) hRl)⟩) rfl hl.1 rfl (Nat.le_of_ble_eq_true rfl) dX6_digest_158 (fun H locs hP hS => ?_)
      refine lv_i2l hx hb dX6_digest_161 rfl ?_
      obtain ⟨q_22, hq_22, hf⟩ := bind_ex hf
      refine r_Vv (As := [.long ((q_21 : Int32).toInt64)]) (rest := []) (k := 55) (ci := 5) ⟨hx, hb, hml, hown, hts⟩ hC hP hS (by decide) rfl (by decide) rfl (c_X6_adds l g u ((q_21 : Int32).toInt64) hq_22) (cwV 1 hts gX6_digest_X6_adds rfl rfl rfl (by decide +kernel) ⟨(Nat.le_trans (Nat.le_of_ble_eq_true rfl) hRf), (Nat.le_trans (Nat.le_of_ble_eq_true rfl) hRl)⟩) rfl hl.1 rfl (Nat.le_of_ble_eq_true rfl) dX6_digest_162 (fun H locs hP hS => ?_)
      obtain ⟨x2_23, ex2_23, hf⟩ := lt_ex hf
      refine lv_iinc (v := x2_23) (lv' := [(2, .int x2_23), (0, .ref (aD g 55)), (1, .int x1)]) hx hb dX6_digest_165 hl (k := 2) rfl (by rw [ex2_23]; rfl) (by decide) rfl (fun ls hl => ?_)
      refine lv_goto (tgt := 144) hx hb dX6_digest_168 (by decide) ?_
      exact ih x1 x2_23 q_22 _ _ _ hP hS (lv_sub hl [1, 2, 0] rfl) hf
  have w_125 : ∀ (n : Nat), ∀ (x1 : Int32) (u : UU) (H : Heap) (locs : List Loc) (ls : Array Slot), Ps g 55 20 u H → va_S (aA g) s.heap H locs → lv_has ls 3 [(0, .ref (aD g 55)), (1, .int x1)] → f_X6_digest_125 n x1 u = some (r, u') → W p l e R s m args below meth c H locs 0 0 Q (F0 m 125 ls []) := by
    intro n
    induction n with
    | zero =>
      intro x1 u H locs ls hP hS hl hf
      rw [f_X6_digest_125] at hf
      cases hf
    | succ n ih =>
      intro x1 u H locs ls hP hS hl hf
      rw [f_X6_digest_125] at hf
      refine lv_iload_n hx hb dX6_digest_125 rfl (lv_at hl 1 rfl) ?_
      refine lv_bipush (v := (6 : Int32)) hx hb dX6_digest_126 (by decide) ?_
      refine lv_icmp_ge (tgt := 177) hx hb dX6_digest_128 (by decide) (fun c_6 => ?_) (fun c_6 => ?_)
      · rw [if_pos c_6] at hf
        refine lv_iconst (v := (0 : Int32)) hx hb dX6_digest_177 (by decide) ?_
        refine lv_istore_n (lv' := [(1, .int (0 : Int32)), (0, .ref (aD g 55))]) hx hb dX6_digest_178 rfl hl (by decide) rfl (fun ls hl => ?_)
        exact w_179 fu (0 : Int32) u _ _ _ hP hS (lv_sub hl [1, 0] rfl) hf
      rw [if_neg c_6] at hf
      refine lv_aload_n hx hb dX6_digest_131 rfl (lv_at hl 0 rfl) ?_
      refine lv_aload_n hx hb dX6_digest_132 rfl (lv_at hl 0 rfl) ?_
      refine r_get hx hb hts hown hC hP hinX6 55 (by decide) (ci := 5) rfl (by decide) rfl 5 (by decide) (hts (.fieldLink RX6 17 "LoafPartsModel" "sizes" "[I") (by decide +kernel)) (v := .ref (aD g 57)) rfl dX6_digest_133 ?_
      refine lv_iload_n hx hb dX6_digest_136 rfl (lv_at hl 1 rfl) ?_
      obtain ⟨hi_16, hf⟩ := ix_ex hf
      refine r_ald hx hb hC hP 57 (by decide) rfl hi_16 dX6_digest_137 ?_
      refine lv_i2l hx hb dX6_digest_138 rfl ?_
      obtain ⟨q_17, hq_17, hf⟩ := bind_ex hf
      refine r_Vv (As := [.long (((ui u 57 (x1 : Int32).toNatClampNeg) : Int32).toInt64)]) (rest := []) (k := 55) (ci := 5) ⟨hx, hb, hml, hown, hts⟩ hC hP hS (by decide) rfl (by decide) rfl (c_X6_adds l g u (((ui u 57 (x1 : Int32).toNatClampNeg) : Int32).toInt64) hq_17) (cwV 1 hts gX6_digest_X6_adds rfl rfl rfl (by decide +kernel) ⟨(Nat.le_trans (Nat.le_of_ble_eq_true rfl) hRf), (Nat.le_trans (Nat.le_of_ble_eq_true rfl) hRl)⟩) rfl hl.1 rfl (Nat.le_of_ble_eq_true rfl) dX6_digest_139 (fun H locs hP hS => ?_)
      refine lv_iconst (v := (0 : Int32)) hx hb dX6_digest_142 (by decide) ?_
      refine lv_istore_n (lv' := [(2, .int (0 : Int32)), (0, .ref (aD g 55)), (1, .int x1)]) hx hb dX6_digest_143 rfl hl (by decide) rfl (fun ls hl => ?_)
      exact w_144 (f_X6_digest_125 n) ih fu x1 (0 : Int32) q_17 _ _ _ hP hS (lv_sub hl [1, 2, 0] rfl) hf
  have w_101 : ∀ (n : Nat), ∀ (x1 : Int32) (u : UU) (H : Heap) (locs : List Loc) (ls : Array Slot), Ps g 55 20 u H → va_S (aA g) s.heap H locs → lv_has ls 3 [(0, .ref (aD g 55)), (1, .int x1)] → f_X6_digest_101 n x1 u = some (r, u') → W p l e R s m args below meth c H locs 0 0 Q (F0 m 101 ls []) := by
    intro n
    induction n with
    | zero =>
      intro x1 u H locs ls hP hS hl hf
      rw [f_X6_digest_101] at hf
      cases hf
    | succ n ih =>
      intro x1 u H locs ls hP hS hl hf
      rw [f_X6_digest_101] at hf
      refine lv_iload_n hx hb dX6_digest_101 rfl (lv_at hl 1 rfl) ?_
      refine lv_iconst (v := (3 : Int32)) hx hb dX6_digest_102 (by decide) ?_
      refine lv_icmp_ge (tgt := 123) hx hb dX6_digest_103 (by decide) (fun c_5 => ?_) (fun c_5 => ?_)
      · rw [if_pos c_5] at hf
        refine lv_iconst (v := (0 : Int32)) hx hb dX6_digest_123 (by decide) ?_
        refine lv_istore_n (lv' := [(1, .int (0 : Int32)), (0, .ref (aD g 55))]) hx hb dX6_digest_124 rfl hl (by decide) rfl (fun ls hl => ?_)
        exact w_125 fu (0 : Int32) u _ _ _ hP hS (lv_sub hl [1, 0] rfl) hf
      rw [if_neg c_5] at hf
      refine lv_aload_n hx hb dX6_digest_106 rfl (lv_at hl 0 rfl) ?_
      refine lv_aload_n hx hb dX6_digest_107 rfl (lv_at hl 0 rfl) ?_
      refine r_get hx hb hts hown hC hP hinX6 55 (by decide) (ci := 5) rfl (by decide) rfl 24 (by decide) (hts (.fieldLink RX6 57 "LoafPartsModel" "keptMany" "[I") (by decide +kernel)) (v := .ref (aD g 70)) rfl dX6_digest_108 ?_
      refine lv_iload_n hx hb dX6_digest_111 rfl (lv_at hl 1 rfl) ?_
      obtain ⟨hi_24, hf⟩ := ix_ex hf
      refine r_ald hx hb hC hP 70 (by decide) rfl hi_24 dX6_digest_112 ?_
      refine lv_i2l hx hb dX6_digest_113 rfl ?_
      obtain ⟨q_25, hq_25, hf⟩ := bind_ex hf
      refine r_Vv (As := [.long (((ui u 70 (x1 : Int32).toNatClampNeg) : Int32).toInt64)]) (rest := []) (k := 55) (ci := 5) ⟨hx, hb, hml, hown, hts⟩ hC hP hS (by decide) rfl (by decide) rfl (c_X6_adds l g u (((ui u 70 (x1 : Int32).toNatClampNeg) : Int32).toInt64) hq_25) (cwV 1 hts gX6_digest_X6_adds rfl rfl rfl (by decide +kernel) ⟨(Nat.le_trans (Nat.le_of_ble_eq_true rfl) hRf), (Nat.le_trans (Nat.le_of_ble_eq_true rfl) hRl)⟩) rfl hl.1 rfl (Nat.le_of_ble_eq_true rfl) dX6_digest_114 (fun H locs hP hS => ?_)
      obtain ⟨x1_26, ex1_26, hf⟩ := lt_ex hf
      refine lv_iinc (v := x1_26) (lv' := [(1, .int x1_26), (0, .ref (aD g 55))]) hx hb dX6_digest_117 hl (k := 1) rfl (by rw [ex1_26]; rfl) (by decide) rfl (fun ls hl => ?_)
      refine lv_goto (tgt := 101) hx hb dX6_digest_120 (by decide) ?_
      exact ih x1_26 q_25 _ _ _ hP hS (lv_sub hl [1, 0] rfl) hf
  have w_74 : ∀ (n : Nat), ∀ (x1 : Int32) (u : UU) (H : Heap) (locs : List Loc) (ls : Array Slot), Ps g 55 20 u H → va_S (aA g) s.heap H locs → lv_has ls 3 [(0, .ref (aD g 55)), (1, .int x1)] → f_X6_digest_74 n x1 u = some (r, u') → W p l e R s m args below meth c H locs 0 0 Q (F0 m 74 ls []) := by
    intro n
    induction n with
    | zero =>
      intro x1 u H locs ls hP hS hl hf
      rw [f_X6_digest_74] at hf
      cases hf
    | succ n ih =>
      intro x1 u H locs ls hP hS hl hf
      rw [f_X6_digest_74] at hf
      refine lv_iload_n hx hb dX6_digest_74 rfl (lv_at hl 1 rfl) ?_
      refine lv_bipush (v := (16 : Int32)) hx hb dX6_digest_75 (by decide) ?_
      refine lv_icmp_gt (tgt := 99) hx hb dX6_digest_77 (by decide) (fun c_4 => ?_) (fun c_4 => ?_)
      · rw [if_pos c_4] at hf
        refine lv_iconst (v := (0 : Int32)) hx hb dX6_digest_99 (by decide) ?_
        refine lv_istore_n (lv' := [(1, .int (0 : Int32)), (0, .ref (aD g 55))]) hx hb dX6_digest_100 rfl hl (by decide) rfl (fun ls hl => ?_)
        exact w_101 fu (0 : Int32) u _ _ _ hP hS (lv_sub hl [1, 0] rfl) hf
      rw [if_neg c_4] at hf
      refine lv_aload_n hx hb dX6_digest_80 rfl (lv_at hl 0 rfl) ?_
      refine lv_aload_n hx hb dX6_digest_81 rfl (lv_at hl 0 rfl) ?_
      refine r_get hx hb hts hown hC hP hinX6 55 (by decide) (ci := 5) rfl (by decide) rfl 21 (by decide) (hts (.fieldLink RX6 51 "LoafPartsModel" "now" "[I") (by decide +kernel)) (v := .ref (aD g 68)) rfl dX6_digest_82 ?_
      refine lv_iconst (v := (1 : Int32)) hx hb dX6_digest_85 (by decide) ?_
      refine lv_iload_n hx hb dX6_digest_86 rfl (lv_at hl 1 rfl) ?_
      refine lv_iadd hx hb dX6_digest_87 ?_
      obtain ⟨hi_27, hf⟩ := ix_ex hf
      refine r_ald hx hb hC hP 68 (by decide) rfl hi_27 dX6_digest_88 ?_
      refine lv_i2l hx hb dX6_digest_89 rfl ?_
      obtain ⟨q_28, hq_28, hf⟩ := bind_ex hf
      refine r_Vv (As := [.long (((ui u 68 (((1 : Int32) + x1) : Int32).toNatClampNeg) : Int32).toInt64)]) (rest := []) (k := 55) (ci := 5) ⟨hx, hb, hml, hown, hts⟩ hC hP hS (by decide) rfl (by decide) rfl (c_X6_adds l g u (((ui u 68 (((1 : Int32) + x1) : Int32).toNatClampNeg) : Int32).toInt64) hq_28) (cwV 1 hts gX6_digest_X6_adds rfl rfl rfl (by decide +kernel) ⟨(Nat.le_trans (Nat.le_of_ble_eq_true rfl) hRf), (Nat.le_trans (Nat.le_of_ble_eq_true rfl) hRl)⟩) rfl hl.1 rfl (Nat.le_of_ble_eq_true rfl) dX6_digest_90 (fun H locs hP hS => ?_)
      obtain ⟨x1_29, ex1_29, hf⟩ := lt_ex hf
      refine lv_iinc (v := x1_29) (lv' := [(1, .int x1_29), (0, .ref (aD g 55))]) hx hb dX6_digest_93 hl (k := 1) rfl (by rw [ex1_29]; rfl) (by decide) rfl (fun ls hl => ?_)
      refine lv_goto (tgt := 74) hx hb dX6_digest_96 (by decide) ?_
      exact ih x1_29 q_28 _ _ _ hP hS (lv_sub hl [1, 0] rfl) hf
  have w_43 : ∀ (k_33 : Int32 → UU → Option (Int64 × UU)) (K_33 : ∀ (x1 : Int32) (u : UU) (H : Heap) (locs : List Loc) (ls : Array Slot), Ps g 55 20 u H → va_S (aA g) s.heap H locs → lv_has ls 3 [(0, .ref (aD g 55)), (1, .int x1)] → k_33 x1 u = some (r, u') → W p l e R s m args below meth c H locs 0 0 Q (F0 m 33 ls [])) (n : Nat), ∀ (x1 : Int32) (x2 : Int32) (u : UU) (H : Heap) (locs : List Loc) (ls : Array Slot), Ps g 55 20 u H → va_S (aA g) s.heap H locs → lv_has ls 3 [(0, .ref (aD g 55)), (1, .int x1), (2, .int x2)] → f_X6_digest_43 k_33 n x1 x2 u = some (r, u') → W p l e R s m args below meth c H locs 0 0 Q (F0 m 43 ls []) := by
    intro k_33 K_33 n
    induction n with
    | zero =>
      intro x1 x2 u H locs ls hP hS hl hf
      rw [f_X6_digest_43] at hf
      cases hf
    | succ n ih =>
      intro x1 x2 u H locs ls hP hS hl hf
      rw [f_X6_digest_43] at hf
      refine lv_iload_n hx hb dX6_digest_43 rfl (lv_at hl 2 rfl) ?_
      refine lv_bipush (v := (6 : Int32)) hx hb dX6_digest_44 (by decide) ?_
      refine lv_icmp_ge (tgt := 66) hx hb dX6_digest_46 (by decide) (fun c_30 => ?_) (fun c_30 => ?_)
      · rw [if_pos c_30] at hf
        obtain ⟨x1_31, ex1_31, hf⟩ := lt_ex hf
        refine lv_iinc (v := x1_31) (lv' := [(1, .int x1_31), (0, .ref (aD g 55)), (2, .int x2)]) hx hb dX6_digest_66 hl (k := 1) rfl (by rw [ex1_31]; rfl) (by decide) rfl (fun ls hl => ?_)
        refine lv_goto (tgt := 33) hx hb dX6_digest_69 (by decide) ?_
        exact K_33 x1_31 u _ _ _ hP hS (lv_sub hl [1, 0] rfl) hf
      rw [if_neg c_30] at hf
      refine lv_aload_n hx hb dX6_digest_49 rfl (lv_at hl 0 rfl) ?_
      refine lv_aload_n hx hb dX6_digest_50 rfl (lv_at hl 0 rfl) ?_
      refine lv_iload_n hx hb dX6_digest_51 rfl (lv_at hl 1 rfl) ?_
      refine lv_iload_n hx hb dX6_digest_52 rfl (lv_at hl 2 rfl) ?_
      obtain ⟨q_32, hq_32, hf⟩ := bind_ex hf
      refine r_Vi (As := [.int x1, .int x2]) (rest := [.ref (aD g 55)]) (k := 55) (ci := 5) ⟨hx, hb, hml, hown, hts⟩ hC hP hS (by decide) rfl (by decide) rfl (c_X6_workerTells l g u x1 x2 hq_32) (cwV 2 hts gX6_digest_X6_workerTells rfl rfl rfl (by decide +kernel) ⟨(Nat.le_trans (Nat.le_of_ble_eq_true rfl) hRf), (Nat.le_trans (Nat.le_of_ble_eq_true rfl) hRl)⟩) rfl hl.1 rfl (Nat.le_of_ble_eq_true rfl) dX6_digest_53 (fun H locs hP hS => ?_)
      refine lv_i2l hx hb dX6_digest_56 rfl ?_
      obtain ⟨q_33, hq_33, hf⟩ := bind_ex hf
      refine r_Vv (As := [.long ((q_32 : Int32).toInt64)]) (rest := []) (k := 55) (ci := 5) ⟨hx, hb, hml, hown, hts⟩ hC hP hS (by decide) rfl (by decide) rfl (c_X6_adds l g u ((q_32 : Int32).toInt64) hq_33) (cwV 1 hts gX6_digest_X6_adds rfl rfl rfl (by decide +kernel) ⟨(Nat.le_trans (Nat.le_of_ble_eq_true rfl) hRf), (Nat.le_trans (Nat.le_of_ble_eq_true rfl) hRl)⟩) rfl hl.1 rfl (Nat.le_of_ble_eq_true rfl) dX6_digest_57 (fun H locs hP hS => ?_)
      obtain ⟨x2_34, ex2_34, hf⟩ := lt_ex hf
      refine lv_iinc (v := x2_34) (lv' := [(2, .int x2_34), (0, .ref (aD g 55)), (1, .int x1)]) hx hb dX6_digest_60 hl (k := 2) rfl (by rw [ex2_34]; rfl) (by decide) rfl (fun ls hl => ?_)
      refine lv_goto (tgt := 43) hx hb dX6_digest_63 (by decide) ?_
      exact ih x1 x2_34 q_33 _ _ _ hP hS (lv_sub hl [1, 2, 0] rfl) hf
  have w_33 : ∀ (n : Nat), ∀ (x1 : Int32) (u : UU) (H : Heap) (locs : List Loc) (ls : Array Slot), Ps g 55 20 u H → va_S (aA g) s.heap H locs → lv_has ls 3 [(0, .ref (aD g 55)), (1, .int x1)] → f_X6_digest_33 n x1 u = some (r, u') → W p l e R s m args below meth c H locs 0 0 Q (F0 m 33 ls []) := by
    intro n
    induction n with
    | zero =>
      intro x1 u H locs ls hP hS hl hf
      rw [f_X6_digest_33] at hf
      cases hf
    | succ n ih =>
      intro x1 u H locs ls hP hS hl hf
      rw [f_X6_digest_33] at hf
      refine lv_iload_n hx hb dX6_digest_33 rfl (lv_at hl 1 rfl) ?_
      refine lv_aload_n hx hb dX6_digest_34 rfl (lv_at hl 0 rfl) ?_
      refine r_get hx hb hts hown hC hP hinX6 55 (by decide) (ci := 5) rfl (by decide) rfl 17 (by decide) (hts (.fieldLink RX6 136 "LoafPartsModel" "n" "I") (by decide +kernel)) (v := .int (ui u 55 17)) rfl dX6_digest_35 ?_
      refine lv_icmp_ge (tgt := 72) hx hb dX6_digest_38 (by decide) (fun c_3 => ?_) (fun c_3 => ?_)
      · rw [if_pos c_3] at hf
        refine lv_iconst (v := (2 : Int32)) hx hb dX6_digest_72 (by decide) ?_
        refine lv_istore_n (lv' := [(1, .int (2 : Int32)), (0, .ref (aD g 55))]) hx hb dX6_digest_73 rfl hl (by decide) rfl (fun ls hl => ?_)
        exact w_74 fu (2 : Int32) u _ _ _ hP hS (lv_sub hl [1, 0] rfl) hf
      rw [if_neg c_3] at hf
      refine lv_iconst (v := (0 : Int32)) hx hb dX6_digest_41 (by decide) ?_
      refine lv_istore_n (lv' := [(2, .int (0 : Int32)), (0, .ref (aD g 55)), (1, .int x1)]) hx hb dX6_digest_42 rfl hl (by decide) rfl (fun ls hl => ?_)
      exact w_43 (f_X6_digest_33 n) ih fu x1 (0 : Int32) u _ _ _ hP hS (lv_sub hl [1, 2, 0] rfl) hf
  have w_9 : ∀ (n : Nat), ∀ (x1 : Int32) (u : UU) (H : Heap) (locs : List Loc) (ls : Array Slot), Ps g 55 20 u H → va_S (aA g) s.heap H locs → lv_has ls 3 [(0, .ref (aD g 55)), (1, .int x1)] → f_X6_digest_9 n x1 u = some (r, u') → W p l e R s m args below meth c H locs 0 0 Q (F0 m 9 ls []) := by
    intro n
    induction n with
    | zero =>
      intro x1 u H locs ls hP hS hl hf
      rw [f_X6_digest_9] at hf
      cases hf
    | succ n ih =>
      intro x1 u H locs ls hP hS hl hf
      rw [f_X6_digest_9] at hf
      refine lv_iload_n hx hb dX6_digest_9 rfl (lv_at hl 1 rfl) ?_
      refine lv_bipush (v := (11 : Int32)) hx hb dX6_digest_10 (by decide) ?_
      refine lv_icmp_gt (tgt := 31) hx hb dX6_digest_12 (by decide) (fun c_2 => ?_) (fun c_2 => ?_)
      · rw [if_pos c_2] at hf
        refine lv_iconst (v := (0 : Int32)) hx hb dX6_digest_31 (by decide) ?_
        refine lv_istore_n (lv' := [(1, .int (0 : Int32)), (0, .ref (aD g 55))]) hx hb dX6_digest_32 rfl hl (by decide) rfl (fun ls hl => ?_)
        exact w_33 fu (0 : Int32) u _ _ _ hP hS (lv_sub hl [1, 0] rfl) hf
      rw [if_neg c_2] at hf
      refine lv_aload_n hx hb dX6_digest_15 rfl (lv_at hl 0 rfl) ?_
      refine lv_aload_n hx hb dX6_digest_16 rfl (lv_at hl 0 rfl) ?_
      refine lv_iload_n hx hb dX6_digest_17 rfl (lv_at hl 1 rfl) ?_
      obtain ⟨q_35, hq_35, hf⟩ := bind_ex hf
      refine r_Vi (As := [.int x1]) (rest := [.ref (aD g 55)]) (k := 55) (ci := 5) ⟨hx, hb, hml, hown, hts⟩ hC hP hS (by decide) rfl (by decide) rfl (c_X6_counted l g u x1 hq_35) (cwV 1 hts gX6_digest_X6_counted rfl rfl rfl (by decide +kernel) ⟨(Nat.le_trans (Nat.le_of_ble_eq_true rfl) hRf), (Nat.le_trans (Nat.le_of_ble_eq_true rfl) hRl)⟩) rfl hl.1 rfl (Nat.le_of_ble_eq_true rfl) dX6_digest_18 (fun H locs hP hS => ?_)
      refine lv_i2l hx hb dX6_digest_21 rfl ?_
      obtain ⟨q_36, hq_36, hf⟩ := bind_ex hf
      refine r_Vv (As := [.long ((q_35 : Int32).toInt64)]) (rest := []) (k := 55) (ci := 5) ⟨hx, hb, hml, hown, hts⟩ hC hP hS (by decide) rfl (by decide) rfl (c_X6_adds l g u ((q_35 : Int32).toInt64) hq_36) (cwV 1 hts gX6_digest_X6_adds rfl rfl rfl (by decide +kernel) ⟨(Nat.le_trans (Nat.le_of_ble_eq_true rfl) hRf), (Nat.le_trans (Nat.le_of_ble_eq_true rfl) hRl)⟩) rfl hl.1 rfl (Nat.le_of_ble_eq_true rfl) dX6_digest_22 (fun H locs hP hS => ?_)
      obtain ⟨x1_37, ex1_37, hf⟩ := lt_ex hf
      refine lv_iinc (v := x1_37) (lv' := [(1, .int x1_37), (0, .ref (aD g 55))]) hx hb dX6_digest_25 hl (k := 1) rfl (by rw [ex1_37]; rfl) (by decide) rfl (fun ls hl => ?_)
      refine lv_goto (tgt := 9) hx hb dX6_digest_28 (by decide) ?_
      exact ih x1_37 q_36 _ _ _ hP hS (lv_sub hl [1, 0] rfl) hf
  unfold f_X6_digest at hf
  refine lv_aload_n hx hb dX6_digest_0 rfl (lv_at hl 0 rfl) ?_
  refine lv_ldc2 (v := (17 : Int64)) hx hb hown (hts (.constantLong RX6 273 (17)) (by decide +kernel)) dX6_digest_1 ?_
  obtain ⟨u_1, eu_1, hf⟩ := lt_ex hf
  refine r_putl hx hb hts hown hC hP hS hinX6 tyX6 tyX6_ok nmX6 55 (by decide) (ci := 5) rfl (by decide) rfl 33 (by decide) (hts (.fieldLink RX6 270 "LoafPartsModel" "h" "J") (by decide +kernel)) rfl (by decide +kernel) (by decide) (by decide) eu_1 dX6_digest_4 (fun H locs hP hS => ?_)
  refine lv_iconst (v := (0 : Int32)) hx hb dX6_digest_7 (by decide) ?_
  refine lv_istore_n (lv' := [(1, .int (0 : Int32)), (0, .ref (aD g 55))]) hx hb dX6_digest_8 rfl hl (by decide) rfl (fun ls hl => ?_)
  exact w_9 fu (0 : Int32) u_1 _ _ _ hP hS (lv_sub hl [1, 0] rfl) hf