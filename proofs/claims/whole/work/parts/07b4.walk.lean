set_option maxHeartbeats 4000000 in
set_option maxRecDepth 100000 in
theorem c_X6_picked (l : Launch) (g : GG) (u : UU) (x1 : Int32) (x2 : Int32) (x3 : Int32) (x4 : Int32) {r : Int32} {u' : UU} (hf : f_X6_picked x1 x2 x3 x4 u = some (r, u')) : Ci l g 55 20 yX6_picked wsX6_picked 3 64 [.ref (aD g 55), .int x1, .int x2, .int x3, .int x4] u r u' := by
  refine ct_i (cc := cX6_picked) (maxL := 14) (by decide) rfl (Nat.le_of_ble_eq_true rfl) ?_
  intro p e s m args below meth c R Q ls hx hb hml hown hts hC hP hl hRf hRl kret hS
  have hown : s.vm.findClass RX6 = some m.cls := hown
  have hl : lv_has ls 14 [(0, .ref (aD g 55)), (1, .int x1), (2, .int x2), (3, .int x3), (4, .int x4)] := hl
  have hinX6 : ∀ w ∈ u_ws RX6 TX6 34, w ∈ wsX6_picked := by decide +kernel
  have w_294 : ∀ (k_63 : Int32 → Int32 → Int32 → Int32 → Int32 → Int32 → Int32 → Int32 → Int32 → UU → Option (Int32 × UU)) (K_63 : ∀ (x1 : Int32) (x2 : Int32) (x3 : Int32) (x4 : Int32) (x5 : Int32) (x6 : Int32) (x7 : Int32) (x8 : Int32) (x9 : Int32) (u : UU) (H : Heap) (locs : List Loc) (ls : Array Slot), Ps g 55 20 u H → va_S (aA g) s.heap H locs → lv_has ls 14 [(0, .ref (aD g 55)), (1, .int x1), (2, .int x2), (3, .int x3), (4, .int x4), (5, .int x5), (6, .int x6), (7, .int x7), (8, .int x8), (9, .int x9)] → k_63 x1 x2 x3 x4 x5 x6 x7 x8 x9 u = some (r, u') → W p l e R s m args below meth c H locs 0 0 Q (F0 m 63 ls [])), ∀ (x1 : Int32) (x2 : Int32) (x3 : Int32) (x4 : Int32) (x5 : Int32) (x6 : Int32) (x7 : Int32) (x8 : Int32) (x9 : Int32) (u : UU) (H : Heap) (locs : List Loc) (ls : Array Slot), Ps g 55 20 u H → va_S (aA g) s.heap H locs → lv_has ls 14 [(0, .ref (aD g 55)), (1, .int x1), (2, .int x2), (3, .int x3), (4, .int x4), (5, .int x5), (6, .int x6), (7, .int x7), (8, .int x8), (9, .int x9)] → f_X6_picked_294 k_63 x1 x2 x3 x4 x5 x6 x7 x8 x9 u = some (r, u') → W p l e R s m args below meth c H locs 0 0 Q (F0 m 294 ls []) := by
    intro k_63 K_63
    intro x1 x2 x3 x4 x5 x6 x7 x8 x9 u H locs ls hP hS hl hf
    unfold f_X6_picked_294 at hf
    obtain ⟨x9_14, ex9_14, hf⟩ := lt_ex hf
    refine lv_iinc (v := x9_14) (lv' := [(9, .int x9_14), (0, .ref (aD g 55)), (1, .int x1), (2, .int x2), (3, .int x3), (4, .int x4), (5, .int x5), (6, .int x6), (7, .int x7), (8, .int x8)]) hx hb dX6_picked_294 hl (k := 9) rfl (by rw [ex9_14]; rfl) (by decide) rfl (fun ls hl => ?_)
    refine lv_goto (tgt := 63) hx hb dX6_picked_297 (by decide) ?_
    exact K_63 x1 x2 x3 x4 x5 x6 x7 x8 x9_14 u _ _ _ hP hS (lv_sub hl [1, 2, 3, 4, 5, 6, 7, 8, 9, 0] rfl) hf
  have w_291 : ∀ (k_63 : Int32 → Int32 → Int32 → Int32 → Int32 → Int32 → Int32 → Int32 → Int32 → UU → Option (Int32 × UU)) (K_63 : ∀ (x1 : Int32) (x2 : Int32) (x3 : Int32) (x4 : Int32) (x5 : Int32) (x6 : Int32) (x7 : Int32) (x8 : Int32) (x9 : Int32) (u : UU) (H : Heap) (locs : List Loc) (ls : Array Slot), Ps g 55 20 u H → va_S (aA g) s.heap H locs → lv_has ls 14 [(0, .ref (aD g 55)), (1, .int x1), (2, .int x2), (3, .int x3), (4, .int x4), (5, .int x5), (6, .int x6), (7, .int x7), (8, .int x8), (9, .int x9)] → k_63 x1 x2 x3 x4 x5 x6 x7 x8 x9 u = some (r, u') → W p l e R s m args below meth c H locs 0 0 Q (F0 m 63 ls [])), ∀ (x1 : Int32) (x2 : Int32) (x3 : Int32) (x4 : Int32) (x5 : Int32) (x6 : Int32) (x7 : Int32) (x9 : Int32) (t0 : Int32) (t1 : Int32) (u : UU) (H : Heap) (locs : List Loc) (ls : Array Slot), Ps g 55 20 u H → va_S (aA g) s.heap H locs → lv_has ls 14 [(0, .ref (aD g 55)), (1, .int x1), (2, .int x2), (3, .int x3), (4, .int x4), (5, .int x5), (6, .int x6), (7, .int x7), (9, .int x9)] → f_X6_picked_291 k_63 x1 x2 x3 x4 x5 x6 x7 x9 t0 t1 u = some (r, u') → W p l e R s m args below meth c H locs 0 0 Q (F0 m 291 ls [.int t0, .int t1]) := by
    intro k_63 K_63
    intro x1 x2 x3 x4 x5 x6 x7 x9 t0 t1 u H locs ls hP hS hl hf
    unfold f_X6_picked_291 at hf
    refine lv_ior hx hb dX6_picked_291 ?_
    obtain ⟨x8_34, ex8_34, hf⟩ := lt_ex hf
    refine r_nm ex8_34 ?_
    refine lv_istore (lv' := [(8, .int x8_34), (0, .ref (aD g 55)), (1, .int x1), (2, .int x2), (3, .int x3), (4, .int x4), (5, .int x5), (6, .int x6), (7, .int x7), (9, .int x9)]) hx hb dX6_picked_292 hl (by decide) rfl (fun ls hl => ?_)
    exact w_294 (k_63) K_63 x1 x2 x3 x4 x5 x6 x7 x8_34 x9 u _ _ _ hP hS (lv_sub hl [1, 2, 3, 4, 5, 6, 7, 8, 0, 9] rfl) hf
  have w_273 : ∀ (k_63 : Int32 → Int32 → Int32 → Int32 → Int32 → Int32 → Int32 → Int32 → Int32 → UU → Option (Int32 × UU)) (K_63 : ∀ (x1 : Int32) (x2 : Int32) (x3 : Int32) (x4 : Int32) (x5 : Int32) (x6 : Int32) (x7 : Int32) (x8 : Int32) (x9 : Int32) (u : UU) (H : Heap) (locs : List Loc) (ls : Array Slot), Ps g 55 20 u H → va_S (aA g) s.heap H locs → lv_has ls 14 [(0, .ref (aD g 55)), (1, .int x1), (2, .int x2), (3, .int x3), (4, .int x4), (5, .int x5), (6, .int x6), (7, .int x7), (8, .int x8), (9, .int x9)] → k_63 x1 x2 x3 x4 x5 x6 x7 x8 x9 u = some (r, u') → W p l e R s m args below meth c H locs 0 0 Q (F0 m 63 ls [])), ∀ (x1 : Int32) (x2 : Int32) (x3 : Int32) (x4 : Int32) (x5 : Int32) (x6 : Int32) (x8 : Int32) (x9 : Int32) (x10 : Int32) (x11 : Int32) (t0 : Int32) (t1 : Int32) (u : UU) (H : Heap) (locs : List Loc) (ls : Array Slot), Ps g 55 20 u H → va_S (aA g) s.heap H locs → lv_has ls 14 [(0, .ref (aD g 55)), (1, .int x1), (2, .int x2), (3, .int x3), (4, .int x4), (5, .int x5), (6, .int x6), (8, .int x8), (9, .int x9), (10, .int x10), (11, .int x11)] → f_X6_picked_273 k_63 x1 x2 x3 x4 x5 x6 x8 x9 x10 x11 t0 t1 u = some (r, u') → W p l e R s m args below meth c H locs 0 0 Q (F0 m 273 ls [.int t0, .int t1]) := by
    intro k_63 K_63
    intro x1 x2 x3 x4 x5 x6 x8 x9 x10 x11 t0 t1 u H locs ls hP hS hl hf
    unfold f_X6_picked_273 at hf
    refine lv_ior hx hb dX6_picked_273 ?_
    obtain ⟨x7_32, ex7_32, hf⟩ := lt_ex hf
    refine r_nm ex7_32 ?_
    refine lv_istore (lv' := [(7, .int x7_32), (0, .ref (aD g 55)), (1, .int x1), (2, .int x2), (3, .int x3), (4, .int x4), (5, .int x5), (6, .int x6), (8, .int x8), (9, .int x9), (10, .int x10), (11, .int x11)]) hx hb dX6_picked_274 hl (by decide) rfl (fun ls hl => ?_)
    refine lv_iload hx hb dX6_picked_276 (lv_at hl 8 rfl) ?_
    refine lv_iload hx hb dX6_picked_278 (lv_at hl 11 rfl) ?_
    refine lv_if_eq (tgt := 287) hx hb dX6_picked_280 (by decide) (fun c_33 => ?_) (fun c_33 => ?_)
    · rw [if_pos c_33] at hf
      refine lv_iconst (v := (1 : Int32)) hx hb dX6_picked_287 (by decide) ?_
      refine lv_iload hx hb dX6_picked_288 (lv_at hl 10 rfl) ?_
      refine lv_ishl hx hb dX6_picked_290 ?_
      exact w_291 (k_63) K_63 x1 x2 x3 x4 x5 x6 x7_32 x9 ((1 : Int32) <<< (x10 &&& (31 : Int32))) x8 u _ _ _ hP hS (lv_sub hl [1, 2, 3, 4, 5, 6, 7, 0, 9] rfl) hf
    rw [if_neg c_33] at hf
    refine lv_iconst (v := (0 : Int32)) hx hb dX6_picked_283 (by decide) ?_
    refine lv_goto (tgt := 291) hx hb dX6_picked_284 (by decide) ?_
    exact w_291 (k_63) K_63 x1 x2 x3 x4 x5 x6 x7_32 x9 (0 : Int32) x8 u _ _ _ hP hS (lv_sub hl [1, 2, 3, 4, 5, 6, 7, 0, 9] rfl) hf
  have w_255 : ∀ (k_63 : Int32 → Int32 → Int32 → Int32 → Int32 → Int32 → Int32 → Int32 → Int32 → UU → Option (Int32 × UU)) (K_63 : ∀ (x1 : Int32) (x2 : Int32) (x3 : Int32) (x4 : Int32) (x5 : Int32) (x6 : Int32) (x7 : Int32) (x8 : Int32) (x9 : Int32) (u : UU) (H : Heap) (locs : List Loc) (ls : Array Slot), Ps g 55 20 u H → va_S (aA g) s.heap H locs → lv_has ls 14 [(0, .ref (aD g 55)), (1, .int x1), (2, .int x2), (3, .int x3), (4, .int x4), (5, .int x5), (6, .int x6), (7, .int x7), (8, .int x8), (9, .int x9)] → k_63 x1 x2 x3 x4 x5 x6 x7 x8 x9 u = some (r, u') → W p l e R s m args below meth c H locs 0 0 Q (F0 m 63 ls [])), ∀ (x1 : Int32) (x2 : Int32) (x3 : Int32) (x4 : Int32) (x5 : Int32) (x7 : Int32) (x8 : Int32) (x9 : Int32) (x10 : Int32) (x11 : Int32) (t0 : Int32) (t1 : Int32) (u : UU) (H : Heap) (locs : List Loc) (ls : Array Slot), Ps g 55 20 u H → va_S (aA g) s.heap H locs → lv_has ls 14 [(0, .ref (aD g 55)), (1, .int x1), (2, .int x2), (3, .int x3), (4, .int x4), (5, .int x5), (7, .int x7), (8, .int x8), (9, .int x9), (10, .int x10), (11, .int x11)] → f_X6_picked_255 k_63 x1 x2 x3 x4 x5 x7 x8 x9 x10 x11 t0 t1 u = some (r, u') → W p l e R s m args below meth c H locs 0 0 Q (F0 m 255 ls [.int t0, .int t1]) := by
    intro k_63 K_63
    intro x1 x2 x3 x4 x5 x7 x8 x9 x10 x11 t0 t1 u H locs ls hP hS hl hf
    unfold f_X6_picked_255 at hf
    refine lv_isub hx hb dX6_picked_255 ?_
    obtain ⟨x6_30, ex6_30, hf⟩ := lt_ex hf
    refine r_nm ex6_30 ?_
    refine lv_istore (lv' := [(6, .int x6_30), (0, .ref (aD g 55)), (1, .int x1), (2, .int x2), (3, .int x3), (4, .int x4), (5, .int x5), (7, .int x7), (8, .int x8), (9, .int x9), (10, .int x10), (11, .int x11)]) hx hb dX6_picked_256 hl (by decide) rfl (fun ls hl => ?_)
    refine lv_iload hx hb dX6_picked_258 (lv_at hl 7 rfl) ?_
    refine lv_iload hx hb dX6_picked_260 (lv_at hl 11 rfl) ?_
    refine lv_if_eq (tgt := 272) hx hb dX6_picked_262 (by decide) (fun c_31 => ?_) (fun c_31 => ?_)
    · rw [if_pos c_31] at hf
      refine lv_iconst (v := (0 : Int32)) hx hb dX6_picked_272 (by decide) ?_
      exact w_273 (k_63) K_63 x1 x2 x3 x4 x5 x6_30 x8 x9 x10 x11 (0 : Int32) x7 u _ _ _ hP hS (lv_sub hl [1, 2, 3, 4, 5, 6, 0, 8, 9, 10, 11] rfl) hf
    rw [if_neg c_31] at hf
    refine lv_iconst (v := (1 : Int32)) hx hb dX6_picked_265 (by decide) ?_
    refine lv_iload hx hb dX6_picked_266 (lv_at hl 10 rfl) ?_
    refine lv_ishl hx hb dX6_picked_268 ?_
    refine lv_goto (tgt := 273) hx hb dX6_picked_269 (by decide) ?_
    exact w_273 (k_63) K_63 x1 x2 x3 x4 x5 x6_30 x8 x9 x10 x11 ((1 : Int32) <<< (x10 &&& (31 : Int32))) x7 u _ _ _ hP hS (lv_sub hl [1, 2, 3, 4, 5, 6, 0, 8, 9, 10, 11] rfl) hf
  have w_236 : ∀ (k_63 : Int32 → Int32 → Int32 → Int32 → Int32 → Int32 → Int32 → Int32 → Int32 → UU → Option (Int32 × UU)) (K_63 : ∀ (x1 : Int32) (x2 : Int32) (x3 : Int32) (x4 : Int32) (x5 : Int32) (x6 : Int32) (x7 : Int32) (x8 : Int32) (x9 : Int32) (u : UU) (H : Heap) (locs : List Loc) (ls : Array Slot), Ps g 55 20 u H → va_S (aA g) s.heap H locs → lv_has ls 14 [(0, .ref (aD g 55)), (1, .int x1), (2, .int x2), (3, .int x3), (4, .int x4), (5, .int x5), (6, .int x6), (7, .int x7), (8, .int x8), (9, .int x9)] → k_63 x1 x2 x3 x4 x5 x6 x7 x8 x9 u = some (r, u') → W p l e R s m args below meth c H locs 0 0 Q (F0 m 63 ls [])), ∀ (x1 : Int32) (x2 : Int32) (x3 : Int32) (x4 : Int32) (x6 : Int32) (x7 : Int32) (x8 : Int32) (x9 : Int32) (x10 : Int32) (x11 : Int32) (t0 : Int32) (t1 : Int32) (u : UU) (H : Heap) (locs : List Loc) (ls : Array Slot), Ps g 55 20 u H → va_S (aA g) s.heap H locs → lv_has ls 14 [(0, .ref (aD g 55)), (1, .int x1), (2, .int x2), (3, .int x3), (4, .int x4), (6, .int x6), (7, .int x7), (8, .int x8), (9, .int x9), (10, .int x10), (11, .int x11)] → f_X6_picked_236 k_63 x1 x2 x3 x4 x6 x7 x8 x9 x10 x11 t0 t1 u = some (r, u') → W p l e R s m args below meth c H locs 0 0 Q (F0 m 236 ls [.int t0, .int t1]) := by
    intro k_63 K_63
    intro x1 x2 x3 x4 x6 x7 x8 x9 x10 x11 t0 t1 u H locs ls hP hS hl hf
    unfold f_X6_picked_236 at hf
    refine lv_isub hx hb dX6_picked_236 ?_
    obtain ⟨x5_27, ex5_27, hf⟩ := lt_ex hf
    refine r_nm ex5_27 ?_
    refine lv_istore (lv' := [(5, .int x5_27), (0, .ref (aD g 55)), (1, .int x1), (2, .int x2), (3, .int x3), (4, .int x4), (6, .int x6), (7, .int x7), (8, .int x8), (9, .int x9), (10, .int x10), (11, .int x11)]) hx hb dX6_picked_237 hl (by decide) rfl (fun ls hl => ?_)
    refine lv_iload hx hb dX6_picked_239 (lv_at hl 6 rfl) ?_
    refine lv_iload hx hb dX6_picked_241 (lv_at hl 11 rfl) ?_
    refine lv_if_eq (tgt := 250) hx hb dX6_picked_243 (by decide) (fun c_28 => ?_) (fun c_28 => ?_)
    · rw [if_pos c_28] at hf
      refine lv_ldc (v := (720720 : Int32)) hx hb hown (hts (.constant RX6 149 (720720)) (by decide +kernel)) dX6_picked_250 ?_
      refine lv_iload hx hb dX6_picked_252 (lv_at hl 10 rfl) ?_
      obtain ⟨hz_29, hf⟩ := nz_ex hf
      refine lv_idiv hx hb dX6_picked_254 hz_29 ?_
      exact w_255 (k_63) K_63 x1 x2 x3 x4 x5_27 x7 x8 x9 x10 x11 ((720720 : Int32) / x10) x6 u _ _ _ hP hS (lv_sub hl [1, 2, 3, 4, 5, 0, 7, 8, 9, 10, 11] rfl) hf
    rw [if_neg c_28] at hf
    refine lv_iconst (v := (0 : Int32)) hx hb dX6_picked_246 (by decide) ?_
    refine lv_goto (tgt := 255) hx hb dX6_picked_247 (by decide) ?_
    exact w_255 (k_63) K_63 x1 x2 x3 x4 x5_27 x7 x8 x9 x10 x11 (0 : Int32) x6 u _ _ _ hP hS (lv_sub hl [1, 2, 3, 4, 5, 0, 7, 8, 9, 10, 11] rfl) hf
  have w_180 : ∀ (k_63 : Int32 → Int32 → Int32 → Int32 → Int32 → Int32 → Int32 → Int32 → Int32 → UU → Option (Int32 × UU)) (K_63 : ∀ (x1 : Int32) (x2 : Int32) (x3 : Int32) (x4 : Int32) (x5 : Int32) (x6 : Int32) (x7 : Int32) (x8 : Int32) (x9 : Int32) (u : UU) (H : Heap) (locs : List Loc) (ls : Array Slot), Ps g 55 20 u H → va_S (aA g) s.heap H locs → lv_has ls 14 [(0, .ref (aD g 55)), (1, .int x1), (2, .int x2), (3, .int x3), (4, .int x4), (5, .int x5), (6, .int x6), (7, .int x7), (8, .int x8), (9, .int x9)] → k_63 x1 x2 x3 x4 x5 x6 x7 x8 x9 u = some (r, u') → W p l e R s m args below meth c H locs 0 0 Q (F0 m 63 ls [])), ∀ (x1 : Int32) (x2 : Int32) (x3 : Int32) (x4 : Int32) (x5 : Int32) (x6 : Int32) (x7 : Int32) (x8 : Int32) (x9 : Int32) (x10 : Int32) (x11 : Int32) (t0 : Int32) (u : UU) (H : Heap) (locs : List Loc) (ls : Array Slot), Ps g 55 20 u H → va_S (aA g) s.heap H locs → lv_has ls 14 [(0, .ref (aD g 55)), (1, .int x1), (2, .int x2), (3, .int x3), (4, .int x4), (5, .int x5), (6, .int x6), (7, .int x7), (8, .int x8), (9, .int x9), (10, .int x10), (11, .int x11)] → f_X6_picked_180 k_63 x1 x2 x3 x4 x5 x6 x7 x8 x9 x10 x11 t0 u = some (r, u') → W p l e R s m args below meth c H locs 0 0 Q (F0 m 180 ls [.int t0]) := by
    intro k_63 K_63
    intro x1 x2 x3 x4 x5 x6 x7 x8 x9 x10 x11 t0 u H locs ls hP hS hl hf
    unfold f_X6_picked_180 at hf
    refine lv_istore (lv' := [(13, .int t0), (0, .ref (aD g 55)), (1, .int x1), (2, .int x2), (3, .int x3), (4, .int x4), (5, .int x5), (6, .int x6), (7, .int x7), (8, .int x8), (9, .int x9), (10, .int x10), (11, .int x11)]) hx hb dX6_picked_180 hl (by decide) rfl (fun ls hl => ?_)
    refine lv_iload hx hb dX6_picked_182 (lv_at hl 0 rfl) ?_
    refine lv_if_eq (tgt := 206) hx hb dX6_picked_184 (by decide) (fun c_19 => ?_) (fun c_19 => ?_)
    · rw [if_pos c_19] at hf
      refine lv_ldc (v := (-1000000000 : Int32)) hx hb hown (hts (.constant RX6 241 (-1000000000)) (by decide +kernel)) dX6_picked_206 ?_
      obtain ⟨rfl, rfl⟩ := sp2 hf
      exact kret _ _ _ _ dX6_picked_208 hP hS trivial
    rw [if_neg c_19] at hf
    refine lv_aload_n hx hb dX6_picked_187 rfl (lv_at hl 1 rfl) ?_
    refine r_get hx hb hts hown hC hP hinX6 55 (by decide) (ci := 5) rfl (by decide) rfl 21 (by decide) (hts (.fieldLink RX6 51 "LoafPartsModel" "now" "[I") (by decide +kernel)) (v := .ref (aD g 68)) rfl dX6_picked_188 ?_
    refine lv_iconst (v := (1 : Int32)) hx hb dX6_picked_191 (by decide) ?_
    refine lv_iload hx hb dX6_picked_192 (lv_at hl 11 rfl) ?_
    refine lv_iadd hx hb dX6_picked_194 ?_
    obtain ⟨hi_20, hf⟩ := ix_ex hf
    refine r_ald hx hb hC hP 68 (by decide) rfl hi_20 dX6_picked_195 ?_
    refine lv_aload_n hx hb dX6_picked_196 rfl (lv_at hl 1 rfl) ?_
    refine r_get hx hb hts hown hC hP hinX6 55 (by decide) (ci := 5) rfl (by decide) rfl 32 (by decide) (hts (.fieldLink RX6 70 "LoafPartsModel" "spent" "[I") (by decide +kernel)) (v := .ref (aD g 74)) rfl dX6_picked_197 ?_
    refine lv_iload hx hb dX6_picked_200 (lv_at hl 11 rfl) ?_
    obtain ⟨hi_21, hf⟩ := ix_ex hf
    refine r_ald hx hb hC hP 74 (by decide) rfl hi_21 dX6_picked_202 ?_
    refine lv_icmp_ne (tgt := 209) hx hb dX6_picked_203 (by decide) (fun c_22 => ?_) (fun c_22 => ?_)
    · rw [if_neg c_22] at hf
      refine lv_aload_n hx hb dX6_picked_209 rfl (lv_at hl 1 rfl) ?_
      refine r_get hx hb hts hown hC hP hinX6 55 (by decide) (ci := 5) rfl (by decide) rfl 32 (by decide) (hts (.fieldLink RX6 70 "LoafPartsModel" "spent" "[I") (by decide +kernel)) (v := .ref (aD g 74)) rfl dX6_picked_210 ?_
      refine lv_iload hx hb dX6_picked_213 (lv_at hl 11 rfl) ?_
      refine lv_dup2_11 hx hb dX6_picked_215 rfl rfl ?_
      obtain ⟨hi_23, hf⟩ := ix_ex hf
      refine r_ald hx hb hC hP 74 (by decide) rfl hi_23 dX6_picked_216 ?_
      refine lv_iconst (v := (1 : Int32)) hx hb dX6_picked_217 (by decide) ?_
      refine lv_iadd hx hb dX6_picked_218 ?_
      obtain ⟨hi_24, hf⟩ := ix_ex hf
      obtain ⟨u_25, eu_25, hf⟩ := lt_ex hf
      refine r_ast hx hb hC hP hS 74 (by decide) rfl hi_24 eu_25 dX6_picked_219 (fun H locs hP hS => ?_)
      refine lv_iload hx hb dX6_picked_220 (lv_at hl 6 rfl) ?_
      refine lv_iload hx hb dX6_picked_222 (lv_at hl 12 rfl) ?_
      refine lv_if_eq (tgt := 235) hx hb dX6_picked_224 (by decide) (fun c_26 => ?_) (fun c_26 => ?_)
      · rw [if_pos c_26] at hf
        refine lv_iconst (v := (0 : Int32)) hx hb dX6_picked_235 (by decide) ?_
        exact w_236 (k_63) K_63 x1 x2 x3 x4 x6 x7 x8 x9 x10 x11 (0 : Int32) x5 u_25 _ _ _ hP hS (lv_sub hl [1, 2, 3, 4, 5, 7, 8, 9, 10, 11, 12] rfl) hf
      rw [if_neg c_26] at hf
      refine lv_ldc (v := (720720 : Int32)) hx hb hown (hts (.constant RX6 149 (720720)) (by decide +kernel)) dX6_picked_227 ?_
      refine lv_iload hx hb dX6_picked_229 (lv_at hl 11 rfl) ?_
      obtain ⟨hz_35, hf⟩ := nz_ex hf
      refine lv_idiv hx hb dX6_picked_231 hz_35 ?_
      refine lv_goto (tgt := 236) hx hb dX6_picked_232 (by decide) ?_
      exact w_236 (k_63) K_63 x1 x2 x3 x4 x6 x7 x8 x9 x10 x11 ((720720 : Int32) / x10) x5 u_25 _ _ _ hP hS (lv_sub hl [1, 2, 3, 4, 5, 7, 8, 9, 10, 11, 12] rfl) hf
    rw [if_pos c_22] at hf
    refine lv_ldc (v := (-1000000000 : Int32)) hx hb hown (hts (.constant RX6 241 (-1000000000)) (by decide +kernel)) dX6_picked_206 ?_
    obtain ⟨rfl, rfl⟩ := sp2 hf
    exact kret _ _ _ _ dX6_picked_208 hP hS trivial
  have w_179 : ∀ (k_63 : Int32 → Int32 → Int32 → Int32 → Int32 → Int32 → Int32 → Int32 → Int32 → UU → Option (Int32 × UU)) (K_63 : ∀ (x1 : Int32) (x2 : Int32) (x3 : Int32) (x4 : Int32) (x5 : Int32) (x6 : Int32) (x7 : Int32) (x8 : Int32) (x9 : Int32) (u : UU) (H : Heap) (locs : List Loc) (ls : Array Slot), Ps g 55 20 u H → va_S (aA g) s.heap H locs → lv_has ls 14 [(0, .ref (aD g 55)), (1, .int x1), (2, .int x2), (3, .int x3), (4, .int x4), (5, .int x5), (6, .int x6), (7, .int x7), (8, .int x8), (9, .int x9)] → k_63 x1 x2 x3 x4 x5 x6 x7 x8 x9 u = some (r, u') → W p l e R s m args below meth c H locs 0 0 Q (F0 m 63 ls [])), ∀ (x1 : Int32) (x2 : Int32) (x3 : Int32) (x4 : Int32) (x5 : Int32) (x6 : Int32) (x7 : Int32) (x8 : Int32) (x9 : Int32) (x10 : Int32) (x11 : Int32) (u : UU) (H : Heap) (locs : List Loc) (ls : Array Slot), Ps g 55 20 u H → va_S (aA g) s.heap H locs → lv_has ls 14 [(0, .ref (aD g 55)), (1, .int x1), (2, .int x2), (3, .int x3), (4, .int x4), (5, .int x5), (6, .int x6), (7, .int x7), (8, .int x8), (9, .int x9), (10, .int x10), (11, .int x11)] → f_X6_picked_179 k_63 x1 x2 x3 x4 x5 x6 x7 x8 x9 x10 x11 u = some (r, u') → W p l e R s m args below meth c H locs 0 0 Q (F0 m 179 ls []) := by
    intro k_63 K_63
    intro x1 x2 x3 x4 x5 x6 x7 x8 x9 x10 x11 u H locs ls hP hS hl hf
    unfold f_X6_picked_179 at hf
    refine lv_iconst (v := (0 : Int32)) hx hb dX6_picked_179 (by decide) ?_
    exact w_180 (k_63) K_63 x1 x2 x3 x4 x5 x6 x7 x8 x9 x10 x11 (0 : Int32) u _ _ _ hP hS (lv_sub hl [0, 1, 2, 3, 4, 5, 6, 7, 8, 9, 10, 11] rfl) hf
  have w_167 : ∀ (k_63 : Int32 → Int32 → Int32 → Int32 → Int32 → Int32 → Int32 → Int32 → Int32 → UU → Option (Int32 × UU)) (K_63 : ∀ (x1 : Int32) (x2 : Int32) (x3 : Int32) (x4 : Int32) (x5 : Int32) (x6 : Int32) (x7 : Int32) (x8 : Int32) (x9 : Int32) (u : UU) (H : Heap) (locs : List Loc) (ls : Array Slot), Ps g 55 20 u H → va_S (aA g) s.heap H locs → lv_has ls 14 [(0, .ref (aD g 55)), (1, .int x1), (2, .int x2), (3, .int x3), (4, .int x4), (5, .int x5), (6, .int x6), (7, .int x7), (8, .int x8), (9, .int x9)] → k_63 x1 x2 x3 x4 x5 x6 x7 x8 x9 u = some (r, u') → W p l e R s m args below meth c H locs 0 0 Q (F0 m 63 ls [])), ∀ (x1 : Int32) (x2 : Int32) (x3 : Int32) (x4 : Int32) (x5 : Int32) (x6 : Int32) (x7 : Int32) (x8 : Int32) (x9 : Int32) (x10 : Int32) (x11 : Int32) (t0 : Int32) (u : UU) (H : Heap) (locs : List Loc) (ls : Array Slot), Ps g 55 20 u H → va_S (aA g) s.heap H locs → lv_has ls 14 [(0, .ref (aD g 55)), (1, .int x1), (2, .int x2), (3, .int x3), (4, .int x4), (5, .int x5), (6, .int x6), (7, .int x7), (8, .int x8), (9, .int x9), (10, .int x10), (11, .int x11)] → f_X6_picked_167 k_63 x1 x2 x3 x4 x5 x6 x7 x8 x9 x10 x11 t0 u = some (r, u') → W p l e R s m args below meth c H locs 0 0 Q (F0 m 167 ls [.int t0]) := by
    intro k_63 K_63
    intro x1 x2 x3 x4 x5 x6 x7 x8 x9 x10 x11 t0 u H locs ls hP hS hl hf
    unfold f_X6_picked_167 at hf
    refine lv_ldc (v := (720720 : Int32)) hx hb hown (hts (.constant RX6 149 (720720)) (by decide +kernel)) dX6_picked_167 ?_
    refine lv_iload hx hb dX6_picked_169 (lv_at hl 10 rfl) ?_
    obtain ⟨hz_39, hf⟩ := nz_ex hf
    refine lv_idiv hx hb dX6_picked_171 hz_39 ?_
    refine lv_icmp_lt (tgt := 179) hx hb dX6_picked_172 (by decide) (fun c_40 => ?_) (fun c_40 => ?_)
    · rw [if_pos c_40] at hf
      exact w_179 (k_63) K_63 x1 x2 x3 x4 x5 x6 x7 x8 x9 x10 x11 u _ _ _ hP hS (lv_sub hl [0, 1, 2, 3, 4, 5, 6, 7, 8, 9, 10, 11] rfl) hf
    rw [if_neg c_40] at hf
    refine lv_iconst (v := (1 : Int32)) hx hb dX6_picked_175 (by decide) ?_
    refine lv_goto (tgt := 180) hx hb dX6_picked_176 (by decide) ?_
    exact w_180 (k_63) K_63 x1 x2 x3 x4 x5 x6 x7 x8 x9 x10 x11 (1 : Int32) u _ _ _ hP hS (lv_sub hl [0, 1, 2, 3, 4, 5, 6, 7, 8, 9, 10, 11] rfl) hf
  have w_147 : ∀ (k_63 : Int32 → Int32 → Int32 → Int32 → Int32 → Int32 → Int32 → Int32 → Int32 → UU → Option (Int32 × UU)) (K_63 : ∀ (x1 : Int32) (x2 : Int32) (x3 : Int32) (x4 : Int32) (x5 : Int32) (x6 : Int32) (x7 : Int32) (x8 : Int32) (x9 : Int32) (u : UU) (H : Heap) (locs : List Loc) (ls : Array Slot), Ps g 55 20 u H → va_S (aA g) s.heap H locs → lv_has ls 14 [(0, .ref (aD g 55)), (1, .int x1), (2, .int x2), (3, .int x3), (4, .int x4), (5, .int x5), (6, .int x6), (7, .int x7), (8, .int x8), (9, .int x9)] → k_63 x1 x2 x3 x4 x5 x6 x7 x8 x9 u = some (r, u') → W p l e R s m args below meth c H locs 0 0 Q (F0 m 63 ls [])), ∀ (x1 : Int32) (x2 : Int32) (x3 : Int32) (x4 : Int32) (x5 : Int32) (x6 : Int32) (x7 : Int32) (x8 : Int32) (x9 : Int32) (x10 : Int32) (x11 : Int32) (t0 : Int32) (u : UU) (H : Heap) (locs : List Loc) (ls : Array Slot), Ps g 55 20 u H → va_S (aA g) s.heap H locs → lv_has ls 14 [(0, .ref (aD g 55)), (1, .int x1), (2, .int x2), (3, .int x3), (4, .int x4), (5, .int x5), (6, .int x6), (7, .int x7), (8, .int x8), (9, .int x9), (10, .int x10), (11, .int x11)] → f_X6_picked_147 k_63 x1 x2 x3 x4 x5 x6 x7 x8 x9 x10 x11 t0 u = some (r, u') → W p l e R s m args below meth c H locs 0 0 Q (F0 m 147 ls [.int t0]) := by
    intro k_63 K_63
    intro x1 x2 x3 x4 x5 x6 x7 x8 x9 x10 x11 t0 u H locs ls hP hS hl hf
    unfold f_X6_picked_147 at hf
    refine lv_iload hx hb dX6_picked_147 (lv_at hl 10 rfl) ?_
    refine r_Si (As := [.int t0, .int x10]) (rest := []) ⟨hx, hb, hml, hown, hts⟩ hC hP hS (c_X6_has l g u t0 x10 rfl) (va_cwS 2 hts gX6_picked_X6_has rfl rfl rfl (by decide +kernel) ⟨(Nat.le_trans (Nat.le_of_ble_eq_true rfl) hRf), (Nat.le_trans (Nat.le_of_ble_eq_true rfl) hRl)⟩) rfl hl.1 rfl (Nat.le_of_ble_eq_true rfl) dX6_picked_149 (fun H locs hP hS => ?_)
    refine lv_if_ne (tgt := 179) hx hb dX6_picked_152 (by decide) (fun c_37 => ?_) (fun c_37 => ?_)
    · rw [if_neg c_37] at hf
      exact w_179 (k_63) K_63 x1 x2 x3 x4 x5 x6 x7 x8 x9 x10 x11 u _ _ _ hP hS (lv_sub hl [0, 1, 2, 3, 4, 5, 6, 7, 8, 9, 10, 11] rfl) hf
    rw [if_pos c_37] at hf
    refine lv_iload hx hb dX6_picked_155 (lv_at hl 11 rfl) ?_
    refine lv_if_eq (tgt := 165) hx hb dX6_picked_157 (by decide) (fun c_38 => ?_) (fun c_38 => ?_)
    · rw [if_pos c_38] at hf
      refine lv_iload hx hb dX6_picked_165 (lv_at hl 6 rfl) ?_
      exact w_167 (k_63) K_63 x1 x2 x3 x4 x5 x6 x7 x8 x9 x10 x11 x6 u _ _ _ hP hS (lv_sub hl [0, 1, 2, 3, 4, 5, 6, 7, 8, 9, 10, 11] rfl) hf
    rw [if_neg c_38] at hf
    refine lv_iload hx hb dX6_picked_160 (lv_at hl 5 rfl) ?_
    refine lv_goto (tgt := 167) hx hb dX6_picked_162 (by decide) ?_
    exact w_167 (k_63) K_63 x1 x2 x3 x4 x5 x6 x7 x8 x9 x10 x11 x5 u _ _ _ hP hS (lv_sub hl [0, 1, 2, 3, 4, 5, 6, 7, 8, 9, 10, 11] rfl) hf
  have w_118 : ∀ (k_63 : Int32 → Int32 → Int32 → Int32 → Int32 → Int32 → Int32 → Int32 → Int32 → UU → Option (Int32 × UU)) (K_63 : ∀ (x1 : Int32) (x2 : Int32) (x3 : Int32) (x4 : Int32) (x5 : Int32) (x6 : Int32) (x7 : Int32) (x8 : Int32) (x9 : Int32) (u : UU) (H : Heap) (locs : List Loc) (ls : Array Slot), Ps g 55 20 u H → va_S (aA g) s.heap H locs → lv_has ls 14 [(0, .ref (aD g 55)), (1, .int x1), (2, .int x2), (3, .int x3), (4, .int x4), (5, .int x5), (6, .int x6), (7, .int x7), (8, .int x8), (9, .int x9)] → k_63 x1 x2 x3 x4 x5 x6 x7 x8 x9 u = some (r, u') → W p l e R s m args below meth c H locs 0 0 Q (F0 m 63 ls [])), ∀ (x1 : Int32) (x2 : Int32) (x3 : Int32) (x4 : Int32) (x5 : Int32) (x6 : Int32) (x7 : Int32) (x8 : Int32) (x9 : Int32) (x10 : Int32) (x11 : Int32) (t0 : Int32) (u : UU) (H : Heap) (locs : List Loc) (ls : Array Slot), Ps g 55 20 u H → va_S (aA g) s.heap H locs → lv_has ls 14 [(0, .ref (aD g 55)), (1, .int x1), (2, .int x2), (3, .int x3), (4, .int x4), (5, .int x5), (6, .int x6), (7, .int x7), (8, .int x8), (9, .int x9), (10, .int x10), (11, .int x11)] → f_X6_picked_118 k_63 x1 x2 x3 x4 x5 x6 x7 x8 x9 x10 x11 t0 u = some (r, u') → W p l e R s m args below meth c H locs 0 0 Q (F0 m 118 ls [.int t0]) := by
    intro k_63 K_63
    intro x1 x2 x3 x4 x5 x6 x7 x8 x9 x10 x11 t0 u H locs ls hP hS hl hf
    unfold f_X6_picked_118 at hf
    refine lv_istore (lv' := [(12, .int t0), (0, .ref (aD g 55)), (1, .int x1), (2, .int x2), (3, .int x3), (4, .int x4), (5, .int x5), (6, .int x6), (7, .int x7), (8, .int x8), (9, .int x9), (10, .int x10), (11, .int x11)]) hx hb dX6_picked_118 hl (by decide) rfl (fun ls hl => ?_)
    refine lv_aload_n hx hb dX6_picked_120 rfl (lv_at hl 1 rfl) ?_
    refine r_get hx hb hts hown hC hP hinX6 55 (by decide) (ci := 5) rfl (by decide) rfl 18 (by decide) (hts (.fieldLink RX6 42 "LoafPartsModel" "kind" "[I") (by decide +kernel)) (v := .ref (aD g 65)) rfl dX6_picked_121 ?_
    refine lv_iload hx hb dX6_picked_124 (lv_at hl 0 rfl) ?_
    obtain ⟨hi_16, hf⟩ := ix_ex hf
    refine r_ald hx hb hC hP 65 (by decide) rfl hi_16 dX6_picked_126 ?_
    refine lv_iload hx hb dX6_picked_127 (lv_at hl 11 rfl) ?_
    obtain ⟨q_17, hq_17, hf⟩ := bind_ex hf
    refine r_Si (As := [.int (ui u 65 (t0 : Int32).toNatClampNeg), .int x10]) (rest := []) ⟨hx, hb, hml, hown, hts⟩ hC hP hS (c_X6_takesAs l g u (ui u 65 (t0 : Int32).toNatClampNeg) x10 hq_17) (va_cwS 2 hts gX6_picked_X6_takesAs rfl rfl rfl (by decide +kernel) ⟨(Nat.le_trans (Nat.le_of_ble_eq_true rfl) hRf), (Nat.le_trans (Nat.le_of_ble_eq_true rfl) hRl)⟩) rfl hl.1 rfl (Nat.le_of_ble_eq_true rfl) dX6_picked_129 (fun H locs hP hS => ?_)
    refine lv_if_eq (tgt := 179) hx hb dX6_picked_132 (by decide) (fun c_18 => ?_) (fun c_18 => ?_)
    · rw [if_pos c_18] at hf
      exact w_179 (k_63) K_63 x1 x2 x3 x4 x5 x6 x7 x8 x9 x10 x11 u _ _ _ hP hS (lv_sub hl [1, 2, 3, 4, 5, 6, 7, 8, 9, 10, 11, 12] rfl) hf
    rw [if_neg c_18] at hf
    refine lv_iload hx hb dX6_picked_135 (lv_at hl 12 rfl) ?_
    refine lv_if_eq (tgt := 145) hx hb dX6_picked_137 (by decide) (fun c_36 => ?_) (fun c_36 => ?_)
    · rw [if_pos c_36] at hf
      refine lv_iload hx hb dX6_picked_145 (lv_at hl 9 rfl) ?_
      exact w_147 (k_63) K_63 x1 x2 x3 x4 x5 x6 x7 x8 x9 x10 x11 x8 u _ _ _ hP hS (lv_sub hl [1, 2, 3, 4, 5, 6, 7, 8, 9, 10, 11, 12] rfl) hf
    rw [if_neg c_36] at hf
    refine lv_iload hx hb dX6_picked_140 (lv_at hl 8 rfl) ?_
    refine lv_goto (tgt := 147) hx hb dX6_picked_142 (by decide) ?_
    exact w_147 (k_63) K_63 x1 x2 x3 x4 x5 x6 x7 x8 x9 x10 x11 x7 u _ _ _ hP hS (lv_sub hl [1, 2, 3, 4, 5, 6, 7, 8, 9, 10, 11, 12] rfl) hf
  have w_100 : ∀ (k_63 : Int32 → Int32 → Int32 → Int32 → Int32 → Int32 → Int32 → Int32 → Int32 → UU → Option (Int32 × UU)) (K_63 : ∀ (x1 : Int32) (x2 : Int32) (x3 : Int32) (x4 : Int32) (x5 : Int32) (x6 : Int32) (x7 : Int32) (x8 : Int32) (x9 : Int32) (u : UU) (H : Heap) (locs : List Loc) (ls : Array Slot), Ps g 55 20 u H → va_S (aA g) s.heap H locs → lv_has ls 14 [(0, .ref (aD g 55)), (1, .int x1), (2, .int x2), (3, .int x3), (4, .int x4), (5, .int x5), (6, .int x6), (7, .int x7), (8, .int x8), (9, .int x9)] → k_63 x1 x2 x3 x4 x5 x6 x7 x8 x9 u = some (r, u') → W p l e R s m args below meth c H locs 0 0 Q (F0 m 63 ls [])), ∀ (x1 : Int32) (x2 : Int32) (x3 : Int32) (x4 : Int32) (x5 : Int32) (x6 : Int32) (x7 : Int32) (x8 : Int32) (x9 : Int32) (x10 : Int32) (t0 : Int32) (u : UU) (H : Heap) (locs : List Loc) (ls : Array Slot), Ps g 55 20 u H → va_S (aA g) s.heap H locs → lv_has ls 14 [(0, .ref (aD g 55)), (1, .int x1), (2, .int x2), (3, .int x3), (4, .int x4), (5, .int x5), (6, .int x6), (7, .int x7), (8, .int x8), (9, .int x9), (10, .int x10)] → f_X6_picked_100 k_63 x1 x2 x3 x4 x5 x6 x7 x8 x9 x10 t0 u = some (r, u') → W p l e R s m args below meth c H locs 0 0 Q (F0 m 100 ls [.int t0]) := by
    intro k_63 K_63
    intro x1 x2 x3 x4 x5 x6 x7 x8 x9 x10 t0 u H locs ls hP hS hl hf
    unfold f_X6_picked_100 at hf
    refine lv_istore (lv' := [(11, .int t0), (0, .ref (aD g 55)), (1, .int x1), (2, .int x2), (3, .int x3), (4, .int x4), (5, .int x5), (6, .int x6), (7, .int x7), (8, .int x8), (9, .int x9), (10, .int x10)]) hx hb dX6_picked_100 hl (by decide) rfl (fun ls hl => ?_)
    refine lv_iload hx hb dX6_picked_102 (lv_at hl 11 rfl) ?_
    refine lv_iconst (v := (2 : Int32)) hx hb dX6_picked_104 (by decide) ?_
    refine lv_icmp_lt (tgt := 294) hx hb dX6_picked_105 (by decide) (fun c_13 => ?_) (fun c_13 => ?_)
    · rw [if_pos c_13] at hf
      exact w_294 (k_63) K_63 x1 x2 x3 x4 x5 x6 x7 x8 x9 u _ _ _ hP hS (lv_sub hl [1, 2, 3, 4, 5, 6, 7, 8, 9, 10] rfl) hf
    rw [if_neg c_13] at hf
    refine lv_iload hx hb dX6_picked_108 (lv_at hl 0 rfl) ?_
    refine lv_if_eq (tgt := 117) hx hb dX6_picked_110 (by decide) (fun c_15 => ?_) (fun c_15 => ?_)
    · rw [if_pos c_15] at hf
      refine lv_iload_n hx hb dX6_picked_117 rfl (lv_at hl 3 rfl) ?_
      exact w_118 (k_63) K_63 x1 x2 x3 x4 x5 x6 x7 x8 x9 x10 t0 x2 u _ _ _ hP hS (lv_sub hl [1, 2, 3, 4, 5, 6, 7, 8, 9, 10, 11, 0] rfl) hf
    rw [if_neg c_15] at hf
    refine lv_iload_n hx hb dX6_picked_113 rfl (lv_at hl 2 rfl) ?_
    refine lv_goto (tgt := 118) hx hb dX6_picked_114 (by decide) ?_
    exact w_118 (k_63) K_63 x1 x2 x3 x4 x5 x6 x7 x8 x9 x10 t0 x1 u _ _ _ hP hS (lv_sub hl [1, 2, 3, 4, 5, 6, 7, 8, 9, 10, 11, 0] rfl) hf
  have w_63 : ∀ (n : Nat), ∀ (x1 : Int32) (x2 : Int32) (x3 : Int32) (x4 : Int32) (x5 : Int32) (x6 : Int32) (x7 : Int32) (x8 : Int32) (x9 : Int32) (u : UU) (H : Heap) (locs : List Loc) (ls : Array Slot), Ps g 55 20 u H → va_S (aA g) s.heap H locs → lv_has ls 14 [(0, .ref (aD g 55)), (1, .int x1), (2, .int x2), (3, .int x3), (4, .int x4), (5, .int x5), (6, .int x6), (7, .int x7), (8, .int x8), (9, .int x9)] → f_X6_picked_63 n x1 x2 x3 x4 x5 x6 x7 x8 x9 u = some (r, u') → W p l e R s m args below meth c H locs 0 0 Q (F0 m 63 ls []) := by
    intro n
    induction n with
    | zero =>
      intro x1 x2 x3 x4 x5 x6 x7 x8 x9 u H locs ls hP hS hl hf
      rw [f_X6_picked_63] at hf
      cases hf
    | succ n ih =>
      intro x1 x2 x3 x4 x5 x6 x7 x8 x9 u H locs ls hP hS hl hf
      rw [f_X6_picked_63] at hf
      refine lv_iload hx hb dX6_picked_63 (lv_at hl 9 rfl) ?_
      refine lv_iload hx hb dX6_picked_65 (lv_at hl 4 rfl) ?_
      refine lv_icmp_ge (tgt := 300) hx hb dX6_picked_67 (by decide) (fun c_8 => ?_) (fun c_8 => ?_)
      · rw [if_pos c_8] at hf
        refine lv_aload_n hx hb dX6_picked_300 rfl (lv_at hl 0 rfl) ?_
        refine lv_iload_n hx hb dX6_picked_301 rfl (lv_at hl 1 rfl) ?_
        obtain ⟨q_9, hq_9, hf⟩ := bind_ex hf
        refine r_Vi (As := [.int x1]) (rest := []) (k := 55) (ci := 5) ⟨hx, hb, hml, hown, hts⟩ hC hP hS (by decide) rfl (by decide) rfl (c_X6_due l g u x1 hq_9) (cwV 1 hts gX6_picked_X6_due rfl rfl rfl (by decide +kernel) ⟨(Nat.le_trans (Nat.le_of_ble_eq_true rfl) hRf), (Nat.le_trans (Nat.le_of_ble_eq_true rfl) hRl)⟩) rfl hl.1 rfl (Nat.le_of_ble_eq_true rfl) dX6_picked_302 (fun H locs hP hS => ?_)
        refine lv_iload hx hb dX6_picked_305 (lv_at hl 5 rfl) ?_
        refine lv_isub hx hb dX6_picked_307 ?_
        refine lv_aload_n hx hb dX6_picked_308 rfl (lv_at hl 0 rfl) ?_
        refine lv_iload_n hx hb dX6_picked_309 rfl (lv_at hl 2 rfl) ?_
        obtain ⟨q_10, hq_10, hf⟩ := bind_ex hf
        refine r_Vi (As := [.int x2]) (rest := [.int (q_9 - x5)]) (k := 55) (ci := 5) ⟨hx, hb, hml, hown, hts⟩ hC hP hS (by decide) rfl (by decide) rfl (c_X6_due l g u x2 hq_10) (cwV 1 hts gX6_picked_X6_due rfl rfl rfl (by decide +kernel) ⟨(Nat.le_trans (Nat.le_of_ble_eq_true rfl) hRf), (Nat.le_trans (Nat.le_of_ble_eq_true rfl) hRl)⟩) rfl hl.1 rfl (Nat.le_of_ble_eq_true rfl) dX6_picked_310 (fun H locs hP hS => ?_)
        refine lv_isub hx hb dX6_picked_313 ?_
        refine lv_iload hx hb dX6_picked_314 (lv_at hl 6 rfl) ?_
        refine lv_iadd hx hb dX6_picked_316 ?_
        obtain ⟨rfl, rfl⟩ := sp2 hf
        exact kret _ _ _ _ dX6_picked_317 hP hS trivial
      rw [if_neg c_8] at hf
      refine lv_iload_n hx hb dX6_picked_70 rfl (lv_at hl 3 rfl) ?_
      refine lv_iconst (v := (4 : Int32)) hx hb dX6_picked_71 (by decide) ?_
      refine lv_iload hx hb dX6_picked_72 (lv_at hl 4 rfl) ?_
      refine lv_iconst (v := (1 : Int32)) hx hb dX6_picked_74 (by decide) ?_
      refine lv_isub hx hb dX6_picked_75 ?_
      refine lv_iload hx hb dX6_picked_76 (lv_at hl 9 rfl) ?_
      refine lv_isub hx hb dX6_picked_78 ?_
      refine lv_imul hx hb dX6_picked_79 ?_
      refine lv_ishr hx hb dX6_picked_80 ?_
      refine lv_bipush (v := (15 : Int32)) hx hb dX6_picked_81 (by decide) ?_
      refine lv_iand hx hb dX6_picked_83 ?_
      refine lv_iconst (v := (1 : Int32)) hx hb dX6_picked_84 (by decide) ?_
      refine lv_iadd hx hb dX6_picked_85 ?_
      obtain ⟨x10_11, ex10_11, hf⟩ := lt_ex hf
      refine r_nm ex10_11 ?_
      refine lv_istore (lv' := [(10, .int x10_11), (0, .ref (aD g 55)), (1, .int x1), (2, .int x2), (3, .int x3), (4, .int x4), (5, .int x5), (6, .int x6), (7, .int x7), (8, .int x8), (9, .int x9)]) hx hb dX6_picked_86 hl (by decide) rfl (fun ls hl => ?_)
      refine lv_iload hx hb dX6_picked_88 (lv_at hl 10 rfl) ?_
      refine lv_iconst (v := (2 : Int32)) hx hb dX6_picked_90 (by decide) ?_
      refine lv_irem hx hb dX6_picked_91 (by decide) ?_
      refine lv_if_ne (tgt := 99) hx hb dX6_picked_92 (by decide) (fun c_12 => ?_) (fun c_12 => ?_)
      · rw [if_neg c_12] at hf
        refine lv_iconst (v := (0 : Int32)) hx hb dX6_picked_99 (by decide) ?_
        exact w_100 (f_X6_picked_63 n) ih x1 x2 x3 x4 x5 x6 x7 x8 x9 x10_11 (0 : Int32) u _ _ _ hP hS (lv_sub hl [1, 2, 3, 4, 5, 6, 7, 8, 9, 10, 0] rfl) hf
      rw [if_pos c_12] at hf
      refine lv_iconst (v := (1 : Int32)) hx hb dX6_picked_95 (by decide) ?_
      refine lv_goto (tgt := 100) hx hb dX6_picked_96 (by decide) ?_
      exact w_100 (f_X6_picked_63 n) ih x1 x2 x3 x4 x5 x6 x7 x8 x9 x10_11 (1 : Int32) u _ _ _ hP hS (lv_sub hl [1, 2, 3, 4, 5, 6, 7, 8, 9, 10, 0] rfl) hf
  have w_3 : ∀ (n : Nat), ∀ (x1 : Int32) (x2 : Int32) (x3 : Int32) (x4 : Int32) (x5 : Int32) (u : UU) (H : Heap) (locs : List Loc) (ls : Array Slot), Ps g 55 20 u H → va_S (aA g) s.heap H locs → lv_has ls 14 [(0, .ref (aD g 55)), (1, .int x1), (2, .int x2), (3, .int x3), (4, .int x4), (5, .int x5)] → f_X6_picked_3 n x1 x2 x3 x4 x5 u = some (r, u') → W p l e R s m args below meth c H locs 0 0 Q (F0 m 3 ls []) := by
    intro n
    induction n with
    | zero =>
      intro x1 x2 x3 x4 x5 u H locs ls hP hS hl hf
      rw [f_X6_picked_3] at hf
      cases hf
    | succ n ih =>
      intro x1 x2 x3 x4 x5 u H locs ls hP hS hl hf
      rw [f_X6_picked_3] at hf
      refine lv_iload hx hb dX6_picked_3 (lv_at hl 5 rfl) ?_
      refine lv_bipush (v := (16 : Int32)) hx hb dX6_picked_5 (by decide) ?_
      refine lv_icmp_gt (tgt := 24) hx hb dX6_picked_7 (by decide) (fun c_1 => ?_) (fun c_1 => ?_)
      · rw [if_pos c_1] at hf
        refine lv_aload_n hx hb dX6_picked_24 rfl (lv_at hl 0 rfl) ?_
        refine lv_iload_n hx hb dX6_picked_25 rfl (lv_at hl 1 rfl) ?_
        obtain ⟨q_2, hq_2, hf⟩ := bind_ex hf
        refine r_Vi (As := [.int x1]) (rest := []) (k := 55) (ci := 5) ⟨hx, hb, hml, hown, hts⟩ hC hP hS (by decide) rfl (by decide) rfl (c_X6_lackOf l g u x1 hq_2) (cwV 1 hts gX6_picked_X6_lackOf rfl rfl rfl (by decide +kernel) ⟨(Nat.le_trans (Nat.le_of_ble_eq_true rfl) hRf), (Nat.le_trans (Nat.le_of_ble_eq_true rfl) hRl)⟩) rfl hl.1 rfl (Nat.le_of_ble_eq_true rfl) dX6_picked_26 (fun H locs hP hS => ?_)
        refine lv_istore (lv' := [(5, .int q_2), (0, .ref (aD g 55)), (1, .int x1), (2, .int x2), (3, .int x3), (4, .int x4)]) hx hb dX6_picked_29 hl (by decide) rfl (fun ls hl => ?_)
        refine lv_aload_n hx hb dX6_picked_31 rfl (lv_at hl 1 rfl) ?_
        refine lv_iload_n hx hb dX6_picked_32 rfl (lv_at hl 3 rfl) ?_
        obtain ⟨q_3, hq_3, hf⟩ := bind_ex hf
        refine r_Vi (As := [.int x2]) (rest := []) (k := 55) (ci := 5) ⟨hx, hb, hml, hown, hts⟩ hC hP hS (by decide) rfl (by decide) rfl (c_X6_lackOf l g u x2 hq_3) (cwV 1 hts gX6_picked_X6_lackOf rfl rfl rfl (by decide +kernel) ⟨(Nat.le_trans (Nat.le_of_ble_eq_true rfl) hRf), (Nat.le_trans (Nat.le_of_ble_eq_true rfl) hRl)⟩) rfl hl.1 rfl (Nat.le_of_ble_eq_true rfl) dX6_picked_33 (fun H locs hP hS => ?_)
        refine lv_istore (lv' := [(6, .int q_3), (5, .int q_2), (0, .ref (aD g 55)), (1, .int x1), (2, .int x2), (3, .int x3), (4, .int x4)]) hx hb dX6_picked_36 hl (by decide) rfl (fun ls hl => ?_)
        refine lv_aload_n hx hb dX6_picked_38 rfl (lv_at hl 2 rfl) ?_
        refine r_get hx hb hts hown hC hP hinX6 55 (by decide) (ci := 5) rfl (by decide) rfl 21 (by decide) (hts (.fieldLink RX6 51 "LoafPartsModel" "now" "[I") (by decide +kernel)) (v := .ref (aD g 68)) rfl dX6_picked_39 ?_
        refine lv_bipush (v := (18 : Int32)) hx hb dX6_picked_42 (by decide) ?_
        refine lv_iload_n hx hb dX6_picked_44 rfl (lv_at hl 3 rfl) ?_
        refine lv_iadd hx hb dX6_picked_45 ?_
        obtain ⟨hi_4, hf⟩ := ix_ex hf
        refine r_ald hx hb hC hP 68 (by decide) rfl hi_4 dX6_picked_46 ?_
        obtain ⟨x7_5, ex7_5, hf⟩ := lt_ex hf
        refine r_nm ex7_5 ?_
        refine lv_istore (lv' := [(7, .int x7_5), (6, .int q_3), (5, .int q_2), (0, .ref (aD g 55)), (1, .int x1), (2, .int x2), (3, .int x3), (4, .int x4)]) hx hb dX6_picked_47 hl (by decide) rfl (fun ls hl => ?_)
        refine lv_aload_n hx hb dX6_picked_49 rfl (lv_at hl 3 rfl) ?_
        refine r_get hx hb hts hown hC hP hinX6 55 (by decide) (ci := 5) rfl (by decide) rfl 21 (by decide) (hts (.fieldLink RX6 51 "LoafPartsModel" "now" "[I") (by decide +kernel)) (v := .ref (aD g 68)) rfl dX6_picked_50 ?_
        refine lv_bipush (v := (18 : Int32)) hx hb dX6_picked_53 (by decide) ?_
        refine lv_iload_n hx hb dX6_picked_55 rfl (lv_at hl 5 rfl) ?_
        refine lv_iadd hx hb dX6_picked_56 ?_
        obtain ⟨hi_6, hf⟩ := ix_ex hf
        refine r_ald hx hb hC hP 68 (by decide) rfl hi_6 dX6_picked_57 ?_
        obtain ⟨x8_7, ex8_7, hf⟩ := lt_ex hf
        refine r_nm ex8_7 ?_
        refine lv_istore (lv' := [(8, .int x8_7), (7, .int x7_5), (6, .int q_3), (5, .int q_2), (0, .ref (aD g 55)), (1, .int x1), (2, .int x2), (3, .int x3), (4, .int x4)]) hx hb dX6_picked_58 hl (by decide) rfl (fun ls hl => ?_)
        refine lv_iconst (v := (0 : Int32)) hx hb dX6_picked_60 (by decide) ?_
        refine lv_istore (lv' := [(9, .int (0 : Int32)), (8, .int x8_7), (7, .int x7_5), (6, .int q_3), (5, .int q_2), (0, .ref (aD g 55)), (1, .int x1), (2, .int x2), (3, .int x3), (4, .int x4)]) hx hb dX6_picked_61 hl (by decide) rfl (fun ls hl => ?_)
        exact w_63 fu x1 x2 x3 x4 q_2 q_3 x7_5 x8_7 (0 : Int32) u _ _ _ hP hS (lv_sub hl [5, 6, 7, 8, 9, 4, 3, 2, 1, 0] rfl) hf
      rw [if_neg c_1] at hf
      refine lv_aload_n hx hb dX6_picked_10 rfl (lv_at hl 0 rfl) ?_
      refine r_get hx hb hts hown hC hP hinX6 55 (by decide) (ci := 5) rfl (by decide) rfl 32 (by decide) (hts (.fieldLink RX6 70 "LoafPartsModel" "spent" "[I") (by decide +kernel)) (v := .ref (aD g 74)) rfl dX6_picked_11 ?_
      refine lv_iload hx hb dX6_picked_14 (lv_at hl 5 rfl) ?_
      refine lv_iconst (v := (0 : Int32)) hx hb dX6_picked_16 (by decide) ?_
      obtain ⟨hi_41, hf⟩ := ix_ex hf
      obtain ⟨u_42, eu_42, hf⟩ := lt_ex hf
      refine r_ast hx hb hC hP hS 74 (by decide) rfl hi_41 eu_42 dX6_picked_17 (fun H locs hP hS => ?_)
      obtain ⟨x5_43, ex5_43, hf⟩ := lt_ex hf
      refine lv_iinc (v := x5_43) (lv' := [(5, .int x5_43), (0, .ref (aD g 55)), (1, .int x1), (2, .int x2), (3, .int x3), (4, .int x4)]) hx hb dX6_picked_18 hl (k := 5) rfl (by rw [ex5_43]; rfl) (by decide) rfl (fun ls hl => ?_)
      refine lv_goto (tgt := 3) hx hb dX6_picked_21 (by decide) ?_
      exact ih x1 x2 x3 x4 x5_43 u_42 _ _ _ hP hS (lv_sub hl [1, 2, 3, 4, 5, 0] rfl) hf
  unfold f_X6_picked at hf
  refine lv_iconst (v := (0 : Int32)) hx hb dX6_picked_0 (by decide) ?_
  refine lv_istore (lv' := [(5, .int (0 : Int32)), (0, .ref (aD g 55)), (1, .int x1), (2, .int x2), (3, .int x3), (4, .int x4)]) hx hb dX6_picked_1 hl (by decide) rfl (fun ls hl => ?_)
  exact w_3 fu x1 x2 x3 x4 (0 : Int32) u _ _ _ hP hS (lv_sub hl [1, 2, 3, 4, 5, 0] rfl) hf
set_option maxHeartbeats 4000000 in
set_option maxRecDepth 100000 in
theorem c_X6_duel (l : Launch) (g : GG) (u : UU) (x1 : Int32) (x2 : Int32) (x3 : Int32) {r : Int32} {u' : UU} (hf : f_X6_duel x1 x2 x3 u = some (r, u')) : Ci l g 55 20 yX6_duel wsX6_duel 4 97 [.ref (aD g 55), .int x1, .int x2, .int x3] u r u' := by
  refine ct_i (cc := cX6_duel) (maxL := 11) (by decide) rfl (Nat.le_of_ble_eq_true rfl) ?_
  intro p e s m args below meth c R Q ls hx hb hml hown hts hC hP hl hRf hRl kret hS
  have hown : s.vm.findClass RX6 = some m.cls := hown
  have hl : lv_has ls 11 [(0, .ref (aD g 55)), (1, .int x1), (2, .int x2), (3, .int x3)] := hl
  have hinX6 : ∀ w ∈ u_ws RX6 TX6 34, w ∈ wsX6_duel := by decide +kernel
  have w_184 : ∀ (k_76 : Int32 → Int32 → UU → Option (Int32 × UU)) (K_76 : ∀ (x4 : Int32) (x5 : Int32) (u : UU) (H : Heap) (locs : List Loc) (ls : Array Slot), Ps g 55 20 u H → va_S (aA g) s.heap H locs → lv_has ls 11 [(0, .ref (aD g 55)), (4, .int x4), (5, .int x5)] → k_76 x4 x5 u = some (r, u') → W p l e R s m args below meth c H locs 0 0 Q (F0 m 76 ls [])) (k_91 : Int32 → Int32 → Int32 → UU → Option (Int32 × UU)) (K_91 : ∀ (x4 : Int32) (x5 : Int32) (x6 : Int32) (u : UU) (H : Heap) (locs : List Loc) (ls : Array Slot), Ps g 55 20 u H → va_S (aA g) s.heap H locs → lv_has ls 11 [(0, .ref (aD g 55)), (4, .int x4), (5, .int x5), (6, .int x6)] → k_91 x4 x5 x6 u = some (r, u') → W p l e R s m args below meth c H locs 0 0 Q (F0 m 91 ls [])) (k_105 : Int32 → Int32 → Int32 → Int32 → Int32 → UU → Option (Int32 × UU)) (K_105 : ∀ (x4 : Int32) (x5 : Int32) (x6 : Int32) (x7 : Int32) (x8 : Int32) (u : UU) (H : Heap) (locs : List Loc) (ls : Array Slot), Ps g 55 20 u H → va_S (aA g) s.heap H locs → lv_has ls 11 [(0, .ref (aD g 55)), (4, .int x4), (5, .int x5), (6, .int x6), (7, .int x7), (8, .int x8)] → k_105 x4 x5 x6 x7 x8 u = some (r, u') → W p l e R s m args below meth c H locs 0 0 Q (F0 m 105 ls [])), ∀ (x4 : Int32) (x5 : Int32) (x6 : Int32) (x8 : Int32) (t0 : Int32) (u : UU) (H : Heap) (locs : List Loc) (ls : Array Slot), Ps g 55 20 u H → va_S (aA g) s.heap H locs → lv_has ls 11 [(0, .ref (aD g 55)), (4, .int x4), (5, .int x5), (6, .int x6), (8, .int x8)] → f_X6_duel_184 k_76 k_91 k_105 x4 x5 x6 x8 t0 u = some (r, u') → W p l e R s m args below meth c H locs 0 0 Q (F0 m 184 ls [.int t0]) := by
    intro k_76 K_76 k_91 K_91 k_105 K_105
    intro x4 x5 x6 x8 t0 u H locs ls hP hS hl hf
    unfold f_X6_duel_184 at hf
    refine lv_istore (lv' := [(7, .int t0), (0, .ref (aD g 55)), (4, .int x4), (5, .int x5), (6, .int x6), (8, .int x8)]) hx hb dX6_duel_184 hl (by decide) rfl (fun ls hl => ?_)
    obtain ⟨x8_25, ex8_25, hf⟩ := lt_ex hf
    refine lv_iinc (v := x8_25) (lv' := [(8, .int x8_25), (7, .int t0), (0, .ref (aD g 55)), (4, .int x4), (5, .int x5), (6, .int x6)]) hx hb dX6_duel_186 hl (k := 5) rfl (by rw [ex8_25]; rfl) (by decide) rfl (fun ls hl => ?_)
    refine lv_goto (tgt := 105) hx hb dX6_duel_189 (by decide) ?_
    exact K_105 x4 x5 x6 t0 x8_25 u _ _ _ hP hS (lv_sub hl [2, 3, 4, 5, 1, 0] rfl) hf
  have w_170 : ∀ (k_76 : Int32 → Int32 → UU → Option (Int32 × UU)) (K_76 : ∀ (x4 : Int32) (x5 : Int32) (u : UU) (H : Heap) (locs : List Loc) (ls : Array Slot), Ps g 55 20 u H → va_S (aA g) s.heap H locs → lv_has ls 11 [(0, .ref (aD g 55)), (4, .int x4), (5, .int x5)] → k_76 x4 x5 u = some (r, u') → W p l e R s m args below meth c H locs 0 0 Q (F0 m 76 ls [])) (k_91 : Int32 → Int32 → Int32 → UU → Option (Int32 × UU)) (K_91 : ∀ (x4 : Int32) (x5 : Int32) (x6 : Int32) (u : UU) (H : Heap) (locs : List Loc) (ls : Array Slot), Ps g 55 20 u H → va_S (aA g) s.heap H locs → lv_has ls 11 [(0, .ref (aD g 55)), (4, .int x4), (5, .int x5), (6, .int x6)] → k_91 x4 x5 x6 u = some (r, u') → W p l e R s m args below meth c H locs 0 0 Q (F0 m 91 ls [])) (k_105 : Int32 → Int32 → Int32 → Int32 → Int32 → UU → Option (Int32 × UU)) (K_105 : ∀ (x4 : Int32) (x5 : Int32) (x6 : Int32) (x7 : Int32) (x8 : Int32) (u : UU) (H : Heap) (locs : List Loc) (ls : Array Slot), Ps g 55 20 u H → va_S (aA g) s.heap H locs → lv_has ls 11 [(0, .ref (aD g 55)), (4, .int x4), (5, .int x5), (6, .int x6), (7, .int x7), (8, .int x8)] → k_105 x4 x5 x6 x7 x8 u = some (r, u') → W p l e R s m args below meth c H locs 0 0 Q (F0 m 105 ls [])), ∀ (x4 : Int32) (x5 : Int32) (x6 : Int32) (x7 : Int32) (x8 : Int32) (x9 : Int32) (t0 : Int32) (u : UU) (H : Heap) (locs : List Loc) (ls : Array Slot), Ps g 55 20 u H → va_S (aA g) s.heap H locs → lv_has ls 11 [(0, .ref (aD g 55)), (4, .int x4), (5, .int x5), (6, .int x6), (7, .int x7), (8, .int x8), (9, .int x9)] → f_X6_duel_170 k_76 k_91 k_105 x4 x5 x6 x7 x8 x9 t0 u = some (r, u') → W p l e R s m args below meth c H locs 0 0 Q (F0 m 170 ls [.int t0]) := by
    intro k_76 K_76 k_91 K_91 k_105 K_105
    intro x4 x5 x6 x7 x8 x9 t0 u H locs ls hP hS hl hf
    unfold f_X6_duel_170 at hf
    refine lv_istore (lv' := [(10, .int t0), (0, .ref (aD g 55)), (4, .int x4), (5, .int x5), (6, .int x6), (7, .int x7), (8, .int x8), (9, .int x9)]) hx hb dX6_duel_170 hl (by decide) rfl (fun ls hl => ?_)
    refine lv_iload hx hb dX6_duel_172 (lv_at hl 0 rfl) ?_
    refine lv_if_eq (tgt := 182) hx hb dX6_duel_174 (by decide) (fun c_24 => ?_) (fun c_24 => ?_)
    · rw [if_pos c_24] at hf
      refine lv_iload hx hb dX6_duel_182 (lv_at hl 5 rfl) ?_
      exact w_184 (k_76) K_76 (k_91) K_91 (k_105) K_105 x4 x5 x6 x8 x7 u _ _ _ hP hS (lv_sub hl [1, 2, 3, 4, 6] rfl) hf
    rw [if_neg c_24] at hf
    refine lv_iload hx hb dX6_duel_177 (lv_at hl 7 rfl) ?_
    refine lv_goto (tgt := 184) hx hb dX6_duel_179 (by decide) ?_
    exact w_184 (k_76) K_76 (k_91) K_91 (k_105) K_105 x4 x5 x6 x8 x9 u _ _ _ hP hS (lv_sub hl [1, 2, 3, 4, 6] rfl) hf
  have w_169 : ∀ (k_76 : Int32 → Int32 → UU → Option (Int32 × UU)) (K_76 : ∀ (x4 : Int32) (x5 : Int32) (u : UU) (H : Heap) (locs : List Loc) (ls : Array Slot), Ps g 55 20 u H → va_S (aA g) s.heap H locs → lv_has ls 11 [(0, .ref (aD g 55)), (4, .int x4), (5, .int x5)] → k_76 x4 x5 u = some (r, u') → W p l e R s m args below meth c H locs 0 0 Q (F0 m 76 ls [])) (k_91 : Int32 → Int32 → Int32 → UU → Option (Int32 × UU)) (K_91 : ∀ (x4 : Int32) (x5 : Int32) (x6 : Int32) (u : UU) (H : Heap) (locs : List Loc) (ls : Array Slot), Ps g 55 20 u H → va_S (aA g) s.heap H locs → lv_has ls 11 [(0, .ref (aD g 55)), (4, .int x4), (5, .int x5), (6, .int x6)] → k_91 x4 x5 x6 u = some (r, u') → W p l e R s m args below meth c H locs 0 0 Q (F0 m 91 ls [])) (k_105 : Int32 → Int32 → Int32 → Int32 → Int32 → UU → Option (Int32 × UU)) (K_105 : ∀ (x4 : Int32) (x5 : Int32) (x6 : Int32) (x7 : Int32) (x8 : Int32) (u : UU) (H : Heap) (locs : List Loc) (ls : Array Slot), Ps g 55 20 u H → va_S (aA g) s.heap H locs → lv_has ls 11 [(0, .ref (aD g 55)), (4, .int x4), (5, .int x5), (6, .int x6), (7, .int x7), (8, .int x8)] → k_105 x4 x5 x6 x7 x8 u = some (r, u') → W p l e R s m args below meth c H locs 0 0 Q (F0 m 105 ls [])), ∀ (x4 : Int32) (x5 : Int32) (x6 : Int32) (x7 : Int32) (x8 : Int32) (x9 : Int32) (u : UU) (H : Heap) (locs : List Loc) (ls : Array Slot), Ps g 55 20 u H → va_S (aA g) s.heap H locs → lv_has ls 11 [(0, .ref (aD g 55)), (4, .int x4), (5, .int x5), (6, .int x6), (7, .int x7), (8, .int x8), (9, .int x9)] → f_X6_duel_169 k_76 k_91 k_105 x4 x5 x6 x7 x8 x9 u = some (r, u') → W p l e R s m args below meth c H locs 0 0 Q (F0 m 169 ls []) := by
    intro k_76 K_76 k_91 K_91 k_105 K_105
    intro x4 x5 x6 x7 x8 x9 u H locs ls hP hS hl hf
    unfold f_X6_duel_169 at hf
    refine lv_iconst (v := (0 : Int32)) hx hb dX6_duel_169 (by decide) ?_
    exact w_170 (k_76) K_76 (k_91) K_91 (k_105) K_105 x4 x5 x6 x7 x8 x9 (0 : Int32) u _ _ _ hP hS (lv_sub hl [0, 1, 2, 3, 4, 5, 6] rfl) hf
  have w_165 : ∀ (k_76 : Int32 → Int32 → UU → Option (Int32 × UU)) (K_76 : ∀ (x4 : Int32) (x5 : Int32) (u : UU) (H : Heap) (locs : List Loc) (ls : Array Slot), Ps g 55 20 u H → va_S (aA g) s.heap H locs → lv_has ls 11 [(0, .ref (aD g 55)), (4, .int x4), (5, .int x5)] → k_76 x4 x5 u = some (r, u') → W p l e R s m args below meth c H locs 0 0 Q (F0 m 76 ls [])) (k_91 : Int32 → Int32 → Int32 → UU → Option (Int32 × UU)) (K_91 : ∀ (x4 : Int32) (x5 : Int32) (x6 : Int32) (u : UU) (H : Heap) (locs : List Loc) (ls : Array Slot), Ps g 55 20 u H → va_S (aA g) s.heap H locs → lv_has ls 11 [(0, .ref (aD g 55)), (4, .int x4), (5, .int x5), (6, .int x6)] → k_91 x4 x5 x6 u = some (r, u') → W p l e R s m args below meth c H locs 0 0 Q (F0 m 91 ls [])) (k_105 : Int32 → Int32 → Int32 → Int32 → Int32 → UU → Option (Int32 × UU)) (K_105 : ∀ (x4 : Int32) (x5 : Int32) (x6 : Int32) (x7 : Int32) (x8 : Int32) (u : UU) (H : Heap) (locs : List Loc) (ls : Array Slot), Ps g 55 20 u H → va_S (aA g) s.heap H locs → lv_has ls 11 [(0, .ref (aD g 55)), (4, .int x4), (5, .int x5), (6, .int x6), (7, .int x7), (8, .int x8)] → k_105 x4 x5 x6 x7 x8 u = some (r, u') → W p l e R s m args below meth c H locs 0 0 Q (F0 m 105 ls [])), ∀ (x4 : Int32) (x5 : Int32) (x6 : Int32) (x7 : Int32) (x8 : Int32) (x9 : Int32) (u : UU) (H : Heap) (locs : List Loc) (ls : Array Slot), Ps g 55 20 u H → va_S (aA g) s.heap H locs → lv_has ls 11 [(0, .ref (aD g 55)), (4, .int x4), (5, .int x5), (6, .int x6), (7, .int x7), (8, .int x8), (9, .int x9)] → f_X6_duel_165 k_76 k_91 k_105 x4 x5 x6 x7 x8 x9 u = some (r, u') → W p l e R s m args below meth c H locs 0 0 Q (F0 m 165 ls []) := by
    intro k_76 K_76 k_91 K_91 k_105 K_105
    intro x4 x5 x6 x7 x8 x9 u H locs ls hP hS hl hf
    unfold f_X6_duel_165 at hf
    refine lv_iconst (v := (1 : Int32)) hx hb dX6_duel_165 (by decide) ?_
    refine lv_goto (tgt := 170) hx hb dX6_duel_166 (by decide) ?_
    exact w_170 (k_76) K_76 (k_91) K_91 (k_105) K_105 x4 x5 x6 x7 x8 x9 (1 : Int32) u _ _ _ hP hS (lv_sub hl [0, 1, 2, 3, 4, 5, 6] rfl) hf
  have w_105 : ∀ (k_76 : Int32 → Int32 → UU → Option (Int32 × UU)) (K_76 : ∀ (x4 : Int32) (x5 : Int32) (u : UU) (H : Heap) (locs : List Loc) (ls : Array Slot), Ps g 55 20 u H → va_S (aA g) s.heap H locs → lv_has ls 11 [(0, .ref (aD g 55)), (4, .int x4), (5, .int x5)] → k_76 x4 x5 u = some (r, u') → W p l e R s m args below meth c H locs 0 0 Q (F0 m 76 ls [])) (k_91 : Int32 → Int32 → Int32 → UU → Option (Int32 × UU)) (K_91 : ∀ (x4 : Int32) (x5 : Int32) (x6 : Int32) (u : UU) (H : Heap) (locs : List Loc) (ls : Array Slot), Ps g 55 20 u H → va_S (aA g) s.heap H locs → lv_has ls 11 [(0, .ref (aD g 55)), (4, .int x4), (5, .int x5), (6, .int x6)] → k_91 x4 x5 x6 u = some (r, u') → W p l e R s m args below meth c H locs 0 0 Q (F0 m 91 ls [])) (n : Nat), ∀ (x4 : Int32) (x5 : Int32) (x6 : Int32) (x7 : Int32) (x8 : Int32) (u : UU) (H : Heap) (locs : List Loc) (ls : Array Slot), Ps g 55 20 u H → va_S (aA g) s.heap H locs → lv_has ls 11 [(0, .ref (aD g 55)), (4, .int x4), (5, .int x5), (6, .int x6), (7, .int x7), (8, .int x8)] → f_X6_duel_105 k_76 k_91 n x4 x5 x6 x7 x8 u = some (r, u') → W p l e R s m args below meth c H locs 0 0 Q (F0 m 105 ls []) := by
    intro k_76 K_76 k_91 K_91 n
    induction n with
    | zero =>
      intro x4 x5 x6 x7 x8 u H locs ls hP hS hl hf
      rw [f_X6_duel_105] at hf
      cases hf
    | succ n ih =>
      intro x4 x5 x6 x7 x8 u H locs ls hP hS hl hf
      rw [f_X6_duel_105] at hf
      refine lv_iload hx hb dX6_duel_105 (lv_at hl 5 rfl) ?_
      refine lv_bipush (v := (16 : Int32)) hx hb dX6_duel_107 (by decide) ?_
      refine lv_icmp_ge (tgt := 192) hx hb dX6_duel_109 (by decide) (fun c_17 => ?_) (fun c_17 => ?_)
      · rw [if_pos c_17] at hf
        refine lv_aload_n hx hb dX6_duel_192 rfl (lv_at hl 0 rfl) ?_
        refine r_get hx hb hts hown hC hP hinX6 55 (by decide) (ci := 5) rfl (by decide) rfl 31 (by decide) (hts (.fieldLink RX6 67 "LoafPartsModel" "outcomes" "[I") (by decide +kernel)) (v := .ref (aD g 73)) rfl dX6_duel_193 ?_
        refine lv_iload hx hb dX6_duel_196 (lv_at hl 3 rfl) ?_
        refine lv_iload hx hb dX6_duel_198 (lv_at hl 4 rfl) ?_
        obtain ⟨hi_18, hf⟩ := ix_ex hf
        obtain ⟨u_19, eu_19, hf⟩ := lt_ex hf
        refine r_ast hx hb hC hP hS 73 (by decide) rfl hi_18 eu_19 dX6_duel_200 (fun H locs hP hS => ?_)
        obtain ⟨x6_20, ex6_20, hf⟩ := lt_ex hf
        refine lv_iinc (v := x6_20) (lv' := [(6, .int x6_20), (0, .ref (aD g 55)), (4, .int x4), (5, .int x5), (7, .int x7), (8, .int x8)]) hx hb dX6_duel_201 hl (k := 3) rfl (by rw [ex6_20]; rfl) (by decide) rfl (fun ls hl => ?_)
        refine lv_goto (tgt := 91) hx hb dX6_duel_204 (by decide) ?_
        exact K_91 x4 x5 x6_20 u_19 _ _ _ hP hS (lv_sub hl [1, 2, 3, 0] rfl) hf
      rw [if_neg c_17] at hf
      refine lv_aload_n hx hb dX6_duel_112 rfl (lv_at hl 0 rfl) ?_
      refine r_get hx hb hts hown hC hP hinX6 55 (by decide) (ci := 5) rfl (by decide) rfl 31 (by decide) (hts (.fieldLink RX6 67 "LoafPartsModel" "outcomes" "[I") (by decide +kernel)) (v := .ref (aD g 73)) rfl dX6_duel_113 ?_
      refine lv_bipush (v := (16 : Int32)) hx hb dX6_duel_116 (by decide) ?_
      refine lv_iload hx hb dX6_duel_118 (lv_at hl 3 rfl) ?_
      refine lv_imul hx hb dX6_duel_120 ?_
      refine lv_iload hx hb dX6_duel_121 (lv_at hl 5 rfl) ?_
      refine lv_iadd hx hb dX6_duel_123 ?_
      obtain ⟨hi_21, hf⟩ := ix_ex hf
      refine r_ald hx hb hC hP 73 (by decide) rfl hi_21 dX6_duel_124 ?_
      obtain ⟨x9_22, ex9_22, hf⟩ := lt_ex hf
      refine r_nm ex9_22 ?_
      refine lv_istore (lv' := [(9, .int x9_22), (0, .ref (aD g 55)), (4, .int x4), (5, .int x5), (6, .int x6), (7, .int x7), (8, .int x8)]) hx hb dX6_duel_125 hl (by decide) rfl (fun ls hl => ?_)
      refine lv_iload hx hb dX6_duel_127 (lv_at hl 0 rfl) ?_
      refine lv_ldc (v := (-1000000000 : Int32)) hx hb hown (hts (.constant RX6 241 (-1000000000)) (by decide +kernel)) dX6_duel_129 ?_
      refine lv_icmp_eq (tgt := 169) hx hb dX6_duel_131 (by decide) (fun c_23 => ?_) (fun c_23 => ?_)
      · rw [if_pos c_23] at hf
        exact w_169 (k_76) K_76 (k_91) K_91 (f_X6_duel_105 k_76 k_91 n) ih x4 x5 x6 x7 x8 x9_22 u _ _ _ hP hS (lv_sub hl [1, 2, 3, 4, 5, 6, 0] rfl) hf
      rw [if_neg c_23] at hf
      refine lv_iload hx hb dX6_duel_134 (lv_at hl 5 rfl) ?_
      refine lv_ldc (v := (-1000000000 : Int32)) hx hb hown (hts (.constant RX6 241 (-1000000000)) (by decide +kernel)) dX6_duel_136 ?_
      refine lv_icmp_eq (tgt := 165) hx hb dX6_duel_138 (by decide) (fun c_26 => ?_) (fun c_26 => ?_)
      · rw [if_pos c_26] at hf
        exact w_165 (k_76) K_76 (k_91) K_91 (f_X6_duel_105 k_76 k_91 n) ih x4 x5 x6 x7 x8 x9_22 u _ _ _ hP hS (lv_sub hl [1, 2, 3, 4, 5, 6, 0] rfl) hf
      rw [if_neg c_26] at hf
      refine lv_iload hx hb dX6_duel_141 (lv_at hl 3 rfl) ?_
      refine lv_iconst (v := (2 : Int32)) hx hb dX6_duel_143 (by decide) ?_
      refine lv_irem hx hb dX6_duel_144 (by decide) ?_
      refine lv_if_ne (tgt := 158) hx hb dX6_duel_145 (by decide) (fun c_27 => ?_) (fun c_27 => ?_)
      · rw [if_neg c_27] at hf
        refine lv_iload hx hb dX6_duel_158 (lv_at hl 0 rfl) ?_
        refine lv_iload hx hb dX6_duel_160 (lv_at hl 5 rfl) ?_
        refine lv_icmp_ge (tgt := 169) hx hb dX6_duel_162 (by decide) (fun c_28 => ?_) (fun c_28 => ?_)
        · rw [if_pos c_28] at hf
          exact w_169 (k_76) K_76 (k_91) K_91 (f_X6_duel_105 k_76 k_91 n) ih x4 x5 x6 x7 x8 x9_22 u _ _ _ hP hS (lv_sub hl [1, 2, 3, 4, 5, 6, 0] rfl) hf
        rw [if_neg c_28] at hf
        exact w_165 (k_76) K_76 (k_91) K_91 (f_X6_duel_105 k_76 k_91 n) ih x4 x5 x6 x7 x8 x9_22 u _ _ _ hP hS (lv_sub hl [1, 2, 3, 4, 5, 6, 0] rfl) hf
      rw [if_pos c_27] at hf
      refine lv_iload hx hb dX6_duel_148 (lv_at hl 0 rfl) ?_
      refine lv_iload hx hb dX6_duel_150 (lv_at hl 5 rfl) ?_
      refine lv_icmp_le (tgt := 169) hx hb dX6_duel_152 (by decide) (fun c_29 => ?_) (fun c_29 => ?_)
      · rw [if_pos c_29] at hf
        exact w_169 (k_76) K_76 (k_91) K_91 (f_X6_duel_105 k_76 k_91 n) ih x4 x5 x6 x7 x8 x9_22 u _ _ _ hP hS (lv_sub hl [1, 2, 3, 4, 5, 6, 0] rfl) hf
      rw [if_neg c_29] at hf
      refine lv_goto (tgt := 165) hx hb dX6_duel_155 (by decide) ?_
      exact w_165 (k_76) K_76 (k_91) K_91 (f_X6_duel_105 k_76 k_91 n) ih x4 x5 x6 x7 x8 x9_22 u _ _ _ hP hS (lv_sub hl [1, 2, 3, 4, 5, 6, 0] rfl) hf
  have w_91 : ∀ (k_76 : Int32 → Int32 → UU → Option (Int32 × UU)) (K_76 : ∀ (x4 : Int32) (x5 : Int32) (u : UU) (H : Heap) (locs : List Loc) (ls : Array Slot), Ps g 55 20 u H → va_S (aA g) s.heap H locs → lv_has ls 11 [(0, .ref (aD g 55)), (4, .int x4), (5, .int x5)] → k_76 x4 x5 u = some (r, u') → W p l e R s m args below meth c H locs 0 0 Q (F0 m 76 ls [])) (n : Nat), ∀ (x4 : Int32) (x5 : Int32) (x6 : Int32) (u : UU) (H : Heap) (locs : List Loc) (ls : Array Slot), Ps g 55 20 u H → va_S (aA g) s.heap H locs → lv_has ls 11 [(0, .ref (aD g 55)), (4, .int x4), (5, .int x5), (6, .int x6)] → f_X6_duel_91 k_76 n x4 x5 x6 u = some (r, u') → W p l e R s m args below meth c H locs 0 0 Q (F0 m 91 ls []) := by
    intro k_76 K_76 n
    induction n with
    | zero =>
      intro x4 x5 x6 u H locs ls hP hS hl hf
      rw [f_X6_duel_91] at hf
      cases hf
    | succ n ih =>
      intro x4 x5 x6 u H locs ls hP hS hl hf
      rw [f_X6_duel_91] at hf
      refine lv_iload hx hb dX6_duel_91 (lv_at hl 3 rfl) ?_
      refine lv_iload hx hb dX6_duel_93 (lv_at hl 1 rfl) ?_
      refine lv_icmp_ge (tgt := 207) hx hb dX6_duel_95 (by decide) (fun c_15 => ?_) (fun c_15 => ?_)
      · rw [if_pos c_15] at hf
        obtain ⟨x5_16, ex5_16, hf⟩ := lt_ex hf
        refine lv_iinc (v := x5_16) (lv' := [(5, .int x5_16), (0, .ref (aD g 55)), (4, .int x4), (6, .int x6)]) hx hb dX6_duel_207 hl (k := 2) rfl (by rw [ex5_16]; rfl) (by decide) rfl (fun ls hl => ?_)
        refine lv_goto (tgt := 76) hx hb dX6_duel_210 (by decide) ?_
        exact K_76 x4 x5_16 u _ _ _ hP hS (lv_sub hl [1, 2, 0] rfl) hf
      rw [if_neg c_15] at hf
      refine lv_ldc (v := (-1000000000 : Int32)) hx hb hown (hts (.constant RX6 241 (-1000000000)) (by decide +kernel)) dX6_duel_98 ?_
      refine lv_istore (lv' := [(7, .int (-1000000000 : Int32)), (0, .ref (aD g 55)), (4, .int x4), (5, .int x5), (6, .int x6)]) hx hb dX6_duel_100 hl (by decide) rfl (fun ls hl => ?_)
      refine lv_iconst (v := (0 : Int32)) hx hb dX6_duel_102 (by decide) ?_
      refine lv_istore (lv' := [(8, .int (0 : Int32)), (7, .int (-1000000000 : Int32)), (0, .ref (aD g 55)), (4, .int x4), (5, .int x5), (6, .int x6)]) hx hb dX6_duel_103 hl (by decide) rfl (fun ls hl => ?_)
      exact w_105 (k_76) K_76 (f_X6_duel_91 k_76 n) ih fu x4 x5 x6 (-1000000000 : Int32) (0 : Int32) u _ _ _ hP hS (lv_sub hl [2, 3, 4, 5, 1, 0] rfl) hf
  have w_76 : ∀ (n : Nat), ∀ (x4 : Int32) (x5 : Int32) (u : UU) (H : Heap) (locs : List Loc) (ls : Array Slot), Ps g 55 20 u H → va_S (aA g) s.heap H locs → lv_has ls 11 [(0, .ref (aD g 55)), (4, .int x4), (5, .int x5)] → f_X6_duel_76 n x4 x5 u = some (r, u') → W p l e R s m args below meth c H locs 0 0 Q (F0 m 76 ls []) := by
    intro n
    induction n with
    | zero =>
      intro x4 x5 u H locs ls hP hS hl hf
      rw [f_X6_duel_76] at hf
      cases hf
    | succ n ih =>
      intro x4 x5 u H locs ls hP hS hl hf
      rw [f_X6_duel_76] at hf
      refine lv_iload hx hb dX6_duel_76 (lv_at hl 2 rfl) ?_
      refine lv_if_lt (tgt := 213) hx hb dX6_duel_78 (by decide) (fun c_10 => ?_) (fun c_10 => ?_)
      · rw [if_pos c_10] at hf
        refine lv_aload_n hx hb dX6_duel_213 rfl (lv_at hl 0 rfl) ?_
        refine r_get hx hb hts hown hC hP hinX6 55 (by decide) (ci := 5) rfl (by decide) rfl 31 (by decide) (hts (.fieldLink RX6 67 "LoafPartsModel" "outcomes" "[I") (by decide +kernel)) (v := .ref (aD g 73)) rfl dX6_duel_214 ?_
        refine lv_iconst (v := (0 : Int32)) hx hb dX6_duel_217 (by decide) ?_
        obtain ⟨hi_11, hf⟩ := ix_ex hf
        refine r_ald hx hb hC hP 73 (by decide) rfl hi_11 dX6_duel_218 ?_
        obtain ⟨x5_12, ex5_12, hf⟩ := lt_ex hf
        refine r_nm ex5_12 ?_
        refine lv_istore (lv' := [(5, .int x5_12), (0, .ref (aD g 55)), (4, .int x4)]) hx hb dX6_duel_219 hl (by decide) rfl (fun ls hl => ?_)
        refine lv_iload hx hb dX6_duel_221 (lv_at hl 0 rfl) ?_
        refine lv_if_lt (tgt := 235) hx hb dX6_duel_223 (by decide) (fun c_13 => ?_) (fun c_13 => ?_)
        · rw [if_pos c_13] at hf
          refine lv_sipush (v := (999 : Int32)) hx hb dX6_duel_235 (by decide) ?_
          refine lv_iload hx hb dX6_duel_238 (lv_at hl 0 rfl) ?_
          refine lv_isub hx hb dX6_duel_240 ?_
          refine lv_sipush (v := (1000 : Int32)) hx hb dX6_duel_241 (by decide) ?_
          refine lv_idiv hx hb dX6_duel_244 (by decide) ?_
          refine lv_ineg hx hb dX6_duel_245 ?_
          refine lv_sipush (v := (5000 : Int32)) hx hb dX6_duel_246 (by decide) ?_
          refine lv_iadd hx hb dX6_duel_249 ?_
          obtain ⟨rfl, rfl⟩ := sp2 hf
          exact kret _ _ _ _ dX6_duel_250 hP hS trivial
        rw [if_neg c_13] at hf
        refine lv_iload hx hb dX6_duel_226 (lv_at hl 0 rfl) ?_
        refine lv_sipush (v := (1000 : Int32)) hx hb dX6_duel_228 (by decide) ?_
        refine lv_idiv hx hb dX6_duel_231 (by decide) ?_
        refine lv_goto (tgt := 246) hx hb dX6_duel_232 (by decide) ?_
        refine lv_sipush (v := (5000 : Int32)) hx hb dX6_duel_246 (by decide) ?_
        refine lv_iadd hx hb dX6_duel_249 ?_
        obtain ⟨rfl, rfl⟩ := sp2 hf
        exact kret _ _ _ _ dX6_duel_250 hP hS trivial
      rw [if_neg c_10] at hf
      refine lv_iload hx hb dX6_duel_81 (lv_at hl 1 rfl) ?_
      refine lv_bipush (v := (16 : Int32)) hx hb dX6_duel_83 (by decide) ?_
      refine lv_idiv hx hb dX6_duel_85 (by decide) ?_
      obtain ⟨x4_14, ex4_14, hf⟩ := lt_ex hf
      refine r_nm ex4_14 ?_
      refine lv_istore (lv' := [(4, .int x4_14), (0, .ref (aD g 55)), (5, .int x5)]) hx hb dX6_duel_86 hl (by decide) rfl (fun ls hl => ?_)
      refine lv_iconst (v := (0 : Int32)) hx hb dX6_duel_88 (by decide) ?_
      refine lv_istore (lv' := [(6, .int (0 : Int32)), (4, .int x4_14), (0, .ref (aD g 55)), (5, .int x5)]) hx hb dX6_duel_89 hl (by decide) rfl (fun ls hl => ?_)
      exact w_91 (f_X6_duel_76 n) ih fu x4_14 x5 (0 : Int32) u _ _ _ hP hS (lv_sub hl [2, 1, 3, 0] rfl) hf
  have w_42 : ∀ (n : Nat), ∀ (x1 : Int32) (x2 : Int32) (x3 : Int32) (x4 : Int32) (x5 : Int32) (u : UU) (H : Heap) (locs : List Loc) (ls : Array Slot), Ps g 55 20 u H → va_S (aA g) s.heap H locs → lv_has ls 11 [(0, .ref (aD g 55)), (1, .int x1), (2, .int x2), (3, .int x3), (4, .int x4), (5, .int x5)] → f_X6_duel_42 n x1 x2 x3 x4 x5 u = some (r, u') → W p l e R s m args below meth c H locs 0 0 Q (F0 m 42 ls []) := by
    intro n
    induction n with
    | zero =>
      intro x1 x2 x3 x4 x5 u H locs ls hP hS hl hf
      rw [f_X6_duel_42] at hf
      cases hf
    | succ n ih =>
      intro x1 x2 x3 x4 x5 u H locs ls hP hS hl hf
      rw [f_X6_duel_42] at hf
      refine lv_iload hx hb dX6_duel_42 (lv_at hl 5 rfl) ?_
      refine lv_iload hx hb dX6_duel_44 (lv_at hl 4 rfl) ?_
      refine lv_icmp_ge (tgt := 71) hx hb dX6_duel_46 (by decide) (fun c_8 => ?_) (fun c_8 => ?_)
      · rw [if_pos c_8] at hf
        refine lv_iload_n hx hb dX6_duel_71 rfl (lv_at hl 3 rfl) ?_
        refine lv_iconst (v := (1 : Int32)) hx hb dX6_duel_72 (by decide) ?_
        refine lv_isub hx hb dX6_duel_73 ?_
        obtain ⟨x5_9, ex5_9, hf⟩ := lt_ex hf
        refine r_nm ex5_9 ?_
        refine lv_istore (lv' := [(5, .int x5_9), (0, .ref (aD g 55)), (1, .int x1), (2, .int x2), (3, .int x3), (4, .int x4)]) hx hb dX6_duel_74 hl (by decide) rfl (fun ls hl => ?_)
        exact w_76 fu x4 x5_9 u _ _ _ hP hS (lv_sub hl [1, 5, 0] rfl) hf
      rw [if_neg c_8] at hf
      refine lv_aload_n hx hb dX6_duel_49 rfl (lv_at hl 0 rfl) ?_
      refine r_get hx hb hts hown hC hP hinX6 55 (by decide) (ci := 5) rfl (by decide) rfl 31 (by decide) (hts (.fieldLink RX6 67 "LoafPartsModel" "outcomes" "[I") (by decide +kernel)) (v := .ref (aD g 73)) rfl dX6_duel_50 ?_
      refine lv_iload hx hb dX6_duel_53 (lv_at hl 5 rfl) ?_
      refine lv_aload_n hx hb dX6_duel_55 rfl (lv_at hl 0 rfl) ?_
      refine lv_iload_n hx hb dX6_duel_56 rfl (lv_at hl 1 rfl) ?_
      refine lv_iload_n hx hb dX6_duel_57 rfl (lv_at hl 2 rfl) ?_
      refine lv_iload hx hb dX6_duel_58 (lv_at hl 5 rfl) ?_
      refine lv_iload_n hx hb dX6_duel_60 rfl (lv_at hl 3 rfl) ?_
      obtain ⟨q_30, hq_30, hf⟩ := bind_ex hf
      refine r_Vi (r := q_30.1) (u' := q_30.2) (As := [.int x1, .int x2, .int x5, .int x3]) (rest := [.int x5, .ref (aD g 73)]) (k := 55) (ci := 5) ⟨hx, hb, hml, hown, hts⟩ hC hP hS (by decide) rfl (by decide) rfl (c_X6_picked l g u x1 x2 x5 x3 hq_30) (cwV 4 hts gX6_duel_X6_picked rfl rfl rfl (by decide +kernel) ⟨(Nat.le_trans (Nat.le_of_ble_eq_true rfl) hRf), (Nat.le_trans (Nat.le_of_ble_eq_true rfl) hRl)⟩) rfl hl.1 rfl (Nat.le_of_ble_eq_true rfl) dX6_duel_61 (fun H locs hP hS => ?_)
      obtain ⟨hi_31, hf⟩ := ix_ex hf
      obtain ⟨u_32, eu_32, hf⟩ := lt_ex hf
      refine r_ast hx hb hC hP hS 73 (by decide) rfl hi_31 eu_32 dX6_duel_64 (fun H locs hP hS => ?_)
      obtain ⟨x5_33, ex5_33, hf⟩ := lt_ex hf
      refine lv_iinc (v := x5_33) (lv' := [(5, .int x5_33), (0, .ref (aD g 55)), (1, .int x1), (2, .int x2), (3, .int x3), (4, .int x4)]) hx hb dX6_duel_65 hl (k := 5) rfl (by rw [ex5_33]; rfl) (by decide) rfl (fun ls hl => ?_)
      refine lv_goto (tgt := 42) hx hb dX6_duel_68 (by decide) ?_
      exact ih x1 x2 x3 x4 x5_33 u_32 _ _ _ hP hS (lv_sub hl [1, 2, 3, 4, 5, 0] rfl) hf
  unfold f_X6_duel at hf
  refine lv_aload_n hx hb dX6_duel_0 rfl (lv_at hl 0 rfl) ?_
  refine lv_iload_n hx hb dX6_duel_1 rfl (lv_at hl 1 rfl) ?_
  obtain ⟨q_1, hq_1, hf⟩ := bind_ex hf
  refine r_Vi (As := [.int x1]) (rest := []) (k := 55) (ci := 5) ⟨hx, hb, hml, hown, hts⟩ hC hP hS (by decide) rfl (by decide) rfl (c_X6_isWorker l g u x1 hq_1) (cwV 1 hts gX6_duel_X6_isWorker rfl rfl rfl (by decide +kernel) ⟨(Nat.le_trans (Nat.le_of_ble_eq_true rfl) hRf), (Nat.le_trans (Nat.le_of_ble_eq_true rfl) hRl)⟩) rfl hl.1 rfl (Nat.le_of_ble_eq_true rfl) dX6_duel_2 (fun H locs hP hS => ?_)
  refine lv_if_eq (tgt := 30) hx hb dX6_duel_5 (by decide) (fun c_2 => ?_) (fun c_2 => ?_)
  · rw [if_pos c_2] at hf
    refine lv_iconst (v := (-1 : Int32)) hx hb dX6_duel_30 (by decide) ?_
    obtain ⟨rfl, rfl⟩ := sp2 hf
    exact kret _ _ _ _ dX6_duel_31 hP hS trivial
  rw [if_neg c_2] at hf
  refine lv_aload_n hx hb dX6_duel_8 rfl (lv_at hl 0 rfl) ?_
  refine lv_iload_n hx hb dX6_duel_9 rfl (lv_at hl 2 rfl) ?_
  obtain ⟨q_3, hq_3, hf⟩ := bind_ex hf
  refine r_Vi (As := [.int x2]) (rest := []) (k := 55) (ci := 5) ⟨hx, hb, hml, hown, hts⟩ hC hP hS (by decide) rfl (by decide) rfl (c_X6_isWorker l g u x2 hq_3) (cwV 1 hts gX6_duel_X6_isWorker rfl rfl rfl (by decide +kernel) ⟨(Nat.le_trans (Nat.le_of_ble_eq_true rfl) hRf), (Nat.le_trans (Nat.le_of_ble_eq_true rfl) hRl)⟩) rfl hl.1 rfl (Nat.le_of_ble_eq_true rfl) dX6_duel_10 (fun H locs hP hS => ?_)
  refine lv_if_eq (tgt := 30) hx hb dX6_duel_13 (by decide) (fun c_4 => ?_) (fun c_4 => ?_)
  · rw [if_pos c_4] at hf
    refine lv_iconst (v := (-1 : Int32)) hx hb dX6_duel_30 (by decide) ?_
    obtain ⟨rfl, rfl⟩ := sp2 hf
    exact kret _ _ _ _ dX6_duel_31 hP hS trivial
  rw [if_neg c_4] at hf
  refine lv_iload_n hx hb dX6_duel_16 rfl (lv_at hl 1 rfl) ?_
  refine lv_iload_n hx hb dX6_duel_17 rfl (lv_at hl 2 rfl) ?_
  refine lv_icmp_eq (tgt := 30) hx hb dX6_duel_18 (by decide) (fun c_5 => ?_) (fun c_5 => ?_)
  · rw [if_pos c_5] at hf
    refine lv_iconst (v := (-1 : Int32)) hx hb dX6_duel_30 (by decide) ?_
    obtain ⟨rfl, rfl⟩ := sp2 hf
    exact kret _ _ _ _ dX6_duel_31 hP hS trivial
  rw [if_neg c_5] at hf
  refine lv_iload_n hx hb dX6_duel_21 rfl (lv_at hl 3 rfl) ?_
  refine lv_iconst (v := (0 : Int32)) hx hb dX6_duel_22 (by decide) ?_
  refine lv_iconst (v := (4 : Int32)) hx hb dX6_duel_23 (by decide) ?_
  refine r_Si (As := [.int x3, .int (0 : Int32), .int (4 : Int32)]) (rest := []) ⟨hx, hb, hml, hown, hts⟩ hC hP hS (c_X6_in l g u x3 (0 : Int32) (4 : Int32) rfl) (va_cwS 3 hts gX6_duel_X6_in rfl rfl rfl (by decide +kernel) ⟨(Nat.le_trans (Nat.le_of_ble_eq_true rfl) hRf), (Nat.le_trans (Nat.le_of_ble_eq_true rfl) hRl)⟩) rfl hl.1 rfl (Nat.le_of_ble_eq_true rfl) dX6_duel_24 (fun H locs hP hS => ?_)
  refine lv_if_ne (tgt := 32) hx hb dX6_duel_27 (by decide) (fun c_6 => ?_) (fun c_6 => ?_)
  · rw [if_neg c_6] at hf
    refine lv_iconst (v := (1 : Int32)) hx hb dX6_duel_32 (by decide) ?_
    refine lv_iconst (v := (4 : Int32)) hx hb dX6_duel_33 (by decide) ?_
    refine lv_iload_n hx hb dX6_duel_34 rfl (lv_at hl 3 rfl) ?_
    refine lv_imul hx hb dX6_duel_35 ?_
    refine lv_ishl hx hb dX6_duel_36 ?_
    obtain ⟨x4_7, ex4_7, hf⟩ := lt_ex hf
    refine r_nm ex4_7 ?_
    refine lv_istore (lv' := [(4, .int x4_7), (0, .ref (aD g 55)), (1, .int x1), (2, .int x2), (3, .int x3)]) hx hb dX6_duel_37 hl (by decide) rfl (fun ls hl => ?_)
    refine lv_iconst (v := (0 : Int32)) hx hb dX6_duel_39 (by decide) ?_
    refine lv_istore (lv' := [(5, .int (0 : Int32)), (4, .int x4_7), (0, .ref (aD g 55)), (1, .int x1), (2, .int x2), (3, .int x3)]) hx hb dX6_duel_40 hl (by decide) rfl (fun ls hl => ?_)
    exact w_42 fu x1 x2 x3 x4_7 (0 : Int32) u _ _ _ hP hS (lv_sub hl [2, 3, 4, 5, 1, 0] rfl) hf
  rw [if_pos c_6] at hf
  refine lv_iconst (v := (-1 : Int32)) hx hb dX6_duel_30 (by decide) ?_
  obtain ⟨rfl, rfl⟩ := sp2 hf
  exact kret _ _ _ _ dX6_duel_31 hP hS trivial
set_option maxHeartbeats 4000000 in
set_option maxRecDepth 100000 in
theorem c_X6_odds (l : Launch) (g : GG) (u : UU) (x1 : Int32) (x2 : Int32) {r : Int32} {u' : UU} (hf : f_X6_odds x1 x2 u = some (r, u')) : Ci l g 55 20 yX6_odds wsX6_odds 2 43 [.ref (aD g 55), .int x1, .int x2] u r u' := by
  refine ct_i (cc := cX6_odds) (maxL := 12) (by decide) rfl (Nat.le_of_ble_eq_true rfl) ?_
  intro p e s m args below meth c R Q ls hx hb hml hown hts hC hP hl hRf hRl kret hS
  have hown : s.vm.findClass RX6 = some m.cls := hown
  have hl : lv_has ls 12 [(0, .ref (aD g 55)), (1, .int x1), (2, .int x2)] := hl
  have hinX6 : ∀ w ∈ u_ws RX6 TX6 34, w ∈ wsX6_odds := by decide +kernel
  have w_148 : ∀ (k_65 : Int32 → Int32 → Int32 → Int64 → Int64 → Int32 → UU → Option (Int32 × UU)) (K_65 : ∀ (x1 : Int32) (x2 : Int32) (x3 : Int32) (x4 : Int64) (x6 : Int64) (x8 : Int32) (u : UU) (H : Heap) (locs : List Loc) (ls : Array Slot), Ps g 55 20 u H → va_S (aA g) s.heap H locs → lv_has ls 12 [(0, .ref (aD g 55)), (1, .int x1), (2, .int x2), (3, .int x3), (4, .long x4), (6, .long x6), (8, .int x8)] → k_65 x1 x2 x3 x4 x6 x8 u = some (r, u') → W p l e R s m args below meth c H locs 0 0 Q (F0 m 65 ls [])), ∀ (x1 : Int32) (x2 : Int32) (x3 : Int32) (x4 : Int64) (x6 : Int64) (x8 : Int32) (x9 : Int64) (u : UU) (H : Heap) (locs : List Loc) (ls : Array Slot), Ps g 55 20 u H → va_S (aA g) s.heap H locs → lv_has ls 12 [(0, .ref (aD g 55)), (1, .int x1), (2, .int x2), (3, .int x3), (4, .long x4), (6, .long x6), (8, .int x8), (9, .long x9)] → f_X6_odds_148 k_65 x1 x2 x3 x4 x6 x8 x9 u = some (r, u') → W p l e R s m args below meth c H locs 0 0 Q (F0 m 148 ls []) := by
    intro k_65 K_65
    intro x1 x2 x3 x4 x6 x8 x9 u H locs ls hP hS hl hf
    unfold f_X6_odds_148 at hf
    refine lv_lload hx hb dX6_odds_148 (lv_at hl 5 rfl) ?_
    refine lv_lload hx hb dX6_odds_150 (lv_at hl 7 rfl) ?_
    refine lv_ladd hx hb dX6_odds_152 ?_
    obtain ⟨x6_12, ex6_12, hf⟩ := lt_ex hf
    refine r_nml ex6_12 ?_
    refine lv_lstore (lv' := [(6, .long x6_12), (0, .ref (aD g 55)), (1, .int x1), (2, .int x2), (3, .int x3), (4, .long x4), (8, .int x8), (9, .long x9)]) hx hb dX6_odds_153 hl (by decide) rfl (fun ls hl => ?_)
    refine lv_iload hx hb dX6_odds_155 (lv_at hl 6 rfl) ?_
    refine lv_iload_n hx hb dX6_odds_157 rfl (lv_at hl 4 rfl) ?_
    refine lv_isub hx hb dX6_odds_158 ?_
    refine lv_iload_n hx hb dX6_odds_159 rfl (lv_at hl 4 rfl) ?_
    refine lv_iand hx hb dX6_odds_160 ?_
    obtain ⟨x8_13, ex8_13, hf⟩ := lt_ex hf
    refine r_nm ex8_13 ?_
    refine lv_istore (lv' := [(8, .int x8_13), (6, .long x6_12), (0, .ref (aD g 55)), (1, .int x1), (2, .int x2), (3, .int x3), (4, .long x4), (9, .long x9)]) hx hb dX6_odds_161 hl (by decide) rfl (fun ls hl => ?_)
    refine lv_iload hx hb dX6_odds_163 (lv_at hl 0 rfl) ?_
    refine lv_if_ne (tgt := 65) hx hb dX6_odds_165 (by decide) (fun c_14 => ?_) (fun c_14 => ?_)
    · rw [if_neg c_14] at hf
      exact K_65 x1 x2 x3 x4 x6_12 x8_13 u _ _ _ hP hS (lv_sub hl [2, 3, 4, 5, 6, 1, 0] rfl) hf
    rw [if_pos c_14] at hf
    refine lv_aload_n hx hb dX6_odds_168 rfl (lv_at hl 2 rfl) ?_
    refine lv_lload hx hb dX6_odds_169 (lv_at hl 1 rfl) ?_
    refine lv_lload hx hb dX6_odds_171 (lv_at hl 6 rfl) ?_
    refine lv_iconst (v := (1 : Int32)) hx hb dX6_odds_173 (by decide) ?_
    obtain ⟨q_15, hq_15, hf⟩ := bind_ex hf
    refine r_Vi (r := q_15.1) (u' := q_15.2) (As := [.long x6_12, .long x4, .int (1 : Int32)]) (rest := []) (k := 55) (ci := 5) ⟨hx, hb, hml, hown, hts⟩ hC hP hS (by decide) rfl (by decide) rfl (c_X6_lowest l g u x6_12 x4 (1 : Int32) hq_15) (cwV 3 hts gX6_odds_X6_lowest rfl rfl rfl (by decide +kernel) ⟨(Nat.le_trans (Nat.le_of_ble_eq_true rfl) hRf), (Nat.le_trans (Nat.le_of_ble_eq_true rfl) hRl)⟩) rfl hl.1 rfl (Nat.le_of_ble_eq_true rfl) dX6_odds_174 (fun H locs hP hS => ?_)
    obtain ⟨rfl, rfl⟩ := sp2 hf
    exact kret _ _ _ _ dX6_odds_177 hP hS trivial
  have w_139 : ∀ (k_65 : Int32 → Int32 → Int32 → Int64 → Int64 → Int32 → UU → Option (Int32 × UU)) (K_65 : ∀ (x1 : Int32) (x2 : Int32) (x3 : Int32) (x4 : Int64) (x6 : Int64) (x8 : Int32) (u : UU) (H : Heap) (locs : List Loc) (ls : Array Slot), Ps g 55 20 u H → va_S (aA g) s.heap H locs → lv_has ls 12 [(0, .ref (aD g 55)), (1, .int x1), (2, .int x2), (3, .int x3), (4, .long x4), (6, .long x6), (8, .int x8)] → k_65 x1 x2 x3 x4 x6 x8 u = some (r, u') → W p l e R s m args below meth c H locs 0 0 Q (F0 m 65 ls [])) (k_90 : Int32 → Int32 → Int32 → Int64 → Int64 → Int32 → Int64 → Int32 → UU → Option (Int32 × UU)) (K_90 : ∀ (x1 : Int32) (x2 : Int32) (x3 : Int32) (x4 : Int64) (x6 : Int64) (x8 : Int32) (x9 : Int64) (x11 : Int32) (u : UU) (H : Heap) (locs : List Loc) (ls : Array Slot), Ps g 55 20 u H → va_S (aA g) s.heap H locs → lv_has ls 12 [(0, .ref (aD g 55)), (1, .int x1), (2, .int x2), (3, .int x3), (4, .long x4), (6, .long x6), (8, .int x8), (9, .long x9), (11, .int x11)] → k_90 x1 x2 x3 x4 x6 x8 x9 x11 u = some (r, u') → W p l e R s m args below meth c H locs 0 0 Q (F0 m 90 ls [])), ∀ (x1 : Int32) (x2 : Int32) (x3 : Int32) (x4 : Int64) (x6 : Int64) (x8 : Int32) (x11 : Int32) (t0 : Int64) (t1 : Int64) (u : UU) (H : Heap) (locs : List Loc) (ls : Array Slot), Ps g 55 20 u H → va_S (aA g) s.heap H locs → lv_has ls 12 [(0, .ref (aD g 55)), (1, .int x1), (2, .int x2), (3, .int x3), (4, .long x4), (6, .long x6), (8, .int x8), (11, .int x11)] → f_X6_odds_139 k_65 k_90 x1 x2 x3 x4 x6 x8 x11 t0 t1 u = some (r, u') → W p l e R s m args below meth c H locs 0 0 Q (F0 m 139 ls [.long t0, .long t1]) := by
    intro k_65 K_65 k_90 K_90
    intro x1 x2 x3 x4 x6 x8 x11 t0 t1 u H locs ls hP hS hl hf
    unfold f_X6_odds_139 at hf
    refine lv_lmul hx hb dX6_odds_139 ?_
    obtain ⟨x9_19, ex9_19, hf⟩ := lt_ex hf
    refine r_nml ex9_19 ?_
    refine lv_lstore (lv' := [(9, .long x9_19), (0, .ref (aD g 55)), (1, .int x1), (2, .int x2), (3, .int x3), (4, .long x4), (6, .long x6), (8, .int x8), (11, .int x11)]) hx hb dX6_odds_140 hl (by decide) rfl (fun ls hl => ?_)
    obtain ⟨x11_20, ex11_20, hf⟩ := lt_ex hf
    refine lv_iinc (v := x11_20) (lv' := [(11, .int x11_20), (9, .long x9_19), (0, .ref (aD g 55)), (1, .int x1), (2, .int x2), (3, .int x3), (4, .long x4), (6, .long x6), (8, .int x8)]) hx hb dX6_odds_142 hl (k := 8) rfl (by rw [ex11_20]; rfl) (by decide) rfl (fun ls hl => ?_)
    refine lv_goto (tgt := 90) hx hb dX6_odds_145 (by decide) ?_
    exact K_90 x1 x2 x3 x4 x6 x8 x9_19 x11_20 u _ _ _ hP hS (lv_sub hl [2, 3, 4, 5, 6, 7, 8, 1, 0] rfl) hf
  have w_90 : ∀ (k_65 : Int32 → Int32 → Int32 → Int64 → Int64 → Int32 → UU → Option (Int32 × UU)) (K_65 : ∀ (x1 : Int32) (x2 : Int32) (x3 : Int32) (x4 : Int64) (x6 : Int64) (x8 : Int32) (u : UU) (H : Heap) (locs : List Loc) (ls : Array Slot), Ps g 55 20 u H → va_S (aA g) s.heap H locs → lv_has ls 12 [(0, .ref (aD g 55)), (1, .int x1), (2, .int x2), (3, .int x3), (4, .long x4), (6, .long x6), (8, .int x8)] → k_65 x1 x2 x3 x4 x6 x8 u = some (r, u') → W p l e R s m args below meth c H locs 0 0 Q (F0 m 65 ls [])) (n : Nat), ∀ (x1 : Int32) (x2 : Int32) (x3 : Int32) (x4 : Int64) (x6 : Int64) (x8 : Int32) (x9 : Int64) (x11 : Int32) (u : UU) (H : Heap) (locs : List Loc) (ls : Array Slot), Ps g 55 20 u H → va_S (aA g) s.heap H locs → lv_has ls 12 [(0, .ref (aD g 55)), (1, .int x1), (2, .int x2), (3, .int x3), (4, .long x4), (6, .long x6), (8, .int x8), (9, .long x9), (11, .int x11)] → f_X6_odds_90 k_65 n x1 x2 x3 x4 x6 x8 x9 x11 u = some (r, u') → W p l e R s m args below meth c H locs 0 0 Q (F0 m 90 ls []) := by
    intro k_65 K_65 n
    induction n with
    | zero =>
      intro x1 x2 x3 x4 x6 x8 x9 x11 u H locs ls hP hS hl hf
      rw [f_X6_odds_90] at hf
      cases hf
    | succ n ih =>
      intro x1 x2 x3 x4 x6 x8 x9 x11 u H locs ls hP hS hl hf
      rw [f_X6_odds_90] at hf
      refine lv_iload hx hb dX6_odds_90 (lv_at hl 8 rfl) ?_
      refine lv_bipush (v := (16 : Int32)) hx hb dX6_odds_92 (by decide) ?_
      refine lv_icmp_gt (tgt := 148) hx hb dX6_odds_94 (by decide) (fun c_11 => ?_) (fun c_11 => ?_)
      · rw [if_pos c_11] at hf
        exact w_148 (k_65) K_65 x1 x2 x3 x4 x6 x8 x9 u _ _ _ hP hS (lv_sub hl [0, 1, 2, 3, 4, 5, 6, 7] rfl) hf
      rw [if_neg c_11] at hf
      refine lv_lload hx hb dX6_odds_97 (lv_at hl 7 rfl) ?_
      refine lv_lconst (v := (0 : Int64)) hx hb dX6_odds_99 (by decide) ?_
      refine W.lcmp hx hb dX6_odds_100 ?_
      refine lv_if_le (tgt := 148) hx hb dX6_odds_101 (by decide) (fun c_16 => ?_) (fun c_16 => ?_)
      · rw [if_pos c_16] at hf
        exact w_148 (k_65) K_65 x1 x2 x3 x4 x6 x8 x9 u _ _ _ hP hS (lv_sub hl [0, 1, 2, 3, 4, 5, 6, 7] rfl) hf
      rw [if_neg c_16] at hf
      refine lv_lload hx hb dX6_odds_104 (lv_at hl 7 rfl) ?_
      refine lv_iload_n hx hb dX6_odds_106 rfl (lv_at hl 3 rfl) ?_
      refine lv_iload hx hb dX6_odds_107 (lv_at hl 8 rfl) ?_
      refine r_Si (As := [.int x3, .int x11]) (rest := [.long x9]) ⟨hx, hb, hml, hown, hts⟩ hC hP hS (c_X6_has l g u x3 x11 rfl) (va_cwS 2 hts gX6_odds_X6_has rfl rfl rfl (by decide +kernel) ⟨(Nat.le_trans (Nat.le_of_ble_eq_true rfl) hRf), (Nat.le_trans (Nat.le_of_ble_eq_true rfl) hRl)⟩) rfl hl.1 rfl (Nat.le_of_ble_eq_true rfl) dX6_odds_109 (fun H locs hP hS => ?_)
      refine lv_if_ne (tgt := 119) hx hb dX6_odds_112 (by decide) (fun c_17 => ?_) (fun c_17 => ?_)
      · rw [if_neg c_17] at hf
        refine lv_iload hx hb dX6_odds_119 (lv_at hl 6 rfl) ?_
        refine lv_iload hx hb dX6_odds_121 (lv_at hl 8 rfl) ?_
        refine r_Si (As := [.int x8, .int x11]) (rest := [.long x9]) ⟨hx, hb, hml, hown, hts⟩ hC hP hS (c_X6_has l g u x8 x11 rfl) (va_cwS 2 hts gX6_odds_X6_has rfl rfl rfl (by decide +kernel) ⟨(Nat.le_trans (Nat.le_of_ble_eq_true rfl) hRf), (Nat.le_trans (Nat.le_of_ble_eq_true rfl) hRl)⟩) rfl hl.1 rfl (Nat.le_of_ble_eq_true rfl) dX6_odds_123 (fun H locs hP hS => ?_)
        refine lv_if_eq (tgt := 137) hx hb dX6_odds_126 (by decide) (fun c_18 => ?_) (fun c_18 => ?_)
        · rw [if_pos c_18] at hf
          refine lv_iload_n hx hb dX6_odds_137 rfl (lv_at hl 2 rfl) ?_
          refine lv_i2l hx hb dX6_odds_138 rfl ?_
          exact w_139 (k_65) K_65 (f_X6_odds_90 k_65 n) ih x1 x2 x3 x4 x6 x8 x11 ((x2 : Int32).toInt64) x9 u _ _ _ hP hS (lv_sub hl [0, 1, 2, 3, 4, 5, 6, 8] rfl) hf
        rw [if_neg c_18] at hf
        refine lv_bipush (v := (12 : Int32)) hx hb dX6_odds_129 (by decide) ?_
        refine lv_iload_n hx hb dX6_odds_131 rfl (lv_at hl 2 rfl) ?_
        refine lv_isub hx hb dX6_odds_132 ?_
        refine lv_i2l hx hb dX6_odds_133 rfl ?_
        refine lv_goto (tgt := 139) hx hb dX6_odds_134 (by decide) ?_
        exact w_139 (k_65) K_65 (f_X6_odds_90 k_65 n) ih x1 x2 x3 x4 x6 x8 x11 ((((12 : Int32) - x2) : Int32).toInt64) x9 u _ _ _ hP hS (lv_sub hl [0, 1, 2, 3, 4, 5, 6, 8] rfl) hf
      rw [if_pos c_17] at hf
      refine lv_lconst (v := (1 : Int64)) hx hb dX6_odds_115 (by decide) ?_
      refine lv_goto (tgt := 139) hx hb dX6_odds_116 (by decide) ?_
      exact w_139 (k_65) K_65 (f_X6_odds_90 k_65 n) ih x1 x2 x3 x4 x6 x8 x11 (1 : Int64) x9 u _ _ _ hP hS (lv_sub hl [0, 1, 2, 3, 4, 5, 6, 8] rfl) hf
  have w_85 : ∀ (k_65 : Int32 → Int32 → Int32 → Int64 → Int64 → Int32 → UU → Option (Int32 × UU)) (K_65 : ∀ (x1 : Int32) (x2 : Int32) (x3 : Int32) (x4 : Int64) (x6 : Int64) (x8 : Int32) (u : UU) (H : Heap) (locs : List Loc) (ls : Array Slot), Ps g 55 20 u H → va_S (aA g) s.heap H locs → lv_has ls 12 [(0, .ref (aD g 55)), (1, .int x1), (2, .int x2), (3, .int x3), (4, .long x4), (6, .long x6), (8, .int x8)] → k_65 x1 x2 x3 x4 x6 x8 u = some (r, u') → W p l e R s m args below meth c H locs 0 0 Q (F0 m 65 ls [])), ∀ (x1 : Int32) (x2 : Int32) (x3 : Int32) (x4 : Int64) (x6 : Int64) (x8 : Int32) (t0 : Int64) (u : UU) (H : Heap) (locs : List Loc) (ls : Array Slot), Ps g 55 20 u H → va_S (aA g) s.heap H locs → lv_has ls 12 [(0, .ref (aD g 55)), (1, .int x1), (2, .int x2), (3, .int x3), (4, .long x4), (6, .long x6), (8, .int x8)] → f_X6_odds_85 k_65 x1 x2 x3 x4 x6 x8 t0 u = some (r, u') → W p l e R s m args below meth c H locs 0 0 Q (F0 m 85 ls [.long t0]) := by
    intro k_65 K_65
    intro x1 x2 x3 x4 x6 x8 t0 u H locs ls hP hS hl hf
    unfold f_X6_odds_85 at hf
    refine lv_lstore (lv' := [(9, .long t0), (0, .ref (aD g 55)), (1, .int x1), (2, .int x2), (3, .int x3), (4, .long x4), (6, .long x6), (8, .int x8)]) hx hb dX6_odds_85 hl (by decide) rfl (fun ls hl => ?_)
    refine lv_iconst (v := (2 : Int32)) hx hb dX6_odds_87 (by decide) ?_
    refine lv_istore (lv' := [(11, .int (2 : Int32)), (9, .long t0), (0, .ref (aD g 55)), (1, .int x1), (2, .int x2), (3, .int x3), (4, .long x4), (6, .long x6), (8, .int x8)]) hx hb dX6_odds_88 hl (by decide) rfl (fun ls hl => ?_)
    exact w_90 (k_65) K_65 fu x1 x2 x3 x4 x6 x8 t0 (2 : Int32) u _ _ _ hP hS (lv_sub hl [2, 3, 4, 5, 6, 7, 8, 1, 0] rfl) hf
  have w_65 : ∀ (n : Nat), ∀ (x1 : Int32) (x2 : Int32) (x3 : Int32) (x4 : Int64) (x6 : Int64) (x8 : Int32) (u : UU) (H : Heap) (locs : List Loc) (ls : Array Slot), Ps g 55 20 u H → va_S (aA g) s.heap H locs → lv_has ls 12 [(0, .ref (aD g 55)), (1, .int x1), (2, .int x2), (3, .int x3), (4, .long x4), (6, .long x6), (8, .int x8)] → f_X6_odds_65 n x1 x2 x3 x4 x6 x8 u = some (r, u') → W p l e R s m args below meth c H locs 0 0 Q (F0 m 65 ls []) := by
    intro n
    induction n with
    | zero =>
      intro x1 x2 x3 x4 x6 x8 u H locs ls hP hS hl hf
      rw [f_X6_odds_65] at hf
      cases hf
    | succ n ih =>
      intro x1 x2 x3 x4 x6 x8 u H locs ls hP hS hl hf
      rw [f_X6_odds_65] at hf
      refine lv_iconst (v := (2 : Int32)) hx hb dX6_odds_65 (by decide) ?_
      refine lv_iload hx hb dX6_odds_66 (lv_at hl 6 rfl) ?_
      obtain ⟨q_8, hq_8, hf⟩ := bind_ex hf
      refine r_Si (As := [.int x8]) (rest := [.int (2 : Int32)]) ⟨hx, hb, hml, hown, hts⟩ hC hP hS (c_X6_sumOf l g u x8 hq_8) (va_cwS 1 hts gX6_odds_X6_sumOf rfl rfl rfl (by decide +kernel) ⟨(Nat.le_trans (Nat.le_of_ble_eq_true rfl) hRf), (Nat.le_trans (Nat.le_of_ble_eq_true rfl) hRl)⟩) rfl hl.1 rfl (Nat.le_of_ble_eq_true rfl) dX6_odds_68 (fun H locs hP hS => ?_)
      refine lv_imul hx hb dX6_odds_71 ?_
      refine lv_aload_n hx hb dX6_odds_72 rfl (lv_at hl 0 rfl) ?_
      refine lv_iload_n hx hb dX6_odds_73 rfl (lv_at hl 1 rfl) ?_
      obtain ⟨q_9, hq_9, hf⟩ := bind_ex hf
      refine r_Vi (As := [.int x1]) (rest := [.int ((2 : Int32) * q_8)]) (k := 55) (ci := 5) ⟨hx, hb, hml, hown, hts⟩ hC hP hS (by decide) rfl (by decide) rfl (c_X6_due l g u x1 hq_9) (cwV 1 hts gX6_odds_X6_due rfl rfl rfl (by decide +kernel) ⟨(Nat.le_trans (Nat.le_of_ble_eq_true rfl) hRf), (Nat.le_trans (Nat.le_of_ble_eq_true rfl) hRl)⟩) rfl hl.1 rfl (Nat.le_of_ble_eq_true rfl) dX6_odds_74 (fun H locs hP hS => ?_)
      refine lv_icmp_lt (tgt := 84) hx hb dX6_odds_77 (by decide) (fun c_10 => ?_) (fun c_10 => ?_)
      · rw [if_pos c_10] at hf
        refine lv_lconst (v := (0 : Int64)) hx hb dX6_odds_84 (by decide) ?_
        exact w_85 (f_X6_odds_65 n) ih x1 x2 x3 x4 x6 x8 (0 : Int64) u _ _ _ hP hS (lv_sub hl [0, 1, 2, 3, 4, 5, 6] rfl) hf
      rw [if_neg c_10] at hf
      refine lv_lconst (v := (1 : Int64)) hx hb dX6_odds_80 (by decide) ?_
      refine lv_goto (tgt := 85) hx hb dX6_odds_81 (by decide) ?_
      exact w_85 (f_X6_odds_65 n) ih x1 x2 x3 x4 x6 x8 (1 : Int64) u _ _ _ hP hS (lv_sub hl [0, 1, 2, 3, 4, 5, 6] rfl) hf
  have w_36 : ∀ (n : Nat), ∀ (x1 : Int32) (x2 : Int32) (x3 : Int32) (x4 : Int64) (x6 : Int32) (u : UU) (H : Heap) (locs : List Loc) (ls : Array Slot), Ps g 55 20 u H → va_S (aA g) s.heap H locs → lv_has ls 12 [(0, .ref (aD g 55)), (1, .int x1), (2, .int x2), (3, .int x3), (4, .long x4), (6, .int x6)] → f_X6_odds_36 n x1 x2 x3 x4 x6 u = some (r, u') → W p l e R s m args below meth c H locs 0 0 Q (F0 m 36 ls []) := by
    intro n
    induction n with
    | zero =>
      intro x1 x2 x3 x4 x6 u H locs ls hP hS hl hf
      rw [f_X6_odds_36] at hf
      cases hf
    | succ n ih =>
      intro x1 x2 x3 x4 x6 u H locs ls hP hS hl hf
      rw [f_X6_odds_36] at hf
      refine lv_iload hx hb dX6_odds_36 (lv_at hl 5 rfl) ?_
      refine lv_iload_n hx hb dX6_odds_38 rfl (lv_at hl 3 rfl) ?_
      obtain ⟨q_6, hq_6, hf⟩ := bind_ex hf
      refine r_Si (As := [.int x3]) (rest := [.int x6]) ⟨hx, hb, hml, hown, hts⟩ hC hP hS (c_X6_bits l g u x3 hq_6) (va_cwS 1 hts gX6_odds_X6_bits rfl rfl rfl (by decide +kernel) ⟨(Nat.le_trans (Nat.le_of_ble_eq_true rfl) hRf), (Nat.le_trans (Nat.le_of_ble_eq_true rfl) hRl)⟩) rfl hl.1 rfl (Nat.le_of_ble_eq_true rfl) dX6_odds_39 (fun H locs hP hS => ?_)
      refine lv_icmp_ge (tgt := 59) hx hb dX6_odds_42 (by decide) (fun c_7 => ?_) (fun c_7 => ?_)
      · rw [if_pos c_7] at hf
        refine lv_lconst (v := (0 : Int64)) hx hb dX6_odds_59 (by decide) ?_
        refine lv_lstore (lv' := [(6, .long (0 : Int64)), (0, .ref (aD g 55)), (1, .int x1), (2, .int x2), (3, .int x3), (4, .long x4)]) hx hb dX6_odds_60 hl (by decide) rfl (fun ls hl => ?_)
        refine lv_iconst (v := (0 : Int32)) hx hb dX6_odds_62 (by decide) ?_
        refine lv_istore (lv' := [(8, .int (0 : Int32)), (6, .long (0 : Int64)), (0, .ref (aD g 55)), (1, .int x1), (2, .int x2), (3, .int x3), (4, .long x4)]) hx hb dX6_odds_63 hl (by decide) rfl (fun ls hl => ?_)
        exact w_65 fu x1 x2 x3 x4 (0 : Int64) (0 : Int32) u _ _ _ hP hS (lv_sub hl [2, 3, 4, 5, 6, 1, 0] rfl) hf
      rw [if_neg c_7] at hf
      refine lv_lload hx hb dX6_odds_45 (lv_at hl 4 rfl) ?_
      refine lv_ldc2 (v := (12 : Int64)) hx hb hown (hts (.constantLong RX6 246 (12)) (by decide +kernel)) dX6_odds_47 ?_
      refine lv_lmul hx hb dX6_odds_50 ?_
      obtain ⟨x4_21, ex4_21, hf⟩ := lt_ex hf
      refine r_nml ex4_21 ?_
      refine lv_lstore (lv' := [(4, .long x4_21), (0, .ref (aD g 55)), (1, .int x1), (2, .int x2), (3, .int x3), (6, .int x6)]) hx hb dX6_odds_51 hl (by decide) rfl (fun ls hl => ?_)
      obtain ⟨x6_22, ex6_22, hf⟩ := lt_ex hf
      refine lv_iinc (v := x6_22) (lv' := [(6, .int x6_22), (4, .long x4_21), (0, .ref (aD g 55)), (1, .int x1), (2, .int x2), (3, .int x3)]) hx hb dX6_odds_53 hl (k := 5) rfl (by rw [ex6_22]; rfl) (by decide) rfl (fun ls hl => ?_)
      refine lv_goto (tgt := 36) hx hb dX6_odds_56 (by decide) ?_
      exact ih x1 x2 x3 x4_21 x6_22 u _ _ _ hP hS (lv_sub hl [2, 3, 4, 5, 1, 0] rfl) hf
  unfold f_X6_odds at hf
  refine lv_aload_n hx hb dX6_odds_0 rfl (lv_at hl 0 rfl) ?_
  refine lv_iload_n hx hb dX6_odds_1 rfl (lv_at hl 1 rfl) ?_
  obtain ⟨q_1, hq_1, hf⟩ := bind_ex hf
  refine r_Vi (As := [.int x1]) (rest := []) (k := 55) (ci := 5) ⟨hx, hb, hml, hown, hts⟩ hC hP hS (by decide) rfl (by decide) rfl (c_X6_isWorker l g u x1 hq_1) (cwV 1 hts gX6_odds_X6_isWorker rfl rfl rfl (by decide +kernel) ⟨(Nat.le_trans (Nat.le_of_ble_eq_true rfl) hRf), (Nat.le_trans (Nat.le_of_ble_eq_true rfl) hRl)⟩) rfl hl.1 rfl (Nat.le_of_ble_eq_true rfl) dX6_odds_2 (fun H locs hP hS => ?_)
  refine lv_if_eq (tgt := 18) hx hb dX6_odds_5 (by decide) (fun c_2 => ?_) (fun c_2 => ?_)
  · rw [if_pos c_2] at hf
    refine lv_iconst (v := (-1 : Int32)) hx hb dX6_odds_18 (by decide) ?_
    obtain ⟨rfl, rfl⟩ := sp2 hf
    exact kret _ _ _ _ dX6_odds_19 hP hS trivial
  rw [if_neg c_2] at hf
  refine lv_iload_n hx hb dX6_odds_8 rfl (lv_at hl 2 rfl) ?_
  refine lv_iconst (v := (0 : Int32)) hx hb dX6_odds_9 (by decide) ?_
  refine lv_bipush (v := (12 : Int32)) hx hb dX6_odds_10 (by decide) ?_
  refine r_Si (As := [.int x2, .int (0 : Int32), .int (12 : Int32)]) (rest := []) ⟨hx, hb, hml, hown, hts⟩ hC hP hS (c_X6_in l g u x2 (0 : Int32) (12 : Int32) rfl) (va_cwS 3 hts gX6_odds_X6_in rfl rfl rfl (by decide +kernel) ⟨(Nat.le_trans (Nat.le_of_ble_eq_true rfl) hRf), (Nat.le_trans (Nat.le_of_ble_eq_true rfl) hRl)⟩) rfl hl.1 rfl (Nat.le_of_ble_eq_true rfl) dX6_odds_12 (fun H locs hP hS => ?_)
  refine lv_if_ne (tgt := 20) hx hb dX6_odds_15 (by decide) (fun c_3 => ?_) (fun c_3 => ?_)
  · rw [if_neg c_3] at hf
    refine lv_aload_n hx hb dX6_odds_20 rfl (lv_at hl 0 rfl) ?_
    refine r_get hx hb hts hown hC hP hinX6 55 (by decide) (ci := 5) rfl (by decide) rfl 21 (by decide) (hts (.fieldLink RX6 51 "LoafPartsModel" "now" "[I") (by decide +kernel)) (v := .ref (aD g 68)) rfl dX6_odds_21 ?_
    refine lv_bipush (v := (18 : Int32)) hx hb dX6_odds_24 (by decide) ?_
    refine lv_iload_n hx hb dX6_odds_26 rfl (lv_at hl 1 rfl) ?_
    refine lv_iadd hx hb dX6_odds_27 ?_
    obtain ⟨hi_4, hf⟩ := ix_ex hf
    refine r_ald hx hb hC hP 68 (by decide) rfl hi_4 dX6_odds_28 ?_
    obtain ⟨x3_5, ex3_5, hf⟩ := lt_ex hf
    refine r_nm ex3_5 ?_
    refine lv_istore_n (lv' := [(3, .int x3_5), (0, .ref (aD g 55)), (1, .int x1), (2, .int x2)]) hx hb dX6_odds_29 rfl hl (by decide) rfl (fun ls hl => ?_)
    refine lv_lconst (v := (1 : Int64)) hx hb dX6_odds_30 (by decide) ?_
    refine lv_lstore (lv' := [(4, .long (1 : Int64)), (3, .int x3_5), (0, .ref (aD g 55)), (1, .int x1), (2, .int x2)]) hx hb dX6_odds_31 hl (by decide) rfl (fun ls hl => ?_)
    refine lv_iconst (v := (0 : Int32)) hx hb dX6_odds_33 (by decide) ?_
    refine lv_istore (lv' := [(6, .int (0 : Int32)), (4, .long (1 : Int64)), (3, .int x3_5), (0, .ref (aD g 55)), (1, .int x1), (2, .int x2)]) hx hb dX6_odds_34 hl (by decide) rfl (fun ls hl => ?_)
    exact w_36 fu x1 x2 x3_5 (1 : Int64) (0 : Int32) u _ _ _ hP hS (lv_sub hl [3, 4, 5, 2, 1, 0] rfl) hf
  rw [if_pos c_3] at hf
  refine lv_iconst (v := (-1 : Int32)) hx hb dX6_odds_18 (by decide) ?_
  obtain ⟨rfl, rfl⟩ := sp2 hf
  exact kret _ _ _ _ dX6_odds_19 hP hS trivial
set_option maxHeartbeats 4000000 in
set_option maxRecDepth 100000 in
theorem c_X6_mid (l : Launch) (g : GG) (u : UU) (x1 : Int32) (x2 : Int32) {r : Int32} {u' : UU} (hf : f_X6_mid x1 x2 u = some (r, u')) : Ci l g 55 20 yX6_mid wsX6_mid 2 43 [.ref (aD g 55), .int x1, .int x2] u r u' := by
  refine ct_i (cc := cX6_mid) (maxL := 3) (by decide) rfl (Nat.le_of_ble_eq_true rfl) ?_
  intro p e s m args below meth c R Q ls hx hb hml hown hts hC hP hl hRf hRl kret hS
  have hown : s.vm.findClass RX6 = some m.cls := hown
  have hl : lv_has ls 3 [(0, .ref (aD g 55)), (1, .int x1), (2, .int x2)] := hl
  have hinX6 : ∀ w ∈ u_ws RX6 TX6 34, w ∈ wsX6_mid := by decide +kernel
  unfold f_X6_mid at hf
  refine lv_aload_n hx hb dX6_mid_0 rfl (lv_at hl 0 rfl) ?_
  refine lv_iload_n hx hb dX6_mid_1 rfl (lv_at hl 1 rfl) ?_
  obtain ⟨q_1, hq_1, hf⟩ := bind_ex hf
  refine r_Vi (As := [.int x1]) (rest := []) (k := 55) (ci := 5) ⟨hx, hb, hml, hown, hts⟩ hC hP hS (by decide) rfl (by decide) rfl (c_X6_isWorker l g u x1 hq_1) (cwV 1 hts gX6_mid_X6_isWorker rfl rfl rfl (by decide +kernel) ⟨(Nat.le_trans (Nat.le_of_ble_eq_true rfl) hRf), (Nat.le_trans (Nat.le_of_ble_eq_true rfl) hRl)⟩) rfl hl.1 rfl (Nat.le_of_ble_eq_true rfl) dX6_mid_2 (fun H locs hP hS => ?_)
  refine lv_if_eq (tgt := 49) hx hb dX6_mid_5 (by decide) (fun c_2 => ?_) (fun c_2 => ?_)
  · rw [if_pos c_2] at hf
    refine lv_iconst (v := (-1 : Int32)) hx hb dX6_mid_49 (by decide) ?_
    obtain ⟨rfl, rfl⟩ := sp2 hf
    exact kret _ _ _ _ dX6_mid_50 hP hS trivial
  rw [if_neg c_2] at hf
  refine lv_iload_n hx hb dX6_mid_8 rfl (lv_at hl 2 rfl) ?_
  refine lv_iconst (v := (0 : Int32)) hx hb dX6_mid_9 (by decide) ?_
  refine lv_bipush (v := (12 : Int32)) hx hb dX6_mid_10 (by decide) ?_
  refine r_Si (As := [.int x2, .int (0 : Int32), .int (12 : Int32)]) (rest := []) ⟨hx, hb, hml, hown, hts⟩ hC hP hS (c_X6_in l g u x2 (0 : Int32) (12 : Int32) rfl) (va_cwS 3 hts gX6_mid_X6_in rfl rfl rfl (by decide +kernel) ⟨(Nat.le_trans (Nat.le_of_ble_eq_true rfl) hRf), (Nat.le_trans (Nat.le_of_ble_eq_true rfl) hRl)⟩) rfl hl.1 rfl (Nat.le_of_ble_eq_true rfl) dX6_mid_12 (fun H locs hP hS => ?_)
  refine lv_if_eq (tgt := 49) hx hb dX6_mid_15 (by decide) (fun c_3 => ?_) (fun c_3 => ?_)
  · rw [if_pos c_3] at hf
    refine lv_iconst (v := (-1 : Int32)) hx hb dX6_mid_49 (by decide) ?_
    obtain ⟨rfl, rfl⟩ := sp2 hf
    exact kret _ _ _ _ dX6_mid_50 hP hS trivial
  rw [if_neg c_3] at hf
  refine lv_aload_n hx hb dX6_mid_18 rfl (lv_at hl 0 rfl) ?_
  refine lv_ldc2 (v := (12 : Int64)) hx hb hown (hts (.constantLong RX6 246 (12)) (by decide +kernel)) dX6_mid_19 ?_
  refine lv_iload_n hx hb dX6_mid_22 rfl (lv_at hl 2 rfl) ?_
  refine lv_i2l hx hb dX6_mid_23 rfl ?_
  refine lv_lsub hx hb dX6_mid_24 ?_
  refine lv_aload_n hx hb dX6_mid_25 rfl (lv_at hl 0 rfl) ?_
  refine r_get hx hb hts hown hC hP hinX6 55 (by decide) (ci := 5) rfl (by decide) rfl 21 (by decide) (hts (.fieldLink RX6 51 "LoafPartsModel" "now" "[I") (by decide +kernel)) (v := .ref (aD g 68)) rfl dX6_mid_26 ?_
  refine lv_bipush (v := (18 : Int32)) hx hb dX6_mid_29 (by decide) ?_
  refine lv_iload_n hx hb dX6_mid_31 rfl (lv_at hl 1 rfl) ?_
  refine lv_iadd hx hb dX6_mid_32 ?_
  obtain ⟨hi_4, hf⟩ := ix_ex hf
  refine r_ald hx hb hC hP 68 (by decide) rfl hi_4 dX6_mid_33 ?_
  obtain ⟨q_5, hq_5, hf⟩ := bind_ex hf
  refine r_Si (As := [.int (ui u 68 (((18 : Int32) + x1) : Int32).toNatClampNeg)]) (rest := [.long ((12 : Int64) - ((x2 : Int32).toInt64)), .ref (aD g 55)]) ⟨hx, hb, hml, hown, hts⟩ hC hP hS (c_X6_sumOf l g u (ui u 68 (((18 : Int32) + x1) : Int32).toNatClampNeg) hq_5) (va_cwS 1 hts gX6_mid_X6_sumOf rfl rfl rfl (by decide +kernel) ⟨(Nat.le_trans (Nat.le_of_ble_eq_true rfl) hRf), (Nat.le_trans (Nat.le_of_ble_eq_true rfl) hRl)⟩) rfl hl.1 rfl (Nat.le_of_ble_eq_true rfl) dX6_mid_34 (fun H locs hP hS => ?_)
  refine lv_i2l hx hb dX6_mid_37 rfl ?_
  refine lv_lmul hx hb dX6_mid_38 ?_
  refine lv_ldc2 (v := (8648640 : Int64)) hx hb hown (hts (.constantLong RX6 248 (8648640)) (by decide +kernel)) dX6_mid_39 ?_
  refine lv_iconst (v := (1 : Int32)) hx hb dX6_mid_42 (by decide) ?_
  obtain ⟨q_6, hq_6, hf⟩ := bind_ex hf
  refine r_Vi (r := q_6.1) (u' := q_6.2) (As := [.long (((12 : Int64) - ((x2 : Int32).toInt64)) * ((q_5 : Int32).toInt64)), .long (8648640 : Int64), .int (1 : Int32)]) (rest := []) (k := 55) (ci := 5) ⟨hx, hb, hml, hown, hts⟩ hC hP hS (by decide) rfl (by decide) rfl (c_X6_lowest l g u (((12 : Int64) - ((x2 : Int32).toInt64)) * ((q_5 : Int32).toInt64)) (8648640 : Int64) (1 : Int32) hq_6) (cwV 3 hts gX6_mid_X6_lowest rfl rfl rfl (by decide +kernel) ⟨(Nat.le_trans (Nat.le_of_ble_eq_true rfl) hRf), (Nat.le_trans (Nat.le_of_ble_eq_true rfl) hRl)⟩) rfl hl.1 rfl (Nat.le_of_ble_eq_true rfl) dX6_mid_43 (fun H locs hP hS => ?_)
  refine lv_goto (tgt := 50) hx hb dX6_mid_46 (by decide) ?_
  obtain ⟨rfl, rfl⟩ := sp2 hf
  exact kret _ _ _ _ dX6_mid_50 hP hS trivial