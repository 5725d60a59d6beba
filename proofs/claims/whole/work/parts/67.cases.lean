/-! the law: what each case has, and owes -/
def LA (p : Program) (s : State) (m : MethodId) (c : Code) (b L : Nat) (xs : Nat → Int32) (D : va_G) (a1 a2 : Nat → Nat) (cA : Nat → ClassId) (tO tC : Nat) : Prop := p.tables.exec = Jvm.exec ∧ c.code = cL_law ∧ c.maxLocals = 4 ∧ s.vm.findClass RL = some m.cls ∧ (∀ w ∈ wsL_law, w.before #[Value.ref b] s = true) ∧ va_X b L xs s s.heap ∧ b < s.heap.size ∧ LC s D a1 a2 cA tO tC ∧ L ≤ 3072
def LK (p : Program) (l : Launch) (e : Env) (s : State) (m : MethodId) (b : Nat) (below : List Frame) (meth : Method) (c : Code) (Q : State → Prop) (D : va_G) (a1 a2 : Nat → Nat) (cA : Nat → ClassId) (tO tC : Nat) (ls : Array Slot) : Prop := ∀ (u v : UU) (H : Heap) (locs : List Loc), Inv u v → Ps (gC D a1 cA tO tC) 0 55 u H → Ps (gM D a2 cA tO tC) 55 20 v H → va_S (fun q => s.heap.size ≤ q) s.heap H locs → W p l e room_1 s m #[Value.ref b] below meth c H locs 600000 7302249 Q (F0 m 1342 ls [])
set_option maxHeartbeats 4000000 in
set_option maxRecDepth 100000 in
theorem lc_row {p : Program} {l : Launch} {e : Env} {s : State} {m : MethodId} {below : List Frame} {meth : Method} {c : Code} {H : Heap} {locs : List Loc} {Q : State → Prop} {ls : Array Slot} {u v : UU} {D : va_G} {a1 a2 : Nat → Nat} {cA : Nat → ClassId} {tO tC b L i : Nat} {xs : Nat → Int32} (hA : LA p s m c b L xs D a1 a2 cA tO tC) (hi : i + 6 ≤ L) (hI : Inv u v) (hP : Ps (gC D a1 cA tO tC) 0 55 u H) (hP2 : Ps (gM D a2 cA tO tC) 55 20 v H) (hS : va_S (fun q => s.heap.size ≤ q) s.heap H locs) (hl : lv_has ls 4 [(3, .int (nI i)), (0, .ref b), (1, .ref (a1 0)), (2, .ref (a2 55))]) (kk : LK p l e s m b below meth c Q D a1 a2 cA tO tC ls) : W p l e room_1 s m #[Value.ref b] below meth c H locs 600000 7302249 Q (F0 m 220 ls []) := by
  obtain ⟨hx, hb, hml, hown, hts, hX, hbl, hL, hL3⟩ := hA
  have hbA : ¬ (fun q : Nat => s.heap.size ≤ q) b := Nat.not_le.mpr hbl
  have X : CallFix p m c cL_law 4 s #[Value.ref b] wsL_law RL := ⟨hx, hb, hml, hown, hts⟩
  obtain ⟨r, u', v', e1, e2, hI'⟩ := op_row hI (xs (nI i + 1).toNatClampNeg) (xs (nI i + 2).toNatClampNeg)
  refine lv_aload_n hx hb dL_law_220 rfl (lv_at hl 2 rfl) ?_
  refine lv_aload_n hx hb dL_law_221 rfl (lv_at hl 1 rfl) ?_
  refine lv_iload_n hx hb dL_law_222 rfl (lv_at hl 0 rfl) ?_
  refine lv_iconst (v := (1 : Int32)) hx hb dL_law_223 (by decide) ?_
  refine lv_iadd hx hb dL_law_224 ?_
  refine va_sld hx hb hX hbl hbA hS (lw_in hi (k := 1) (by omega) hL3) dL_law_225 ?_
  refine lv_aload_n hx hb dL_law_226 rfl (lv_at hl 1 rfl) ?_
  refine lv_iload_n hx hb dL_law_227 rfl (lv_at hl 0 rfl) ?_
  refine lv_iconst (v := (2 : Int32)) hx hb dL_law_228 (by decide) ?_
  refine lv_iadd hx hb dL_law_229 ?_
  refine va_sld hx hb hX hbl hbA hS (lw_in hi (k := 2) (by omega) hL3) dL_law_230 ?_
  refine r_LCi X hL hP hP2 hS (c_X5_row l (gC D a1 cA tO tC) u (xs (nI i + 1).toNatClampNeg) (xs (nI i + 2).toNatClampNeg) e1) (cwV 2 hts gL_law_X5_row rfl rfl rfl (by decide +kernel) ⟨Nat.le_of_ble_eq_true rfl, Nat.le_of_ble_eq_true rfl⟩) rfl hl.1 rfl (Nat.le_of_ble_eq_true rfl) dL_law_231 ⟨Nat.le_of_ble_eq_true rfl, Nat.le_of_ble_eq_true rfl⟩ (fun H locs hP hP2 hS => ?_)
  refine lv_aload_n hx hb dL_law_234 rfl (lv_at hl 3 rfl) ?_
  refine lv_aload_n hx hb dL_law_235 rfl (lv_at hl 1 rfl) ?_
  refine lv_iload_n hx hb dL_law_236 rfl (lv_at hl 0 rfl) ?_
  refine lv_iconst (v := (1 : Int32)) hx hb dL_law_237 (by decide) ?_
  refine lv_iadd hx hb dL_law_238 ?_
  refine va_sld hx hb hX hbl hbA hS (lw_in hi (k := 1) (by omega) hL3) dL_law_239 ?_
  refine lv_aload_n hx hb dL_law_240 rfl (lv_at hl 1 rfl) ?_
  refine lv_iload_n hx hb dL_law_241 rfl (lv_at hl 0 rfl) ?_
  refine lv_iconst (v := (2 : Int32)) hx hb dL_law_242 (by decide) ?_
  refine lv_iadd hx hb dL_law_243 ?_
  refine va_sld hx hb hX hbl hbA hS (lw_in hi (k := 2) (by omega) hL3) dL_law_244 ?_
  refine r_LMi X hL hP hP2 hS (c_X6_row l (gM D a2 cA tO tC) v (xs (nI i + 1).toNatClampNeg) (xs (nI i + 2).toNatClampNeg) e2) (cwV 2 hts gL_law_X6_row rfl rfl rfl (by decide +kernel) ⟨Nat.le_of_ble_eq_true rfl, Nat.le_of_ble_eq_true rfl⟩) rfl hl.1 rfl (Nat.le_of_ble_eq_true rfl) dL_law_245 ⟨Nat.le_of_ble_eq_true rfl, Nat.le_of_ble_eq_true rfl⟩ (fun H locs hP hP2 hS => ?_)
  exact lv_icmp_eq (tgt := 1342) hx hb dL_law_248 (by decide) (fun _ => kk _ _ _ _ hI' hP hP2 hS) (fun z => absurd rfl z)
set_option maxHeartbeats 4000000 in
set_option maxRecDepth 100000 in
theorem lc_lay {p : Program} {l : Launch} {e : Env} {s : State} {m : MethodId} {below : List Frame} {meth : Method} {c : Code} {H : Heap} {locs : List Loc} {Q : State → Prop} {ls : Array Slot} {u v : UU} {D : va_G} {a1 a2 : Nat → Nat} {cA : Nat → ClassId} {tO tC b L i : Nat} {xs : Nat → Int32} (hA : LA p s m c b L xs D a1 a2 cA tO tC) (hi : i + 6 ≤ L) (hI : Inv u v) (hP : Ps (gC D a1 cA tO tC) 0 55 u H) (hP2 : Ps (gM D a2 cA tO tC) 55 20 v H) (hS : va_S (fun q => s.heap.size ≤ q) s.heap H locs) (hl : lv_has ls 4 [(3, .int (nI i)), (0, .ref b), (1, .ref (a1 0)), (2, .ref (a2 55))]) (kk : LK p l e s m b below meth c Q D a1 a2 cA tO tC ls) : W p l e room_1 s m #[Value.ref b] below meth c H locs 600000 7302249 Q (F0 m 253 ls []) := by
  obtain ⟨hx, hb, hml, hown, hts, hX, hbl, hL, hL3⟩ := hA
  have hbA : ¬ (fun q : Nat => s.heap.size ≤ q) b := Nat.not_le.mpr hbl
  have X : CallFix p m c cL_law 4 s #[Value.ref b] wsL_law RL := ⟨hx, hb, hml, hown, hts⟩
  obtain ⟨r, u', v', e1, e2, hI'⟩ := op_lay hI (xs (nI i + 1).toNatClampNeg) (xs (nI i + 2).toNatClampNeg) (xs (nI i + 3).toNatClampNeg)
  refine lv_aload_n hx hb dL_law_253 rfl (lv_at hl 2 rfl) ?_
  refine lv_aload_n hx hb dL_law_254 rfl (lv_at hl 1 rfl) ?_
  refine lv_iload_n hx hb dL_law_255 rfl (lv_at hl 0 rfl) ?_
  refine lv_iconst (v := (1 : Int32)) hx hb dL_law_256 (by decide) ?_
  refine lv_iadd hx hb dL_law_257 ?_
  refine va_sld hx hb hX hbl hbA hS (lw_in hi (k := 1) (by omega) hL3) dL_law_258 ?_
  refine lv_aload_n hx hb dL_law_259 rfl (lv_at hl 1 rfl) ?_
  refine lv_iload_n hx hb dL_law_260 rfl (lv_at hl 0 rfl) ?_
  refine lv_iconst (v := (2 : Int32)) hx hb dL_law_261 (by decide) ?_
  refine lv_iadd hx hb dL_law_262 ?_
  refine va_sld hx hb hX hbl hbA hS (lw_in hi (k := 2) (by omega) hL3) dL_law_263 ?_
  refine lv_aload_n hx hb dL_law_264 rfl (lv_at hl 1 rfl) ?_
  refine lv_iload_n hx hb dL_law_265 rfl (lv_at hl 0 rfl) ?_
  refine lv_iconst (v := (3 : Int32)) hx hb dL_law_266 (by decide) ?_
  refine lv_iadd hx hb dL_law_267 ?_
  refine va_sld hx hb hX hbl hbA hS (lw_in hi (k := 3) (by omega) hL3) dL_law_268 ?_
  refine r_LCi X hL hP hP2 hS (c_X5_lay l (gC D a1 cA tO tC) u (xs (nI i + 1).toNatClampNeg) (xs (nI i + 2).toNatClampNeg) (xs (nI i + 3).toNatClampNeg) e1) (cwV 3 hts gL_law_X5_lay rfl rfl rfl (by decide +kernel) ⟨Nat.le_of_ble_eq_true rfl, Nat.le_of_ble_eq_true rfl⟩) rfl hl.1 rfl (Nat.le_of_ble_eq_true rfl) dL_law_269 ⟨Nat.le_of_ble_eq_true rfl, Nat.le_of_ble_eq_true rfl⟩ (fun H locs hP hP2 hS => ?_)
  refine lv_aload_n hx hb dL_law_272 rfl (lv_at hl 3 rfl) ?_
  refine lv_aload_n hx hb dL_law_273 rfl (lv_at hl 1 rfl) ?_
  refine lv_iload_n hx hb dL_law_274 rfl (lv_at hl 0 rfl) ?_
  refine lv_iconst (v := (1 : Int32)) hx hb dL_law_275 (by decide) ?_
  refine lv_iadd hx hb dL_law_276 ?_
  refine va_sld hx hb hX hbl hbA hS (lw_in hi (k := 1) (by omega) hL3) dL_law_277 ?_
  refine lv_aload_n hx hb dL_law_278 rfl (lv_at hl 1 rfl) ?_
  refine lv_iload_n hx hb dL_law_279 rfl (lv_at hl 0 rfl) ?_
  refine lv_iconst (v := (2 : Int32)) hx hb dL_law_280 (by decide) ?_
  refine lv_iadd hx hb dL_law_281 ?_
  refine va_sld hx hb hX hbl hbA hS (lw_in hi (k := 2) (by omega) hL3) dL_law_282 ?_
  refine lv_aload_n hx hb dL_law_283 rfl (lv_at hl 1 rfl) ?_
  refine lv_iload_n hx hb dL_law_284 rfl (lv_at hl 0 rfl) ?_
  refine lv_iconst (v := (3 : Int32)) hx hb dL_law_285 (by decide) ?_
  refine lv_iadd hx hb dL_law_286 ?_
  refine va_sld hx hb hX hbl hbA hS (lw_in hi (k := 3) (by omega) hL3) dL_law_287 ?_
  refine r_LMi X hL hP hP2 hS (c_X6_lay l (gM D a2 cA tO tC) v (xs (nI i + 1).toNatClampNeg) (xs (nI i + 2).toNatClampNeg) (xs (nI i + 3).toNatClampNeg) e2) (cwV 3 hts gL_law_X6_lay rfl rfl rfl (by decide +kernel) ⟨Nat.le_of_ble_eq_true rfl, Nat.le_of_ble_eq_true rfl⟩) rfl hl.1 rfl (Nat.le_of_ble_eq_true rfl) dL_law_288 ⟨Nat.le_of_ble_eq_true rfl, Nat.le_of_ble_eq_true rfl⟩ (fun H locs hP hP2 hS => ?_)
  exact lv_icmp_eq (tgt := 1342) hx hb dL_law_291 (by decide) (fun _ => kk _ _ _ _ hI' hP hP2 hS) (fun z => absurd rfl z)
set_option maxHeartbeats 4000000 in
set_option maxRecDepth 100000 in
theorem lc_at {p : Program} {l : Launch} {e : Env} {s : State} {m : MethodId} {below : List Frame} {meth : Method} {c : Code} {H : Heap} {locs : List Loc} {Q : State → Prop} {ls : Array Slot} {u v : UU} {D : va_G} {a1 a2 : Nat → Nat} {cA : Nat → ClassId} {tO tC b L i : Nat} {xs : Nat → Int32} (hA : LA p s m c b L xs D a1 a2 cA tO tC) (hi : i + 6 ≤ L) (hI : Inv u v) (hP : Ps (gC D a1 cA tO tC) 0 55 u H) (hP2 : Ps (gM D a2 cA tO tC) 55 20 v H) (hS : va_S (fun q => s.heap.size ≤ q) s.heap H locs) (hl : lv_has ls 4 [(3, .int (nI i)), (0, .ref b), (1, .ref (a1 0)), (2, .ref (a2 55))]) (kk : LK p l e s m b below meth c Q D a1 a2 cA tO tC ls) : W p l e room_1 s m #[Value.ref b] below meth c H locs 600000 7302249 Q (F0 m 296 ls []) := by
  obtain ⟨hx, hb, hml, hown, hts, hX, hbl, hL, hL3⟩ := hA
  have hbA : ¬ (fun q : Nat => s.heap.size ≤ q) b := Nat.not_le.mpr hbl
  have X : CallFix p m c cL_law 4 s #[Value.ref b] wsL_law RL := ⟨hx, hb, hml, hown, hts⟩
  obtain ⟨r, u', v', e1, e2, hI'⟩ := op_at hI (xs (nI i + 1).toNatClampNeg) (xs (nI i + 2).toNatClampNeg)
  refine lv_aload_n hx hb dL_law_296 rfl (lv_at hl 2 rfl) ?_
  refine lv_aload_n hx hb dL_law_297 rfl (lv_at hl 1 rfl) ?_
  refine lv_iload_n hx hb dL_law_298 rfl (lv_at hl 0 rfl) ?_
  refine lv_iconst (v := (1 : Int32)) hx hb dL_law_299 (by decide) ?_
  refine lv_iadd hx hb dL_law_300 ?_
  refine va_sld hx hb hX hbl hbA hS (lw_in hi (k := 1) (by omega) hL3) dL_law_301 ?_
  refine lv_aload_n hx hb dL_law_302 rfl (lv_at hl 1 rfl) ?_
  refine lv_iload_n hx hb dL_law_303 rfl (lv_at hl 0 rfl) ?_
  refine lv_iconst (v := (2 : Int32)) hx hb dL_law_304 (by decide) ?_
  refine lv_iadd hx hb dL_law_305 ?_
  refine va_sld hx hb hX hbl hbA hS (lw_in hi (k := 2) (by omega) hL3) dL_law_306 ?_
  refine r_LCi X hL hP hP2 hS (c_X5_at l (gC D a1 cA tO tC) u (xs (nI i + 1).toNatClampNeg) (xs (nI i + 2).toNatClampNeg) e1) (cwV 2 hts gL_law_X5_at rfl rfl rfl (by decide +kernel) ⟨Nat.le_of_ble_eq_true rfl, Nat.le_of_ble_eq_true rfl⟩) rfl hl.1 rfl (Nat.le_of_ble_eq_true rfl) dL_law_307 ⟨Nat.le_of_ble_eq_true rfl, Nat.le_of_ble_eq_true rfl⟩ (fun H locs hP hP2 hS => ?_)
  refine lv_aload_n hx hb dL_law_310 rfl (lv_at hl 3 rfl) ?_
  refine lv_aload_n hx hb dL_law_311 rfl (lv_at hl 1 rfl) ?_
  refine lv_iload_n hx hb dL_law_312 rfl (lv_at hl 0 rfl) ?_
  refine lv_iconst (v := (1 : Int32)) hx hb dL_law_313 (by decide) ?_
  refine lv_iadd hx hb dL_law_314 ?_
  refine va_sld hx hb hX hbl hbA hS (lw_in hi (k := 1) (by omega) hL3) dL_law_315 ?_
  refine lv_aload_n hx hb dL_law_316 rfl (lv_at hl 1 rfl) ?_
  refine lv_iload_n hx hb dL_law_317 rfl (lv_at hl 0 rfl) ?_
  refine lv_iconst (v := (2 : Int32)) hx hb dL_law_318 (by decide) ?_
  refine lv_iadd hx hb dL_law_319 ?_
  refine va_sld hx hb hX hbl hbA hS (lw_in hi (k := 2) (by omega) hL3) dL_law_320 ?_
  refine r_LMi X hL hP hP2 hS (c_X6_at l (gM D a2 cA tO tC) v (xs (nI i + 1).toNatClampNeg) (xs (nI i + 2).toNatClampNeg) e2) (cwV 2 hts gL_law_X6_at rfl rfl rfl (by decide +kernel) ⟨Nat.le_of_ble_eq_true rfl, Nat.le_of_ble_eq_true rfl⟩) rfl hl.1 rfl (Nat.le_of_ble_eq_true rfl) dL_law_321 ⟨Nat.le_of_ble_eq_true rfl, Nat.le_of_ble_eq_true rfl⟩ (fun H locs hP hP2 hS => ?_)
  exact lv_icmp_eq (tgt := 1342) hx hb dL_law_324 (by decide) (fun _ => kk _ _ _ _ hI' hP hP2 hS) (fun z => absurd rfl z)
set_option maxHeartbeats 4000000 in
set_option maxRecDepth 100000 in
theorem lc_tear {p : Program} {l : Launch} {e : Env} {s : State} {m : MethodId} {below : List Frame} {meth : Method} {c : Code} {H : Heap} {locs : List Loc} {Q : State → Prop} {ls : Array Slot} {u v : UU} {D : va_G} {a1 a2 : Nat → Nat} {cA : Nat → ClassId} {tO tC b L i : Nat} {xs : Nat → Int32} (hA : LA p s m c b L xs D a1 a2 cA tO tC) (hi : i + 6 ≤ L) (hI : Inv u v) (hP : Ps (gC D a1 cA tO tC) 0 55 u H) (hP2 : Ps (gM D a2 cA tO tC) 55 20 v H) (hS : va_S (fun q => s.heap.size ≤ q) s.heap H locs) (hl : lv_has ls 4 [(3, .int (nI i)), (0, .ref b), (1, .ref (a1 0)), (2, .ref (a2 55))]) (kk : LK p l e s m b below meth c Q D a1 a2 cA tO tC ls) : W p l e room_1 s m #[Value.ref b] below meth c H locs 600000 7302249 Q (F0 m 329 ls []) := by
  obtain ⟨hx, hb, hml, hown, hts, hX, hbl, hL, hL3⟩ := hA
  have hbA : ¬ (fun q : Nat => s.heap.size ≤ q) b := Nat.not_le.mpr hbl
  have X : CallFix p m c cL_law 4 s #[Value.ref b] wsL_law RL := ⟨hx, hb, hml, hown, hts⟩
  obtain ⟨r, u', v', e1, e2, hI'⟩ := op_tear hI (xs (nI i + 1).toNatClampNeg)
  refine lv_aload_n hx hb dL_law_329 rfl (lv_at hl 2 rfl) ?_
  refine lv_aload_n hx hb dL_law_330 rfl (lv_at hl 1 rfl) ?_
  refine lv_iload_n hx hb dL_law_331 rfl (lv_at hl 0 rfl) ?_
  refine lv_iconst (v := (1 : Int32)) hx hb dL_law_332 (by decide) ?_
  refine lv_iadd hx hb dL_law_333 ?_
  refine va_sld hx hb hX hbl hbA hS (lw_in hi (k := 1) (by omega) hL3) dL_law_334 ?_
  refine r_LCi X hL hP hP2 hS (c_X5_tear l (gC D a1 cA tO tC) u (xs (nI i + 1).toNatClampNeg) e1) (cwV 1 hts gL_law_X5_tear rfl rfl rfl (by decide +kernel) ⟨Nat.le_of_ble_eq_true rfl, Nat.le_of_ble_eq_true rfl⟩) rfl hl.1 rfl (Nat.le_of_ble_eq_true rfl) dL_law_335 ⟨Nat.le_of_ble_eq_true rfl, Nat.le_of_ble_eq_true rfl⟩ (fun H locs hP hP2 hS => ?_)
  refine lv_aload_n hx hb dL_law_338 rfl (lv_at hl 3 rfl) ?_
  refine lv_aload_n hx hb dL_law_339 rfl (lv_at hl 1 rfl) ?_
  refine lv_iload_n hx hb dL_law_340 rfl (lv_at hl 0 rfl) ?_
  refine lv_iconst (v := (1 : Int32)) hx hb dL_law_341 (by decide) ?_
  refine lv_iadd hx hb dL_law_342 ?_
  refine va_sld hx hb hX hbl hbA hS (lw_in hi (k := 1) (by omega) hL3) dL_law_343 ?_
  refine r_LMi X hL hP hP2 hS (c_X6_tear l (gM D a2 cA tO tC) v (xs (nI i + 1).toNatClampNeg) e2) (cwV 1 hts gL_law_X6_tear rfl rfl rfl (by decide +kernel) ⟨Nat.le_of_ble_eq_true rfl, Nat.le_of_ble_eq_true rfl⟩) rfl hl.1 rfl (Nat.le_of_ble_eq_true rfl) dL_law_344 ⟨Nat.le_of_ble_eq_true rfl, Nat.le_of_ble_eq_true rfl⟩ (fun H locs hP hP2 hS => ?_)
  exact lv_icmp_eq (tgt := 1342) hx hb dL_law_347 (by decide) (fun _ => kk _ _ _ _ hI' hP hP2 hS) (fun z => absurd rfl z)
set_option maxHeartbeats 4000000 in
set_option maxRecDepth 100000 in
theorem lc_copy {p : Program} {l : Launch} {e : Env} {s : State} {m : MethodId} {below : List Frame} {meth : Method} {c : Code} {H : Heap} {locs : List Loc} {Q : State → Prop} {ls : Array Slot} {u v : UU} {D : va_G} {a1 a2 : Nat → Nat} {cA : Nat → ClassId} {tO tC b L i : Nat} {xs : Nat → Int32} (hA : LA p s m c b L xs D a1 a2 cA tO tC) (hi : i + 6 ≤ L) (hI : Inv u v) (hP : Ps (gC D a1 cA tO tC) 0 55 u H) (hP2 : Ps (gM D a2 cA tO tC) 55 20 v H) (hS : va_S (fun q => s.heap.size ≤ q) s.heap H locs) (hl : lv_has ls 4 [(3, .int (nI i)), (0, .ref b), (1, .ref (a1 0)), (2, .ref (a2 55))]) (kk : LK p l e s m b below meth c Q D a1 a2 cA tO tC ls) : W p l e room_1 s m #[Value.ref b] below meth c H locs 600000 7302249 Q (F0 m 352 ls []) := by
  obtain ⟨hx, hb, hml, hown, hts, hX, hbl, hL, hL3⟩ := hA
  have hbA : ¬ (fun q : Nat => s.heap.size ≤ q) b := Nat.not_le.mpr hbl
  have X : CallFix p m c cL_law 4 s #[Value.ref b] wsL_law RL := ⟨hx, hb, hml, hown, hts⟩
  obtain ⟨r, u', v', e1, e2, hI'⟩ := op_copy hI (xs (nI i + 1).toNatClampNeg) (xs (nI i + 2).toNatClampNeg) (xs (nI i + 3).toNatClampNeg) (xs (nI i + 4).toNatClampNeg) (xs (nI i + 5).toNatClampNeg)
  refine lv_aload_n hx hb dL_law_352 rfl (lv_at hl 2 rfl) ?_
  refine lv_aload_n hx hb dL_law_353 rfl (lv_at hl 1 rfl) ?_
  refine lv_iload_n hx hb dL_law_354 rfl (lv_at hl 0 rfl) ?_
  refine lv_iconst (v := (1 : Int32)) hx hb dL_law_355 (by decide) ?_
  refine lv_iadd hx hb dL_law_356 ?_
  refine va_sld hx hb hX hbl hbA hS (lw_in hi (k := 1) (by omega) hL3) dL_law_357 ?_
  refine lv_aload_n hx hb dL_law_358 rfl (lv_at hl 1 rfl) ?_
  refine lv_iload_n hx hb dL_law_359 rfl (lv_at hl 0 rfl) ?_
  refine lv_iconst (v := (2 : Int32)) hx hb dL_law_360 (by decide) ?_
  refine lv_iadd hx hb dL_law_361 ?_
  refine va_sld hx hb hX hbl hbA hS (lw_in hi (k := 2) (by omega) hL3) dL_law_362 ?_
  refine lv_aload_n hx hb dL_law_363 rfl (lv_at hl 1 rfl) ?_
  refine lv_iload_n hx hb dL_law_364 rfl (lv_at hl 0 rfl) ?_
  refine lv_iconst (v := (3 : Int32)) hx hb dL_law_365 (by decide) ?_
  refine lv_iadd hx hb dL_law_366 ?_
  refine va_sld hx hb hX hbl hbA hS (lw_in hi (k := 3) (by omega) hL3) dL_law_367 ?_
  refine lv_aload_n hx hb dL_law_368 rfl (lv_at hl 1 rfl) ?_
  refine lv_iload_n hx hb dL_law_369 rfl (lv_at hl 0 rfl) ?_
  refine lv_iconst (v := (4 : Int32)) hx hb dL_law_370 (by decide) ?_
  refine lv_iadd hx hb dL_law_371 ?_
  refine va_sld hx hb hX hbl hbA hS (lw_in hi (k := 4) (by omega) hL3) dL_law_372 ?_
  refine lv_aload_n hx hb dL_law_373 rfl (lv_at hl 1 rfl) ?_
  refine lv_iload_n hx hb dL_law_374 rfl (lv_at hl 0 rfl) ?_
  refine lv_iconst (v := (5 : Int32)) hx hb dL_law_375 (by decide) ?_
  refine lv_iadd hx hb dL_law_376 ?_
  refine va_sld hx hb hX hbl hbA hS (lw_in hi (k := 5) (by omega) hL3) dL_law_377 ?_
  refine r_LCi X hL hP hP2 hS (c_X5_copy l (gC D a1 cA tO tC) u (xs (nI i + 1).toNatClampNeg) (xs (nI i + 2).toNatClampNeg) (xs (nI i + 3).toNatClampNeg) (xs (nI i + 4).toNatClampNeg) (xs (nI i + 5).toNatClampNeg) e1) (cwV 5 hts gL_law_X5_copy rfl rfl rfl (by decide +kernel) ⟨Nat.le_of_ble_eq_true rfl, Nat.le_of_ble_eq_true rfl⟩) rfl hl.1 rfl (Nat.le_of_ble_eq_true rfl) dL_law_378 ⟨Nat.le_of_ble_eq_true rfl, Nat.le_of_ble_eq_true rfl⟩ (fun H locs hP hP2 hS => ?_)
  refine lv_aload_n hx hb dL_law_381 rfl (lv_at hl 3 rfl) ?_
  refine lv_aload_n hx hb dL_law_382 rfl (lv_at hl 1 rfl) ?_
  refine lv_iload_n hx hb dL_law_383 rfl (lv_at hl 0 rfl) ?_
  refine lv_iconst (v := (1 : Int32)) hx hb dL_law_384 (by decide) ?_
  refine lv_iadd hx hb dL_law_385 ?_
  refine va_sld hx hb hX hbl hbA hS (lw_in hi (k := 1) (by omega) hL3) dL_law_386 ?_
  refine lv_aload_n hx hb dL_law_387 rfl (lv_at hl 1 rfl) ?_
  refine lv_iload_n hx hb dL_law_388 rfl (lv_at hl 0 rfl) ?_
  refine lv_iconst (v := (2 : Int32)) hx hb dL_law_389 (by decide) ?_
  refine lv_iadd hx hb dL_law_390 ?_
  refine va_sld hx hb hX hbl hbA hS (lw_in hi (k := 2) (by omega) hL3) dL_law_391 ?_
  refine lv_aload_n hx hb dL_law_392 rfl (lv_at hl 1 rfl) ?_
  refine lv_iload_n hx hb dL_law_393 rfl (lv_at hl 0 rfl) ?_
  refine lv_iconst (v := (3 : Int32)) hx hb dL_law_394 (by decide) ?_
  refine lv_iadd hx hb dL_law_395 ?_
  refine va_sld hx hb hX hbl hbA hS (lw_in hi (k := 3) (by omega) hL3) dL_law_396 ?_
  refine lv_aload_n hx hb dL_law_397 rfl (lv_at hl 1 rfl) ?_
  refine lv_iload_n hx hb dL_law_398 rfl (lv_at hl 0 rfl) ?_
  refine lv_iconst (v := (4 : Int32)) hx hb dL_law_399 (by decide) ?_
  refine lv_iadd hx hb dL_law_400 ?_
  refine va_sld hx hb hX hbl hbA hS (lw_in hi (k := 4) (by omega) hL3) dL_law_401 ?_
  refine lv_aload_n hx hb dL_law_402 rfl (lv_at hl 1 rfl) ?_
  refine lv_iload_n hx hb dL_law_403 rfl (lv_at hl 0 rfl) ?_
  refine lv_iconst (v := (5 : Int32)) hx hb dL_law_404 (by decide) ?_
  refine lv_iadd hx hb dL_law_405 ?_
  refine va_sld hx hb hX hbl hbA hS (lw_in hi (k := 5) (by omega) hL3) dL_law_406 ?_
  refine r_LMi X hL hP hP2 hS (c_X6_copy l (gM D a2 cA tO tC) v (xs (nI i + 1).toNatClampNeg) (xs (nI i + 2).toNatClampNeg) (xs (nI i + 3).toNatClampNeg) (xs (nI i + 4).toNatClampNeg) (xs (nI i + 5).toNatClampNeg) e2) (cwV 5 hts gL_law_X6_copy rfl rfl rfl (by decide +kernel) ⟨Nat.le_of_ble_eq_true rfl, Nat.le_of_ble_eq_true rfl⟩) rfl hl.1 rfl (Nat.le_of_ble_eq_true rfl) dL_law_407 ⟨Nat.le_of_ble_eq_true rfl, Nat.le_of_ble_eq_true rfl⟩ (fun H locs hP hP2 hS => ?_)
  exact lv_icmp_eq (tgt := 1342) hx hb dL_law_410 (by decide) (fun _ => kk _ _ _ _ hI' hP hP2 hS) (fun z => absurd rfl z)
set_option maxHeartbeats 4000000 in
set_option maxRecDepth 100000 in
theorem lc_mean {p : Program} {l : Launch} {e : Env} {s : State} {m : MethodId} {below : List Frame} {meth : Method} {c : Code} {H : Heap} {locs : List Loc} {Q : State → Prop} {ls : Array Slot} {u v : UU} {D : va_G} {a1 a2 : Nat → Nat} {cA : Nat → ClassId} {tO tC b L i : Nat} {xs : Nat → Int32} (hA : LA p s m c b L xs D a1 a2 cA tO tC) (hi : i + 6 ≤ L) (hI : Inv u v) (hP : Ps (gC D a1 cA tO tC) 0 55 u H) (hP2 : Ps (gM D a2 cA tO tC) 55 20 v H) (hS : va_S (fun q => s.heap.size ≤ q) s.heap H locs) (hl : lv_has ls 4 [(3, .int (nI i)), (0, .ref b), (1, .ref (a1 0)), (2, .ref (a2 55))]) (kk : LK p l e s m b below meth c Q D a1 a2 cA tO tC ls) : W p l e room_1 s m #[Value.ref b] below meth c H locs 600000 7302249 Q (F0 m 415 ls []) := by
  obtain ⟨hx, hb, hml, hown, hts, hX, hbl, hL, hL3⟩ := hA
  have hbA : ¬ (fun q : Nat => s.heap.size ≤ q) b := Nat.not_le.mpr hbl
  have X : CallFix p m c cL_law 4 s #[Value.ref b] wsL_law RL := ⟨hx, hb, hml, hown, hts⟩
  obtain ⟨r, u', v', e1, e2, hI'⟩ := op_mean hI (xs (nI i + 1).toNatClampNeg)
  refine lv_aload_n hx hb dL_law_415 rfl (lv_at hl 2 rfl) ?_
  refine lv_aload_n hx hb dL_law_416 rfl (lv_at hl 1 rfl) ?_
  refine lv_iload_n hx hb dL_law_417 rfl (lv_at hl 0 rfl) ?_
  refine lv_iconst (v := (1 : Int32)) hx hb dL_law_418 (by decide) ?_
  refine lv_iadd hx hb dL_law_419 ?_
  refine va_sld hx hb hX hbl hbA hS (lw_in hi (k := 1) (by omega) hL3) dL_law_420 ?_
  refine r_LCi X hL hP hP2 hS (c_X5_mean l (gC D a1 cA tO tC) u (xs (nI i + 1).toNatClampNeg) e1) (cwV 1 hts gL_law_X5_mean rfl rfl rfl (by decide +kernel) ⟨Nat.le_of_ble_eq_true rfl, Nat.le_of_ble_eq_true rfl⟩) rfl hl.1 rfl (Nat.le_of_ble_eq_true rfl) dL_law_421 ⟨Nat.le_of_ble_eq_true rfl, Nat.le_of_ble_eq_true rfl⟩ (fun H locs hP hP2 hS => ?_)
  refine lv_aload_n hx hb dL_law_424 rfl (lv_at hl 3 rfl) ?_
  refine lv_aload_n hx hb dL_law_425 rfl (lv_at hl 1 rfl) ?_
  refine lv_iload_n hx hb dL_law_426 rfl (lv_at hl 0 rfl) ?_
  refine lv_iconst (v := (1 : Int32)) hx hb dL_law_427 (by decide) ?_
  refine lv_iadd hx hb dL_law_428 ?_
  refine va_sld hx hb hX hbl hbA hS (lw_in hi (k := 1) (by omega) hL3) dL_law_429 ?_
  refine r_LMi X hL hP hP2 hS (c_X6_mean l (gM D a2 cA tO tC) v (xs (nI i + 1).toNatClampNeg) e2) (cwV 1 hts gL_law_X6_mean rfl rfl rfl (by decide +kernel) ⟨Nat.le_of_ble_eq_true rfl, Nat.le_of_ble_eq_true rfl⟩) rfl hl.1 rfl (Nat.le_of_ble_eq_true rfl) dL_law_430 ⟨Nat.le_of_ble_eq_true rfl, Nat.le_of_ble_eq_true rfl⟩ (fun H locs hP hP2 hS => ?_)
  exact lv_icmp_eq (tgt := 1342) hx hb dL_law_433 (by decide) (fun _ => kk _ _ _ _ hI' hP hP2 hS) (fun z => absurd rfl z)
set_option maxHeartbeats 4000000 in
set_option maxRecDepth 100000 in
theorem lc_text {p : Program} {l : Launch} {e : Env} {s : State} {m : MethodId} {below : List Frame} {meth : Method} {c : Code} {H : Heap} {locs : List Loc} {Q : State → Prop} {ls : Array Slot} {u v : UU} {D : va_G} {a1 a2 : Nat → Nat} {cA : Nat → ClassId} {tO tC b L i : Nat} {xs : Nat → Int32} (hA : LA p s m c b L xs D a1 a2 cA tO tC) (hi : i + 6 ≤ L) (hI : Inv u v) (hP : Ps (gC D a1 cA tO tC) 0 55 u H) (hP2 : Ps (gM D a2 cA tO tC) 55 20 v H) (hS : va_S (fun q => s.heap.size ≤ q) s.heap H locs) (hl : lv_has ls 4 [(3, .int (nI i)), (0, .ref b), (1, .ref (a1 0)), (2, .ref (a2 55))]) (kk : LK p l e s m b below meth c Q D a1 a2 cA tO tC ls) : W p l e room_1 s m #[Value.ref b] below meth c H locs 600000 7302249 Q (F0 m 438 ls []) := by
  obtain ⟨hx, hb, hml, hown, hts, hX, hbl, hL, hL3⟩ := hA
  have hbA : ¬ (fun q : Nat => s.heap.size ≤ q) b := Nat.not_le.mpr hbl
  have X : CallFix p m c cL_law 4 s #[Value.ref b] wsL_law RL := ⟨hx, hb, hml, hown, hts⟩
  obtain ⟨r, u', v', e1, e2, hI'⟩ := op_text hI (xs (nI i + 1).toNatClampNeg) (xs (nI i + 2).toNatClampNeg)
  refine lv_aload_n hx hb dL_law_438 rfl (lv_at hl 2 rfl) ?_
  refine lv_aload_n hx hb dL_law_439 rfl (lv_at hl 1 rfl) ?_
  refine lv_iload_n hx hb dL_law_440 rfl (lv_at hl 0 rfl) ?_
  refine lv_iconst (v := (1 : Int32)) hx hb dL_law_441 (by decide) ?_
  refine lv_iadd hx hb dL_law_442 ?_
  refine va_sld hx hb hX hbl hbA hS (lw_in hi (k := 1) (by omega) hL3) dL_law_443 ?_
  refine lv_aload_n hx hb dL_law_444 rfl (lv_at hl 1 rfl) ?_
  refine lv_iload_n hx hb dL_law_445 rfl (lv_at hl 0 rfl) ?_
  refine lv_iconst (v := (2 : Int32)) hx hb dL_law_446 (by decide) ?_
  refine lv_iadd hx hb dL_law_447 ?_
  refine va_sld hx hb hX hbl hbA hS (lw_in hi (k := 2) (by omega) hL3) dL_law_448 ?_
  refine r_LCi X hL hP hP2 hS (c_X5_text l (gC D a1 cA tO tC) u (xs (nI i + 1).toNatClampNeg) (xs (nI i + 2).toNatClampNeg) e1) (cwV 2 hts gL_law_X5_text rfl rfl rfl (by decide +kernel) ⟨Nat.le_of_ble_eq_true rfl, Nat.le_of_ble_eq_true rfl⟩) rfl hl.1 rfl (Nat.le_of_ble_eq_true rfl) dL_law_449 ⟨Nat.le_of_ble_eq_true rfl, Nat.le_of_ble_eq_true rfl⟩ (fun H locs hP hP2 hS => ?_)
  refine lv_aload_n hx hb dL_law_452 rfl (lv_at hl 3 rfl) ?_
  refine lv_aload_n hx hb dL_law_453 rfl (lv_at hl 1 rfl) ?_
  refine lv_iload_n hx hb dL_law_454 rfl (lv_at hl 0 rfl) ?_
  refine lv_iconst (v := (1 : Int32)) hx hb dL_law_455 (by decide) ?_
  refine lv_iadd hx hb dL_law_456 ?_
  refine va_sld hx hb hX hbl hbA hS (lw_in hi (k := 1) (by omega) hL3) dL_law_457 ?_
  refine lv_aload_n hx hb dL_law_458 rfl (lv_at hl 1 rfl) ?_
  refine lv_iload_n hx hb dL_law_459 rfl (lv_at hl 0 rfl) ?_
  refine lv_iconst (v := (2 : Int32)) hx hb dL_law_460 (by decide) ?_
  refine lv_iadd hx hb dL_law_461 ?_
  refine va_sld hx hb hX hbl hbA hS (lw_in hi (k := 2) (by omega) hL3) dL_law_462 ?_
  refine r_LMi X hL hP hP2 hS (c_X6_text l (gM D a2 cA tO tC) v (xs (nI i + 1).toNatClampNeg) (xs (nI i + 2).toNatClampNeg) e2) (cwV 2 hts gL_law_X6_text rfl rfl rfl (by decide +kernel) ⟨Nat.le_of_ble_eq_true rfl, Nat.le_of_ble_eq_true rfl⟩) rfl hl.1 rfl (Nat.le_of_ble_eq_true rfl) dL_law_463 ⟨Nat.le_of_ble_eq_true rfl, Nat.le_of_ble_eq_true rfl⟩ (fun H locs hP hP2 hS => ?_)
  exact lv_icmp_eq (tgt := 1342) hx hb dL_law_466 (by decide) (fun _ => kk _ _ _ _ hI' hP hP2 hS) (fun z => absurd rfl z)
set_option maxHeartbeats 4000000 in
set_option maxRecDepth 100000 in
theorem lc_put {p : Program} {l : Launch} {e : Env} {s : State} {m : MethodId} {below : List Frame} {meth : Method} {c : Code} {H : Heap} {locs : List Loc} {Q : State → Prop} {ls : Array Slot} {u v : UU} {D : va_G} {a1 a2 : Nat → Nat} {cA : Nat → ClassId} {tO tC b L i : Nat} {xs : Nat → Int32} (hA : LA p s m c b L xs D a1 a2 cA tO tC) (hi : i + 6 ≤ L) (hI : Inv u v) (hP : Ps (gC D a1 cA tO tC) 0 55 u H) (hP2 : Ps (gM D a2 cA tO tC) 55 20 v H) (hS : va_S (fun q => s.heap.size ≤ q) s.heap H locs) (hl : lv_has ls 4 [(3, .int (nI i)), (0, .ref b), (1, .ref (a1 0)), (2, .ref (a2 55))]) (kk : LK p l e s m b below meth c Q D a1 a2 cA tO tC ls) : W p l e room_1 s m #[Value.ref b] below meth c H locs 600000 7302249 Q (F0 m 471 ls []) := by
  obtain ⟨hx, hb, hml, hown, hts, hX, hbl, hL, hL3⟩ := hA
  have hbA : ¬ (fun q : Nat => s.heap.size ≤ q) b := Nat.not_le.mpr hbl
  have X : CallFix p m c cL_law 4 s #[Value.ref b] wsL_law RL := ⟨hx, hb, hml, hown, hts⟩
  obtain ⟨r, u', v', e1, e2, hI'⟩ := op_put hI (xs (nI i + 1).toNatClampNeg) (xs (nI i + 2).toNatClampNeg) (xs (nI i + 3).toNatClampNeg)
  refine lv_aload_n hx hb dL_law_471 rfl (lv_at hl 2 rfl) ?_
  refine lv_aload_n hx hb dL_law_472 rfl (lv_at hl 1 rfl) ?_
  refine lv_iload_n hx hb dL_law_473 rfl (lv_at hl 0 rfl) ?_
  refine lv_iconst (v := (1 : Int32)) hx hb dL_law_474 (by decide) ?_
  refine lv_iadd hx hb dL_law_475 ?_
  refine va_sld hx hb hX hbl hbA hS (lw_in hi (k := 1) (by omega) hL3) dL_law_476 ?_
  refine lv_aload_n hx hb dL_law_477 rfl (lv_at hl 1 rfl) ?_
  refine lv_iload_n hx hb dL_law_478 rfl (lv_at hl 0 rfl) ?_
  refine lv_iconst (v := (2 : Int32)) hx hb dL_law_479 (by decide) ?_
  refine lv_iadd hx hb dL_law_480 ?_
  refine va_sld hx hb hX hbl hbA hS (lw_in hi (k := 2) (by omega) hL3) dL_law_481 ?_
  refine lv_aload_n hx hb dL_law_482 rfl (lv_at hl 1 rfl) ?_
  refine lv_iload_n hx hb dL_law_483 rfl (lv_at hl 0 rfl) ?_
  refine lv_iconst (v := (3 : Int32)) hx hb dL_law_484 (by decide) ?_
  refine lv_iadd hx hb dL_law_485 ?_
  refine va_sld hx hb hX hbl hbA hS (lw_in hi (k := 3) (by omega) hL3) dL_law_486 ?_
  refine r_LCi X hL hP hP2 hS (c_X5_put l (gC D a1 cA tO tC) u (xs (nI i + 1).toNatClampNeg) (xs (nI i + 2).toNatClampNeg) (xs (nI i + 3).toNatClampNeg) e1) (cwV 3 hts gL_law_X5_put rfl rfl rfl (by decide +kernel) ⟨Nat.le_of_ble_eq_true rfl, Nat.le_of_ble_eq_true rfl⟩) rfl hl.1 rfl (Nat.le_of_ble_eq_true rfl) dL_law_487 ⟨Nat.le_of_ble_eq_true rfl, Nat.le_of_ble_eq_true rfl⟩ (fun H locs hP hP2 hS => ?_)
  refine lv_aload_n hx hb dL_law_490 rfl (lv_at hl 3 rfl) ?_
  refine lv_aload_n hx hb dL_law_491 rfl (lv_at hl 1 rfl) ?_
  refine lv_iload_n hx hb dL_law_492 rfl (lv_at hl 0 rfl) ?_
  refine lv_iconst (v := (1 : Int32)) hx hb dL_law_493 (by decide) ?_
  refine lv_iadd hx hb dL_law_494 ?_
  refine va_sld hx hb hX hbl hbA hS (lw_in hi (k := 1) (by omega) hL3) dL_law_495 ?_
  refine lv_aload_n hx hb dL_law_496 rfl (lv_at hl 1 rfl) ?_
  refine lv_iload_n hx hb dL_law_497 rfl (lv_at hl 0 rfl) ?_
  refine lv_iconst (v := (2 : Int32)) hx hb dL_law_498 (by decide) ?_
  refine lv_iadd hx hb dL_law_499 ?_
  refine va_sld hx hb hX hbl hbA hS (lw_in hi (k := 2) (by omega) hL3) dL_law_500 ?_
  refine lv_aload_n hx hb dL_law_501 rfl (lv_at hl 1 rfl) ?_
  refine lv_iload_n hx hb dL_law_502 rfl (lv_at hl 0 rfl) ?_
  refine lv_iconst (v := (3 : Int32)) hx hb dL_law_503 (by decide) ?_
  refine lv_iadd hx hb dL_law_504 ?_
  refine va_sld hx hb hX hbl hbA hS (lw_in hi (k := 3) (by omega) hL3) dL_law_505 ?_
  refine r_LMi X hL hP hP2 hS (c_X6_put l (gM D a2 cA tO tC) v (xs (nI i + 1).toNatClampNeg) (xs (nI i + 2).toNatClampNeg) (xs (nI i + 3).toNatClampNeg) e2) (cwV 3 hts gL_law_X6_put rfl rfl rfl (by decide +kernel) ⟨Nat.le_of_ble_eq_true rfl, Nat.le_of_ble_eq_true rfl⟩) rfl hl.1 rfl (Nat.le_of_ble_eq_true rfl) dL_law_506 ⟨Nat.le_of_ble_eq_true rfl, Nat.le_of_ble_eq_true rfl⟩ (fun H locs hP hP2 hS => ?_)
  exact lv_icmp_eq (tgt := 1342) hx hb dL_law_509 (by decide) (fun _ => kk _ _ _ _ hI' hP hP2 hS) (fun z => absurd rfl z)
set_option maxHeartbeats 4000000 in
set_option maxRecDepth 100000 in
theorem lc_fault {p : Program} {l : Launch} {e : Env} {s : State} {m : MethodId} {below : List Frame} {meth : Method} {c : Code} {H : Heap} {locs : List Loc} {Q : State → Prop} {ls : Array Slot} {u v : UU} {D : va_G} {a1 a2 : Nat → Nat} {cA : Nat → ClassId} {tO tC b L i : Nat} {xs : Nat → Int32} (hA : LA p s m c b L xs D a1 a2 cA tO tC) (hi : i + 6 ≤ L) (hI : Inv u v) (hP : Ps (gC D a1 cA tO tC) 0 55 u H) (hP2 : Ps (gM D a2 cA tO tC) 55 20 v H) (hS : va_S (fun q => s.heap.size ≤ q) s.heap H locs) (hl : lv_has ls 4 [(3, .int (nI i)), (0, .ref b), (1, .ref (a1 0)), (2, .ref (a2 55))]) (kk : LK p l e s m b below meth c Q D a1 a2 cA tO tC ls) : W p l e room_1 s m #[Value.ref b] below meth c H locs 600000 7302249 Q (F0 m 514 ls []) := by
  obtain ⟨hx, hb, hml, hown, hts, hX, hbl, hL, hL3⟩ := hA
  have hbA : ¬ (fun q : Nat => s.heap.size ≤ q) b := Nat.not_le.mpr hbl
  have X : CallFix p m c cL_law 4 s #[Value.ref b] wsL_law RL := ⟨hx, hb, hml, hown, hts⟩
  obtain ⟨r, u', v', e1, e2, hI'⟩ := op_fault hI (xs (nI i + 1).toNatClampNeg)
  refine lv_aload_n hx hb dL_law_514 rfl (lv_at hl 2 rfl) ?_
  refine lv_aload_n hx hb dL_law_515 rfl (lv_at hl 1 rfl) ?_
  refine lv_iload_n hx hb dL_law_516 rfl (lv_at hl 0 rfl) ?_
  refine lv_iconst (v := (1 : Int32)) hx hb dL_law_517 (by decide) ?_
  refine lv_iadd hx hb dL_law_518 ?_
  refine va_sld hx hb hX hbl hbA hS (lw_in hi (k := 1) (by omega) hL3) dL_law_519 ?_
  refine r_LCi X hL hP hP2 hS (c_X5_fault l (gC D a1 cA tO tC) u (xs (nI i + 1).toNatClampNeg) e1) (cwV 1 hts gL_law_X5_fault rfl rfl rfl (by decide +kernel) ⟨Nat.le_of_ble_eq_true rfl, Nat.le_of_ble_eq_true rfl⟩) rfl hl.1 rfl (Nat.le_of_ble_eq_true rfl) dL_law_520 ⟨Nat.le_of_ble_eq_true rfl, Nat.le_of_ble_eq_true rfl⟩ (fun H locs hP hP2 hS => ?_)
  refine lv_aload_n hx hb dL_law_523 rfl (lv_at hl 3 rfl) ?_
  refine lv_aload_n hx hb dL_law_524 rfl (lv_at hl 1 rfl) ?_
  refine lv_iload_n hx hb dL_law_525 rfl (lv_at hl 0 rfl) ?_
  refine lv_iconst (v := (1 : Int32)) hx hb dL_law_526 (by decide) ?_
  refine lv_iadd hx hb dL_law_527 ?_
  refine va_sld hx hb hX hbl hbA hS (lw_in hi (k := 1) (by omega) hL3) dL_law_528 ?_
  refine r_LMi X hL hP hP2 hS (c_X6_fault l (gM D a2 cA tO tC) v (xs (nI i + 1).toNatClampNeg) e2) (cwV 1 hts gL_law_X6_fault rfl rfl rfl (by decide +kernel) ⟨Nat.le_of_ble_eq_true rfl, Nat.le_of_ble_eq_true rfl⟩) rfl hl.1 rfl (Nat.le_of_ble_eq_true rfl) dL_law_529 ⟨Nat.le_of_ble_eq_true rfl, Nat.le_of_ble_eq_true rfl⟩ (fun H locs hP hP2 hS => ?_)
  exact lv_icmp_eq (tgt := 1342) hx hb dL_law_532 (by decide) (fun _ => kk _ _ _ _ hI' hP hP2 hS) (fun z => absurd rfl z)
set_option maxHeartbeats 4000000 in
set_option maxRecDepth 100000 in
theorem lc_table {p : Program} {l : Launch} {e : Env} {s : State} {m : MethodId} {below : List Frame} {meth : Method} {c : Code} {H : Heap} {locs : List Loc} {Q : State → Prop} {ls : Array Slot} {u v : UU} {D : va_G} {a1 a2 : Nat → Nat} {cA : Nat → ClassId} {tO tC b L i : Nat} {xs : Nat → Int32} (hA : LA p s m c b L xs D a1 a2 cA tO tC) (hi : i + 6 ≤ L) (hI : Inv u v) (hP : Ps (gC D a1 cA tO tC) 0 55 u H) (hP2 : Ps (gM D a2 cA tO tC) 55 20 v H) (hS : va_S (fun q => s.heap.size ≤ q) s.heap H locs) (hl : lv_has ls 4 [(3, .int (nI i)), (0, .ref b), (1, .ref (a1 0)), (2, .ref (a2 55))]) (kk : LK p l e s m b below meth c Q D a1 a2 cA tO tC ls) : W p l e room_1 s m #[Value.ref b] below meth c H locs 600000 7302249 Q (F0 m 537 ls []) := by
  obtain ⟨hx, hb, hml, hown, hts, hX, hbl, hL, hL3⟩ := hA
  have hbA : ¬ (fun q : Nat => s.heap.size ≤ q) b := Nat.not_le.mpr hbl
  have X : CallFix p m c cL_law 4 s #[Value.ref b] wsL_law RL := ⟨hx, hb, hml, hown, hts⟩
  obtain ⟨r, u', v', e1, e2, hI'⟩ := op_table hI (xs (nI i + 1).toNatClampNeg)
  refine lv_aload_n hx hb dL_law_537 rfl (lv_at hl 2 rfl) ?_
  refine lv_aload_n hx hb dL_law_538 rfl (lv_at hl 1 rfl) ?_
  refine lv_iload_n hx hb dL_law_539 rfl (lv_at hl 0 rfl) ?_
  refine lv_iconst (v := (1 : Int32)) hx hb dL_law_540 (by decide) ?_
  refine lv_iadd hx hb dL_law_541 ?_
  refine va_sld hx hb hX hbl hbA hS (lw_in hi (k := 1) (by omega) hL3) dL_law_542 ?_
  refine r_LCi X hL hP hP2 hS (c_X5_table l (gC D a1 cA tO tC) u (xs (nI i + 1).toNatClampNeg) e1) (cwV 1 hts gL_law_X5_table rfl rfl rfl (by decide +kernel) ⟨Nat.le_of_ble_eq_true rfl, Nat.le_of_ble_eq_true rfl⟩) rfl hl.1 rfl (Nat.le_of_ble_eq_true rfl) dL_law_543 ⟨Nat.le_of_ble_eq_true rfl, Nat.le_of_ble_eq_true rfl⟩ (fun H locs hP hP2 hS => ?_)
  refine lv_aload_n hx hb dL_law_546 rfl (lv_at hl 3 rfl) ?_
  refine lv_aload_n hx hb dL_law_547 rfl (lv_at hl 1 rfl) ?_
  refine lv_iload_n hx hb dL_law_548 rfl (lv_at hl 0 rfl) ?_
  refine lv_iconst (v := (1 : Int32)) hx hb dL_law_549 (by decide) ?_
  refine lv_iadd hx hb dL_law_550 ?_
  refine va_sld hx hb hX hbl hbA hS (lw_in hi (k := 1) (by omega) hL3) dL_law_551 ?_
  refine r_LMi X hL hP hP2 hS (c_X6_table l (gM D a2 cA tO tC) v (xs (nI i + 1).toNatClampNeg) e2) (cwV 1 hts gL_law_X6_table rfl rfl rfl (by decide +kernel) ⟨Nat.le_of_ble_eq_true rfl, Nat.le_of_ble_eq_true rfl⟩) rfl hl.1 rfl (Nat.le_of_ble_eq_true rfl) dL_law_552 ⟨Nat.le_of_ble_eq_true rfl, Nat.le_of_ble_eq_true rfl⟩ (fun H locs hP hP2 hS => ?_)
  exact lv_icmp_eq (tgt := 1342) hx hb dL_law_555 (by decide) (fun _ => kk _ _ _ _ hI' hP hP2 hS) (fun z => absurd rfl z)
set_option maxHeartbeats 4000000 in
set_option maxRecDepth 100000 in
theorem lc_worker {p : Program} {l : Launch} {e : Env} {s : State} {m : MethodId} {below : List Frame} {meth : Method} {c : Code} {H : Heap} {locs : List Loc} {Q : State → Prop} {ls : Array Slot} {u v : UU} {D : va_G} {a1 a2 : Nat → Nat} {cA : Nat → ClassId} {tO tC b L i : Nat} {xs : Nat → Int32} (hA : LA p s m c b L xs D a1 a2 cA tO tC) (hi : i + 6 ≤ L) (hI : Inv u v) (hP : Ps (gC D a1 cA tO tC) 0 55 u H) (hP2 : Ps (gM D a2 cA tO tC) 55 20 v H) (hS : va_S (fun q => s.heap.size ≤ q) s.heap H locs) (hl : lv_has ls 4 [(3, .int (nI i)), (0, .ref b), (1, .ref (a1 0)), (2, .ref (a2 55))]) (kk : LK p l e s m b below meth c Q D a1 a2 cA tO tC ls) : W p l e room_1 s m #[Value.ref b] below meth c H locs 600000 7302249 Q (F0 m 560 ls []) := by
  obtain ⟨hx, hb, hml, hown, hts, hX, hbl, hL, hL3⟩ := hA
  have hbA : ¬ (fun q : Nat => s.heap.size ≤ q) b := Nat.not_le.mpr hbl
  have X : CallFix p m c cL_law 4 s #[Value.ref b] wsL_law RL := ⟨hx, hb, hml, hown, hts⟩
  obtain ⟨r, u', v', e1, e2, hI'⟩ := op_worker hI (xs (nI i + 1).toNatClampNeg) (xs (nI i + 2).toNatClampNeg)
  refine lv_aload_n hx hb dL_law_560 rfl (lv_at hl 2 rfl) ?_
  refine lv_aload_n hx hb dL_law_561 rfl (lv_at hl 1 rfl) ?_
  refine lv_iload_n hx hb dL_law_562 rfl (lv_at hl 0 rfl) ?_
  refine lv_iconst (v := (1 : Int32)) hx hb dL_law_563 (by decide) ?_
  refine lv_iadd hx hb dL_law_564 ?_
  refine va_sld hx hb hX hbl hbA hS (lw_in hi (k := 1) (by omega) hL3) dL_law_565 ?_
  refine lv_aload_n hx hb dL_law_566 rfl (lv_at hl 1 rfl) ?_
  refine lv_iload_n hx hb dL_law_567 rfl (lv_at hl 0 rfl) ?_
  refine lv_iconst (v := (2 : Int32)) hx hb dL_law_568 (by decide) ?_
  refine lv_iadd hx hb dL_law_569 ?_
  refine va_sld hx hb hX hbl hbA hS (lw_in hi (k := 2) (by omega) hL3) dL_law_570 ?_
  refine r_LCi X hL hP hP2 hS (c_X5_worker l (gC D a1 cA tO tC) u (xs (nI i + 1).toNatClampNeg) (xs (nI i + 2).toNatClampNeg) e1) (cwV 2 hts gL_law_X5_worker rfl rfl rfl (by decide +kernel) ⟨Nat.le_of_ble_eq_true rfl, Nat.le_of_ble_eq_true rfl⟩) rfl hl.1 rfl (Nat.le_of_ble_eq_true rfl) dL_law_571 ⟨Nat.le_of_ble_eq_true rfl, Nat.le_of_ble_eq_true rfl⟩ (fun H locs hP hP2 hS => ?_)
  refine lv_aload_n hx hb dL_law_574 rfl (lv_at hl 3 rfl) ?_
  refine lv_aload_n hx hb dL_law_575 rfl (lv_at hl 1 rfl) ?_
  refine lv_iload_n hx hb dL_law_576 rfl (lv_at hl 0 rfl) ?_
  refine lv_iconst (v := (1 : Int32)) hx hb dL_law_577 (by decide) ?_
  refine lv_iadd hx hb dL_law_578 ?_
  refine va_sld hx hb hX hbl hbA hS (lw_in hi (k := 1) (by omega) hL3) dL_law_579 ?_
  refine lv_aload_n hx hb dL_law_580 rfl (lv_at hl 1 rfl) ?_
  refine lv_iload_n hx hb dL_law_581 rfl (lv_at hl 0 rfl) ?_
  refine lv_iconst (v := (2 : Int32)) hx hb dL_law_582 (by decide) ?_
  refine lv_iadd hx hb dL_law_583 ?_
  refine va_sld hx hb hX hbl hbA hS (lw_in hi (k := 2) (by omega) hL3) dL_law_584 ?_
  refine r_LMi X hL hP hP2 hS (c_X6_worker l (gM D a2 cA tO tC) v (xs (nI i + 1).toNatClampNeg) (xs (nI i + 2).toNatClampNeg) e2) (cwV 2 hts gL_law_X6_worker rfl rfl rfl (by decide +kernel) ⟨Nat.le_of_ble_eq_true rfl, Nat.le_of_ble_eq_true rfl⟩) rfl hl.1 rfl (Nat.le_of_ble_eq_true rfl) dL_law_585 ⟨Nat.le_of_ble_eq_true rfl, Nat.le_of_ble_eq_true rfl⟩ (fun H locs hP hP2 hS => ?_)
  exact lv_icmp_eq (tgt := 1342) hx hb dL_law_588 (by decide) (fun _ => kk _ _ _ _ hI' hP hP2 hS) (fun z => absurd rfl z)
set_option maxHeartbeats 4000000 in
set_option maxRecDepth 100000 in
theorem lc_mark {p : Program} {l : Launch} {e : Env} {s : State} {m : MethodId} {below : List Frame} {meth : Method} {c : Code} {H : Heap} {locs : List Loc} {Q : State → Prop} {ls : Array Slot} {u v : UU} {D : va_G} {a1 a2 : Nat → Nat} {cA : Nat → ClassId} {tO tC b L i : Nat} {xs : Nat → Int32} (hA : LA p s m c b L xs D a1 a2 cA tO tC) (hi : i + 6 ≤ L) (hI : Inv u v) (hP : Ps (gC D a1 cA tO tC) 0 55 u H) (hP2 : Ps (gM D a2 cA tO tC) 55 20 v H) (hS : va_S (fun q => s.heap.size ≤ q) s.heap H locs) (hl : lv_has ls 4 [(3, .int (nI i)), (0, .ref b), (1, .ref (a1 0)), (2, .ref (a2 55))]) (kk : LK p l e s m b below meth c Q D a1 a2 cA tO tC ls) : W p l e room_1 s m #[Value.ref b] below meth c H locs 600000 7302249 Q (F0 m 593 ls []) := by
  obtain ⟨hx, hb, hml, hown, hts, hX, hbl, hL, hL3⟩ := hA
  have hbA : ¬ (fun q : Nat => s.heap.size ≤ q) b := Nat.not_le.mpr hbl
  have X : CallFix p m c cL_law 4 s #[Value.ref b] wsL_law RL := ⟨hx, hb, hml, hown, hts⟩
  obtain ⟨r, u', v', e1, e2, hI'⟩ := op_mark hI (xs (nI i + 1).toNatClampNeg) (xs (nI i + 2).toNatClampNeg)
  refine lv_aload_n hx hb dL_law_593 rfl (lv_at hl 2 rfl) ?_
  refine lv_aload_n hx hb dL_law_594 rfl (lv_at hl 1 rfl) ?_
  refine lv_iload_n hx hb dL_law_595 rfl (lv_at hl 0 rfl) ?_
  refine lv_iconst (v := (1 : Int32)) hx hb dL_law_596 (by decide) ?_
  refine lv_iadd hx hb dL_law_597 ?_
  refine va_sld hx hb hX hbl hbA hS (lw_in hi (k := 1) (by omega) hL3) dL_law_598 ?_
  refine lv_aload_n hx hb dL_law_599 rfl (lv_at hl 1 rfl) ?_
  refine lv_iload_n hx hb dL_law_600 rfl (lv_at hl 0 rfl) ?_
  refine lv_iconst (v := (2 : Int32)) hx hb dL_law_601 (by decide) ?_
  refine lv_iadd hx hb dL_law_602 ?_
  refine va_sld hx hb hX hbl hbA hS (lw_in hi (k := 2) (by omega) hL3) dL_law_603 ?_
  refine r_LCi X hL hP hP2 hS (c_X5_mark l (gC D a1 cA tO tC) u (xs (nI i + 1).toNatClampNeg) (xs (nI i + 2).toNatClampNeg) e1) (cwV 2 hts gL_law_X5_mark rfl rfl rfl (by decide +kernel) ⟨Nat.le_of_ble_eq_true rfl, Nat.le_of_ble_eq_true rfl⟩) rfl hl.1 rfl (Nat.le_of_ble_eq_true rfl) dL_law_604 ⟨Nat.le_of_ble_eq_true rfl, Nat.le_of_ble_eq_true rfl⟩ (fun H locs hP hP2 hS => ?_)
  refine lv_aload_n hx hb dL_law_607 rfl (lv_at hl 3 rfl) ?_
  refine lv_aload_n hx hb dL_law_608 rfl (lv_at hl 1 rfl) ?_
  refine lv_iload_n hx hb dL_law_609 rfl (lv_at hl 0 rfl) ?_
  refine lv_iconst (v := (1 : Int32)) hx hb dL_law_610 (by decide) ?_
  refine lv_iadd hx hb dL_law_611 ?_
  refine va_sld hx hb hX hbl hbA hS (lw_in hi (k := 1) (by omega) hL3) dL_law_612 ?_
  refine lv_aload_n hx hb dL_law_613 rfl (lv_at hl 1 rfl) ?_
  refine lv_iload_n hx hb dL_law_614 rfl (lv_at hl 0 rfl) ?_
  refine lv_iconst (v := (2 : Int32)) hx hb dL_law_615 (by decide) ?_
  refine lv_iadd hx hb dL_law_616 ?_
  refine va_sld hx hb hX hbl hbA hS (lw_in hi (k := 2) (by omega) hL3) dL_law_617 ?_
  refine r_LMi X hL hP hP2 hS (c_X6_mark l (gM D a2 cA tO tC) v (xs (nI i + 1).toNatClampNeg) (xs (nI i + 2).toNatClampNeg) e2) (cwV 2 hts gL_law_X6_mark rfl rfl rfl (by decide +kernel) ⟨Nat.le_of_ble_eq_true rfl, Nat.le_of_ble_eq_true rfl⟩) rfl hl.1 rfl (Nat.le_of_ble_eq_true rfl) dL_law_618 ⟨Nat.le_of_ble_eq_true rfl, Nat.le_of_ble_eq_true rfl⟩ (fun H locs hP hP2 hS => ?_)
  exact lv_icmp_eq (tgt := 1342) hx hb dL_law_621 (by decide) (fun _ => kk _ _ _ _ hI' hP hP2 hS) (fun z => absurd rfl z)
set_option maxHeartbeats 4000000 in
set_option maxRecDepth 100000 in
theorem lc_takes {p : Program} {l : Launch} {e : Env} {s : State} {m : MethodId} {below : List Frame} {meth : Method} {c : Code} {H : Heap} {locs : List Loc} {Q : State → Prop} {ls : Array Slot} {u v : UU} {D : va_G} {a1 a2 : Nat → Nat} {cA : Nat → ClassId} {tO tC b L i : Nat} {xs : Nat → Int32} (hA : LA p s m c b L xs D a1 a2 cA tO tC) (hi : i + 6 ≤ L) (hI : Inv u v) (hP : Ps (gC D a1 cA tO tC) 0 55 u H) (hP2 : Ps (gM D a2 cA tO tC) 55 20 v H) (hS : va_S (fun q => s.heap.size ≤ q) s.heap H locs) (hl : lv_has ls 4 [(3, .int (nI i)), (0, .ref b), (1, .ref (a1 0)), (2, .ref (a2 55))]) (kk : LK p l e s m b below meth c Q D a1 a2 cA tO tC ls) : W p l e room_1 s m #[Value.ref b] below meth c H locs 600000 7302249 Q (F0 m 626 ls []) := by
  obtain ⟨hx, hb, hml, hown, hts, hX, hbl, hL, hL3⟩ := hA
  have hbA : ¬ (fun q : Nat => s.heap.size ≤ q) b := Nat.not_le.mpr hbl
  have X : CallFix p m c cL_law 4 s #[Value.ref b] wsL_law RL := ⟨hx, hb, hml, hown, hts⟩
  obtain ⟨r, e1, e2⟩ := op_takes hI (xs (nI i + 1).toNatClampNeg) (xs (nI i + 2).toNatClampNeg)
  have hI' := hI
  refine lv_aload_n hx hb dL_law_626 rfl (lv_at hl 2 rfl) ?_
  refine lv_aload_n hx hb dL_law_627 rfl (lv_at hl 1 rfl) ?_
  refine lv_iload_n hx hb dL_law_628 rfl (lv_at hl 0 rfl) ?_
  refine lv_iconst (v := (1 : Int32)) hx hb dL_law_629 (by decide) ?_
  refine lv_iadd hx hb dL_law_630 ?_
  refine va_sld hx hb hX hbl hbA hS (lw_in hi (k := 1) (by omega) hL3) dL_law_631 ?_
  refine lv_aload_n hx hb dL_law_632 rfl (lv_at hl 1 rfl) ?_
  refine lv_iload_n hx hb dL_law_633 rfl (lv_at hl 0 rfl) ?_
  refine lv_iconst (v := (2 : Int32)) hx hb dL_law_634 (by decide) ?_
  refine lv_iadd hx hb dL_law_635 ?_
  refine va_sld hx hb hX hbl hbA hS (lw_in hi (k := 2) (by omega) hL3) dL_law_636 ?_
  refine r_LCi X hL hP hP2 hS (c_X5_takes l (gC D a1 cA tO tC) u (xs (nI i + 1).toNatClampNeg) (xs (nI i + 2).toNatClampNeg) e1) (cwV 2 hts gL_law_X5_takes rfl rfl rfl (by decide +kernel) ⟨Nat.le_of_ble_eq_true rfl, Nat.le_of_ble_eq_true rfl⟩) rfl hl.1 rfl (Nat.le_of_ble_eq_true rfl) dL_law_637 ⟨Nat.le_of_ble_eq_true rfl, Nat.le_of_ble_eq_true rfl⟩ (fun H locs hP hP2 hS => ?_)
  refine lv_aload_n hx hb dL_law_640 rfl (lv_at hl 3 rfl) ?_
  refine lv_aload_n hx hb dL_law_641 rfl (lv_at hl 1 rfl) ?_
  refine lv_iload_n hx hb dL_law_642 rfl (lv_at hl 0 rfl) ?_
  refine lv_iconst (v := (1 : Int32)) hx hb dL_law_643 (by decide) ?_
  refine lv_iadd hx hb dL_law_644 ?_
  refine va_sld hx hb hX hbl hbA hS (lw_in hi (k := 1) (by omega) hL3) dL_law_645 ?_
  refine lv_aload_n hx hb dL_law_646 rfl (lv_at hl 1 rfl) ?_
  refine lv_iload_n hx hb dL_law_647 rfl (lv_at hl 0 rfl) ?_
  refine lv_iconst (v := (2 : Int32)) hx hb dL_law_648 (by decide) ?_
  refine lv_iadd hx hb dL_law_649 ?_
  refine va_sld hx hb hX hbl hbA hS (lw_in hi (k := 2) (by omega) hL3) dL_law_650 ?_
  refine r_LMi X hL hP hP2 hS (c_X6_takes l (gM D a2 cA tO tC) v (xs (nI i + 1).toNatClampNeg) (xs (nI i + 2).toNatClampNeg) e2) (cwV 2 hts gL_law_X6_takes rfl rfl rfl (by decide +kernel) ⟨Nat.le_of_ble_eq_true rfl, Nat.le_of_ble_eq_true rfl⟩) rfl hl.1 rfl (Nat.le_of_ble_eq_true rfl) dL_law_651 ⟨Nat.le_of_ble_eq_true rfl, Nat.le_of_ble_eq_true rfl⟩ (fun H locs hP hP2 hS => ?_)
  exact lv_icmp_eq (tgt := 1342) hx hb dL_law_654 (by decide) (fun _ => kk _ _ _ _ hI' hP hP2 hS) (fun z => absurd rfl z)
set_option maxHeartbeats 4000000 in
set_option maxRecDepth 100000 in
theorem lc_cut {p : Program} {l : Launch} {e : Env} {s : State} {m : MethodId} {below : List Frame} {meth : Method} {c : Code} {H : Heap} {locs : List Loc} {Q : State → Prop} {ls : Array Slot} {u v : UU} {D : va_G} {a1 a2 : Nat → Nat} {cA : Nat → ClassId} {tO tC b L i : Nat} {xs : Nat → Int32} (hA : LA p s m c b L xs D a1 a2 cA tO tC) (hi : i + 6 ≤ L) (hI : Inv u v) (hP : Ps (gC D a1 cA tO tC) 0 55 u H) (hP2 : Ps (gM D a2 cA tO tC) 55 20 v H) (hS : va_S (fun q => s.heap.size ≤ q) s.heap H locs) (hl : lv_has ls 4 [(3, .int (nI i)), (0, .ref b), (1, .ref (a1 0)), (2, .ref (a2 55))]) (kk : LK p l e s m b below meth c Q D a1 a2 cA tO tC ls) : W p l e room_1 s m #[Value.ref b] below meth c H locs 600000 7302249 Q (F0 m 659 ls []) := by
  obtain ⟨hx, hb, hml, hown, hts, hX, hbl, hL, hL3⟩ := hA
  have hbA : ¬ (fun q : Nat => s.heap.size ≤ q) b := Nat.not_le.mpr hbl
  have X : CallFix p m c cL_law 4 s #[Value.ref b] wsL_law RL := ⟨hx, hb, hml, hown, hts⟩
  obtain ⟨r, u', v', e1, e2, hI'⟩ := op_cut hI (xs (nI i + 1).toNatClampNeg)
  refine lv_aload_n hx hb dL_law_659 rfl (lv_at hl 2 rfl) ?_
  refine lv_aload_n hx hb dL_law_660 rfl (lv_at hl 1 rfl) ?_
  refine lv_iload_n hx hb dL_law_661 rfl (lv_at hl 0 rfl) ?_
  refine lv_iconst (v := (1 : Int32)) hx hb dL_law_662 (by decide) ?_
  refine lv_iadd hx hb dL_law_663 ?_
  refine va_sld hx hb hX hbl hbA hS (lw_in hi (k := 1) (by omega) hL3) dL_law_664 ?_
  refine r_LCi X hL hP hP2 hS (c_X5_cut l (gC D a1 cA tO tC) u (xs (nI i + 1).toNatClampNeg) e1) (cwV 1 hts gL_law_X5_cut rfl rfl rfl (by decide +kernel) ⟨Nat.le_of_ble_eq_true rfl, Nat.le_of_ble_eq_true rfl⟩) rfl hl.1 rfl (Nat.le_of_ble_eq_true rfl) dL_law_665 ⟨Nat.le_of_ble_eq_true rfl, Nat.le_of_ble_eq_true rfl⟩ (fun H locs hP hP2 hS => ?_)
  refine lv_aload_n hx hb dL_law_668 rfl (lv_at hl 3 rfl) ?_
  refine lv_aload_n hx hb dL_law_669 rfl (lv_at hl 1 rfl) ?_
  refine lv_iload_n hx hb dL_law_670 rfl (lv_at hl 0 rfl) ?_
  refine lv_iconst (v := (1 : Int32)) hx hb dL_law_671 (by decide) ?_
  refine lv_iadd hx hb dL_law_672 ?_
  refine va_sld hx hb hX hbl hbA hS (lw_in hi (k := 1) (by omega) hL3) dL_law_673 ?_
  refine r_LMi X hL hP hP2 hS (c_X6_cut l (gM D a2 cA tO tC) v (xs (nI i + 1).toNatClampNeg) e2) (cwV 1 hts gL_law_X6_cut rfl rfl rfl (by decide +kernel) ⟨Nat.le_of_ble_eq_true rfl, Nat.le_of_ble_eq_true rfl⟩) rfl hl.1 rfl (Nat.le_of_ble_eq_true rfl) dL_law_674 ⟨Nat.le_of_ble_eq_true rfl, Nat.le_of_ble_eq_true rfl⟩ (fun H locs hP hP2 hS => ?_)
  exact lv_icmp_eq (tgt := 1342) hx hb dL_law_677 (by decide) (fun _ => kk _ _ _ _ hI' hP hP2 hS) (fun z => absurd rfl z)
set_option maxHeartbeats 4000000 in
set_option maxRecDepth 100000 in
theorem lc_give {p : Program} {l : Launch} {e : Env} {s : State} {m : MethodId} {below : List Frame} {meth : Method} {c : Code} {H : Heap} {locs : List Loc} {Q : State → Prop} {ls : Array Slot} {u v : UU} {D : va_G} {a1 a2 : Nat → Nat} {cA : Nat → ClassId} {tO tC b L i : Nat} {xs : Nat → Int32} (hA : LA p s m c b L xs D a1 a2 cA tO tC) (hi : i + 6 ≤ L) (hI : Inv u v) (hP : Ps (gC D a1 cA tO tC) 0 55 u H) (hP2 : Ps (gM D a2 cA tO tC) 55 20 v H) (hS : va_S (fun q => s.heap.size ≤ q) s.heap H locs) (hl : lv_has ls 4 [(3, .int (nI i)), (0, .ref b), (1, .ref (a1 0)), (2, .ref (a2 55))]) (kk : LK p l e s m b below meth c Q D a1 a2 cA tO tC ls) : W p l e room_1 s m #[Value.ref b] below meth c H locs 600000 7302249 Q (F0 m 682 ls []) := by
  obtain ⟨hx, hb, hml, hown, hts, hX, hbl, hL, hL3⟩ := hA
  have hbA : ¬ (fun q : Nat => s.heap.size ≤ q) b := Nat.not_le.mpr hbl
  have X : CallFix p m c cL_law 4 s #[Value.ref b] wsL_law RL := ⟨hx, hb, hml, hown, hts⟩
  obtain ⟨r, u', v', e1, e2, hI'⟩ := op_give hI (xs (nI i + 1).toNatClampNeg) (xs (nI i + 2).toNatClampNeg)
  refine lv_aload_n hx hb dL_law_682 rfl (lv_at hl 2 rfl) ?_
  refine lv_aload_n hx hb dL_law_683 rfl (lv_at hl 1 rfl) ?_
  refine lv_iload_n hx hb dL_law_684 rfl (lv_at hl 0 rfl) ?_
  refine lv_iconst (v := (1 : Int32)) hx hb dL_law_685 (by decide) ?_
  refine lv_iadd hx hb dL_law_686 ?_
  refine va_sld hx hb hX hbl hbA hS (lw_in hi (k := 1) (by omega) hL3) dL_law_687 ?_
  refine lv_aload_n hx hb dL_law_688 rfl (lv_at hl 1 rfl) ?_
  refine lv_iload_n hx hb dL_law_689 rfl (lv_at hl 0 rfl) ?_
  refine lv_iconst (v := (2 : Int32)) hx hb dL_law_690 (by decide) ?_
  refine lv_iadd hx hb dL_law_691 ?_
  refine va_sld hx hb hX hbl hbA hS (lw_in hi (k := 2) (by omega) hL3) dL_law_692 ?_
  refine r_LCi X hL hP hP2 hS (c_X5_give l (gC D a1 cA tO tC) u (xs (nI i + 1).toNatClampNeg) (xs (nI i + 2).toNatClampNeg) e1) (cwV 2 hts gL_law_X5_give rfl rfl rfl (by decide +kernel) ⟨Nat.le_of_ble_eq_true rfl, Nat.le_of_ble_eq_true rfl⟩) rfl hl.1 rfl (Nat.le_of_ble_eq_true rfl) dL_law_693 ⟨Nat.le_of_ble_eq_true rfl, Nat.le_of_ble_eq_true rfl⟩ (fun H locs hP hP2 hS => ?_)
  refine lv_aload_n hx hb dL_law_696 rfl (lv_at hl 3 rfl) ?_
  refine lv_aload_n hx hb dL_law_697 rfl (lv_at hl 1 rfl) ?_
  refine lv_iload_n hx hb dL_law_698 rfl (lv_at hl 0 rfl) ?_
  refine lv_iconst (v := (1 : Int32)) hx hb dL_law_699 (by decide) ?_
  refine lv_iadd hx hb dL_law_700 ?_
  refine va_sld hx hb hX hbl hbA hS (lw_in hi (k := 1) (by omega) hL3) dL_law_701 ?_
  refine lv_aload_n hx hb dL_law_702 rfl (lv_at hl 1 rfl) ?_
  refine lv_iload_n hx hb dL_law_703 rfl (lv_at hl 0 rfl) ?_
  refine lv_iconst (v := (2 : Int32)) hx hb dL_law_704 (by decide) ?_
  refine lv_iadd hx hb dL_law_705 ?_
  refine va_sld hx hb hX hbl hbA hS (lw_in hi (k := 2) (by omega) hL3) dL_law_706 ?_
  refine r_LMi X hL hP hP2 hS (c_X6_give l (gM D a2 cA tO tC) v (xs (nI i + 1).toNatClampNeg) (xs (nI i + 2).toNatClampNeg) e2) (cwV 2 hts gL_law_X6_give rfl rfl rfl (by decide +kernel) ⟨Nat.le_of_ble_eq_true rfl, Nat.le_of_ble_eq_true rfl⟩) rfl hl.1 rfl (Nat.le_of_ble_eq_true rfl) dL_law_707 ⟨Nat.le_of_ble_eq_true rfl, Nat.le_of_ble_eq_true rfl⟩ (fun H locs hP hP2 hS => ?_)
  exact lv_icmp_eq (tgt := 1342) hx hb dL_law_710 (by decide) (fun _ => kk _ _ _ _ hI' hP hP2 hS) (fun z => absurd rfl z)
set_option maxHeartbeats 4000000 in
set_option maxRecDepth 100000 in
theorem lc_back {p : Program} {l : Launch} {e : Env} {s : State} {m : MethodId} {below : List Frame} {meth : Method} {c : Code} {H : Heap} {locs : List Loc} {Q : State → Prop} {ls : Array Slot} {u v : UU} {D : va_G} {a1 a2 : Nat → Nat} {cA : Nat → ClassId} {tO tC b L i : Nat} {xs : Nat → Int32} (hA : LA p s m c b L xs D a1 a2 cA tO tC) (hi : i + 6 ≤ L) (hI : Inv u v) (hP : Ps (gC D a1 cA tO tC) 0 55 u H) (hP2 : Ps (gM D a2 cA tO tC) 55 20 v H) (hS : va_S (fun q => s.heap.size ≤ q) s.heap H locs) (hl : lv_has ls 4 [(3, .int (nI i)), (0, .ref b), (1, .ref (a1 0)), (2, .ref (a2 55))]) (kk : LK p l e s m b below meth c Q D a1 a2 cA tO tC ls) : W p l e room_1 s m #[Value.ref b] below meth c H locs 600000 7302249 Q (F0 m 715 ls []) := by
  obtain ⟨hx, hb, hml, hown, hts, hX, hbl, hL, hL3⟩ := hA
  have hbA : ¬ (fun q : Nat => s.heap.size ≤ q) b := Nat.not_le.mpr hbl
  have X : CallFix p m c cL_law 4 s #[Value.ref b] wsL_law RL := ⟨hx, hb, hml, hown, hts⟩
  obtain ⟨r, u', v', e1, e2, hI'⟩ := op_back hI (xs (nI i + 1).toNatClampNeg) (xs (nI i + 2).toNatClampNeg)
  refine lv_aload_n hx hb dL_law_715 rfl (lv_at hl 2 rfl) ?_
  refine lv_aload_n hx hb dL_law_716 rfl (lv_at hl 1 rfl) ?_
  refine lv_iload_n hx hb dL_law_717 rfl (lv_at hl 0 rfl) ?_
  refine lv_iconst (v := (1 : Int32)) hx hb dL_law_718 (by decide) ?_
  refine lv_iadd hx hb dL_law_719 ?_
  refine va_sld hx hb hX hbl hbA hS (lw_in hi (k := 1) (by omega) hL3) dL_law_720 ?_
  refine lv_aload_n hx hb dL_law_721 rfl (lv_at hl 1 rfl) ?_
  refine lv_iload_n hx hb dL_law_722 rfl (lv_at hl 0 rfl) ?_
  refine lv_iconst (v := (2 : Int32)) hx hb dL_law_723 (by decide) ?_
  refine lv_iadd hx hb dL_law_724 ?_
  refine va_sld hx hb hX hbl hbA hS (lw_in hi (k := 2) (by omega) hL3) dL_law_725 ?_
  refine r_LCi X hL hP hP2 hS (c_X5_back l (gC D a1 cA tO tC) u (xs (nI i + 1).toNatClampNeg) (xs (nI i + 2).toNatClampNeg) e1) (cwV 2 hts gL_law_X5_back rfl rfl rfl (by decide +kernel) ⟨Nat.le_of_ble_eq_true rfl, Nat.le_of_ble_eq_true rfl⟩) rfl hl.1 rfl (Nat.le_of_ble_eq_true rfl) dL_law_726 ⟨Nat.le_of_ble_eq_true rfl, Nat.le_of_ble_eq_true rfl⟩ (fun H locs hP hP2 hS => ?_)
  refine lv_aload_n hx hb dL_law_729 rfl (lv_at hl 3 rfl) ?_
  refine lv_aload_n hx hb dL_law_730 rfl (lv_at hl 1 rfl) ?_
  refine lv_iload_n hx hb dL_law_731 rfl (lv_at hl 0 rfl) ?_
  refine lv_iconst (v := (1 : Int32)) hx hb dL_law_732 (by decide) ?_
  refine lv_iadd hx hb dL_law_733 ?_
  refine va_sld hx hb hX hbl hbA hS (lw_in hi (k := 1) (by omega) hL3) dL_law_734 ?_
  refine lv_aload_n hx hb dL_law_735 rfl (lv_at hl 1 rfl) ?_
  refine lv_iload_n hx hb dL_law_736 rfl (lv_at hl 0 rfl) ?_
  refine lv_iconst (v := (2 : Int32)) hx hb dL_law_737 (by decide) ?_
  refine lv_iadd hx hb dL_law_738 ?_
  refine va_sld hx hb hX hbl hbA hS (lw_in hi (k := 2) (by omega) hL3) dL_law_739 ?_
  refine r_LMi X hL hP hP2 hS (c_X6_back l (gM D a2 cA tO tC) v (xs (nI i + 1).toNatClampNeg) (xs (nI i + 2).toNatClampNeg) e2) (cwV 2 hts gL_law_X6_back rfl rfl rfl (by decide +kernel) ⟨Nat.le_of_ble_eq_true rfl, Nat.le_of_ble_eq_true rfl⟩) rfl hl.1 rfl (Nat.le_of_ble_eq_true rfl) dL_law_740 ⟨Nat.le_of_ble_eq_true rfl, Nat.le_of_ble_eq_true rfl⟩ (fun H locs hP hP2 hS => ?_)
  exact lv_icmp_eq (tgt := 1342) hx hb dL_law_743 (by decide) (fun _ => kk _ _ _ _ hI' hP hP2 hS) (fun z => absurd rfl z)
set_option maxHeartbeats 4000000 in
set_option maxRecDepth 100000 in
theorem lc_bake {p : Program} {l : Launch} {e : Env} {s : State} {m : MethodId} {below : List Frame} {meth : Method} {c : Code} {H : Heap} {locs : List Loc} {Q : State → Prop} {ls : Array Slot} {u v : UU} {D : va_G} {a1 a2 : Nat → Nat} {cA : Nat → ClassId} {tO tC b L i : Nat} {xs : Nat → Int32} (hA : LA p s m c b L xs D a1 a2 cA tO tC) (hi : i + 6 ≤ L) (hI : Inv u v) (hP : Ps (gC D a1 cA tO tC) 0 55 u H) (hP2 : Ps (gM D a2 cA tO tC) 55 20 v H) (hS : va_S (fun q => s.heap.size ≤ q) s.heap H locs) (hl : lv_has ls 4 [(3, .int (nI i)), (0, .ref b), (1, .ref (a1 0)), (2, .ref (a2 55))]) (kk : LK p l e s m b below meth c Q D a1 a2 cA tO tC ls) : W p l e room_1 s m #[Value.ref b] below meth c H locs 600000 7302249 Q (F0 m 748 ls []) := by
  obtain ⟨hx, hb, hml, hown, hts, hX, hbl, hL, hL3⟩ := hA
  have hbA : ¬ (fun q : Nat => s.heap.size ≤ q) b := Nat.not_le.mpr hbl
  have X : CallFix p m c cL_law 4 s #[Value.ref b] wsL_law RL := ⟨hx, hb, hml, hown, hts⟩
  obtain ⟨r, u', v', e1, e2, hI'⟩ := op_bake hI (xs (nI i + 1).toNatClampNeg)
  refine lv_aload_n hx hb dL_law_748 rfl (lv_at hl 2 rfl) ?_
  refine lv_aload_n hx hb dL_law_749 rfl (lv_at hl 1 rfl) ?_
  refine lv_iload_n hx hb dL_law_750 rfl (lv_at hl 0 rfl) ?_
  refine lv_iconst (v := (1 : Int32)) hx hb dL_law_751 (by decide) ?_
  refine lv_iadd hx hb dL_law_752 ?_
  refine va_sld hx hb hX hbl hbA hS (lw_in hi (k := 1) (by omega) hL3) dL_law_753 ?_
  refine r_LCi X hL hP hP2 hS (c_X5_bake l (gC D a1 cA tO tC) u (xs (nI i + 1).toNatClampNeg) e1) (cwV 1 hts gL_law_X5_bake rfl rfl rfl (by decide +kernel) ⟨Nat.le_of_ble_eq_true rfl, Nat.le_of_ble_eq_true rfl⟩) rfl hl.1 rfl (Nat.le_of_ble_eq_true rfl) dL_law_754 ⟨Nat.le_of_ble_eq_true rfl, Nat.le_of_ble_eq_true rfl⟩ (fun H locs hP hP2 hS => ?_)
  refine lv_aload_n hx hb dL_law_757 rfl (lv_at hl 3 rfl) ?_
  refine lv_aload_n hx hb dL_law_758 rfl (lv_at hl 1 rfl) ?_
  refine lv_iload_n hx hb dL_law_759 rfl (lv_at hl 0 rfl) ?_
  refine lv_iconst (v := (1 : Int32)) hx hb dL_law_760 (by decide) ?_
  refine lv_iadd hx hb dL_law_761 ?_
  refine va_sld hx hb hX hbl hbA hS (lw_in hi (k := 1) (by omega) hL3) dL_law_762 ?_
  refine r_LMi X hL hP hP2 hS (c_X6_bake l (gM D a2 cA tO tC) v (xs (nI i + 1).toNatClampNeg) e2) (cwV 1 hts gL_law_X6_bake rfl rfl rfl (by decide +kernel) ⟨Nat.le_of_ble_eq_true rfl, Nat.le_of_ble_eq_true rfl⟩) rfl hl.1 rfl (Nat.le_of_ble_eq_true rfl) dL_law_763 ⟨Nat.le_of_ble_eq_true rfl, Nat.le_of_ble_eq_true rfl⟩ (fun H locs hP hP2 hS => ?_)
  exact lv_icmp_eq (tgt := 1342) hx hb dL_law_766 (by decide) (fun _ => kk _ _ _ _ hI' hP hP2 hS) (fun z => absurd rfl z)
set_option maxHeartbeats 4000000 in
set_option maxRecDepth 100000 in
theorem lc_undo {p : Program} {l : Launch} {e : Env} {s : State} {m : MethodId} {below : List Frame} {meth : Method} {c : Code} {H : Heap} {locs : List Loc} {Q : State → Prop} {ls : Array Slot} {u v : UU} {D : va_G} {a1 a2 : Nat → Nat} {cA : Nat → ClassId} {tO tC b L i : Nat} {xs : Nat → Int32} (hA : LA p s m c b L xs D a1 a2 cA tO tC) (hi : i + 6 ≤ L) (hI : Inv u v) (hP : Ps (gC D a1 cA tO tC) 0 55 u H) (hP2 : Ps (gM D a2 cA tO tC) 55 20 v H) (hS : va_S (fun q => s.heap.size ≤ q) s.heap H locs) (hl : lv_has ls 4 [(3, .int (nI i)), (0, .ref b), (1, .ref (a1 0)), (2, .ref (a2 55))]) (kk : LK p l e s m b below meth c Q D a1 a2 cA tO tC ls) : W p l e room_1 s m #[Value.ref b] below meth c H locs 600000 7302249 Q (F0 m 771 ls []) := by
  obtain ⟨hx, hb, hml, hown, hts, hX, hbl, hL, hL3⟩ := hA
  have hbA : ¬ (fun q : Nat => s.heap.size ≤ q) b := Nat.not_le.mpr hbl
  have X : CallFix p m c cL_law 4 s #[Value.ref b] wsL_law RL := ⟨hx, hb, hml, hown, hts⟩
  obtain ⟨r, u', v', e1, e2, hI'⟩ := op_undo hI (xs (nI i + 1).toNatClampNeg)
  refine lv_aload_n hx hb dL_law_771 rfl (lv_at hl 2 rfl) ?_
  refine lv_aload_n hx hb dL_law_772 rfl (lv_at hl 1 rfl) ?_
  refine lv_iload_n hx hb dL_law_773 rfl (lv_at hl 0 rfl) ?_
  refine lv_iconst (v := (1 : Int32)) hx hb dL_law_774 (by decide) ?_
  refine lv_iadd hx hb dL_law_775 ?_
  refine va_sld hx hb hX hbl hbA hS (lw_in hi (k := 1) (by omega) hL3) dL_law_776 ?_
  refine r_LCi X hL hP hP2 hS (c_X5_undo l (gC D a1 cA tO tC) u (xs (nI i + 1).toNatClampNeg) e1) (cwV 1 hts gL_law_X5_undo rfl rfl rfl (by decide +kernel) ⟨Nat.le_of_ble_eq_true rfl, Nat.le_of_ble_eq_true rfl⟩) rfl hl.1 rfl (Nat.le_of_ble_eq_true rfl) dL_law_777 ⟨Nat.le_of_ble_eq_true rfl, Nat.le_of_ble_eq_true rfl⟩ (fun H locs hP hP2 hS => ?_)
  refine lv_aload_n hx hb dL_law_780 rfl (lv_at hl 3 rfl) ?_
  refine lv_aload_n hx hb dL_law_781 rfl (lv_at hl 1 rfl) ?_
  refine lv_iload_n hx hb dL_law_782 rfl (lv_at hl 0 rfl) ?_
  refine lv_iconst (v := (1 : Int32)) hx hb dL_law_783 (by decide) ?_
  refine lv_iadd hx hb dL_law_784 ?_
  refine va_sld hx hb hX hbl hbA hS (lw_in hi (k := 1) (by omega) hL3) dL_law_785 ?_
  refine r_LMi X hL hP hP2 hS (c_X6_undo l (gM D a2 cA tO tC) v (xs (nI i + 1).toNatClampNeg) e2) (cwV 1 hts gL_law_X6_undo rfl rfl rfl (by decide +kernel) ⟨Nat.le_of_ble_eq_true rfl, Nat.le_of_ble_eq_true rfl⟩) rfl hl.1 rfl (Nat.le_of_ble_eq_true rfl) dL_law_786 ⟨Nat.le_of_ble_eq_true rfl, Nat.le_of_ble_eq_true rfl⟩ (fun H locs hP hP2 hS => ?_)
  exact lv_icmp_eq (tgt := 1342) hx hb dL_law_789 (by decide) (fun _ => kk _ _ _ _ hI' hP hP2 hS) (fun z => absurd rfl z)
set_option maxHeartbeats 4000000 in
set_option maxRecDepth 100000 in
theorem lc_keep {p : Program} {l : Launch} {e : Env} {s : State} {m : MethodId} {below : List Frame} {meth : Method} {c : Code} {H : Heap} {locs : List Loc} {Q : State → Prop} {ls : Array Slot} {u v : UU} {D : va_G} {a1 a2 : Nat → Nat} {cA : Nat → ClassId} {tO tC b L i : Nat} {xs : Nat → Int32} (hA : LA p s m c b L xs D a1 a2 cA tO tC) (hi : i + 6 ≤ L) (hI : Inv u v) (hP : Ps (gC D a1 cA tO tC) 0 55 u H) (hP2 : Ps (gM D a2 cA tO tC) 55 20 v H) (hS : va_S (fun q => s.heap.size ≤ q) s.heap H locs) (hl : lv_has ls 4 [(3, .int (nI i)), (0, .ref b), (1, .ref (a1 0)), (2, .ref (a2 55))]) (kk : LK p l e s m b below meth c Q D a1 a2 cA tO tC ls) : W p l e room_1 s m #[Value.ref b] below meth c H locs 600000 7302249 Q (F0 m 794 ls []) := by
  obtain ⟨hx, hb, hml, hown, hts, hX, hbl, hL, hL3⟩ := hA
  have hbA : ¬ (fun q : Nat => s.heap.size ≤ q) b := Nat.not_le.mpr hbl
  have X : CallFix p m c cL_law 4 s #[Value.ref b] wsL_law RL := ⟨hx, hb, hml, hown, hts⟩
  obtain ⟨r, u', v', e1, e2, hI'⟩ := op_keep hI (xs (nI i + 1).toNatClampNeg)
  refine lv_aload_n hx hb dL_law_794 rfl (lv_at hl 2 rfl) ?_
  refine lv_aload_n hx hb dL_law_795 rfl (lv_at hl 1 rfl) ?_
  refine lv_iload_n hx hb dL_law_796 rfl (lv_at hl 0 rfl) ?_
  refine lv_iconst (v := (1 : Int32)) hx hb dL_law_797 (by decide) ?_
  refine lv_iadd hx hb dL_law_798 ?_
  refine va_sld hx hb hX hbl hbA hS (lw_in hi (k := 1) (by omega) hL3) dL_law_799 ?_
  refine r_LCi X hL hP hP2 hS (c_X5_keep l (gC D a1 cA tO tC) u (xs (nI i + 1).toNatClampNeg) e1) (cwV 1 hts gL_law_X5_keep rfl rfl rfl (by decide +kernel) ⟨Nat.le_of_ble_eq_true rfl, Nat.le_of_ble_eq_true rfl⟩) rfl hl.1 rfl (Nat.le_of_ble_eq_true rfl) dL_law_800 ⟨Nat.le_of_ble_eq_true rfl, Nat.le_of_ble_eq_true rfl⟩ (fun H locs hP hP2 hS => ?_)
  refine lv_aload_n hx hb dL_law_803 rfl (lv_at hl 3 rfl) ?_
  refine lv_aload_n hx hb dL_law_804 rfl (lv_at hl 1 rfl) ?_
  refine lv_iload_n hx hb dL_law_805 rfl (lv_at hl 0 rfl) ?_
  refine lv_iconst (v := (1 : Int32)) hx hb dL_law_806 (by decide) ?_
  refine lv_iadd hx hb dL_law_807 ?_
  refine va_sld hx hb hX hbl hbA hS (lw_in hi (k := 1) (by omega) hL3) dL_law_808 ?_
  refine r_LMi X hL hP hP2 hS (c_X6_keep l (gM D a2 cA tO tC) v (xs (nI i + 1).toNatClampNeg) e2) (cwV 1 hts gL_law_X6_keep rfl rfl rfl (by decide +kernel) ⟨Nat.le_of_ble_eq_true rfl, Nat.le_of_ble_eq_true rfl⟩) rfl hl.1 rfl (Nat.le_of_ble_eq_true rfl) dL_law_809 ⟨Nat.le_of_ble_eq_true rfl, Nat.le_of_ble_eq_true rfl⟩ (fun H locs hP hP2 hS => ?_)
  exact lv_icmp_eq (tgt := 1342) hx hb dL_law_812 (by decide) (fun _ => kk _ _ _ _ hI' hP hP2 hS) (fun z => absurd rfl z)
set_option maxHeartbeats 4000000 in
set_option maxRecDepth 100000 in
theorem lc_on {p : Program} {l : Launch} {e : Env} {s : State} {m : MethodId} {below : List Frame} {meth : Method} {c : Code} {H : Heap} {locs : List Loc} {Q : State → Prop} {ls : Array Slot} {u v : UU} {D : va_G} {a1 a2 : Nat → Nat} {cA : Nat → ClassId} {tO tC b L i : Nat} {xs : Nat → Int32} (hA : LA p s m c b L xs D a1 a2 cA tO tC) (hi : i + 6 ≤ L) (hI : Inv u v) (hP : Ps (gC D a1 cA tO tC) 0 55 u H) (hP2 : Ps (gM D a2 cA tO tC) 55 20 v H) (hS : va_S (fun q => s.heap.size ≤ q) s.heap H locs) (hl : lv_has ls 4 [(3, .int (nI i)), (0, .ref b), (1, .ref (a1 0)), (2, .ref (a2 55))]) (kk : LK p l e s m b below meth c Q D a1 a2 cA tO tC ls) : W p l e room_1 s m #[Value.ref b] below meth c H locs 600000 7302249 Q (F0 m 817 ls []) := by
  obtain ⟨hx, hb, hml, hown, hts, hX, hbl, hL, hL3⟩ := hA
  have hbA : ¬ (fun q : Nat => s.heap.size ≤ q) b := Nat.not_le.mpr hbl
  have X : CallFix p m c cL_law 4 s #[Value.ref b] wsL_law RL := ⟨hx, hb, hml, hown, hts⟩
  obtain ⟨r, u', v', e1, e2, hI'⟩ := op_on hI (xs (nI i + 1).toNatClampNeg)
  refine lv_aload_n hx hb dL_law_817 rfl (lv_at hl 2 rfl) ?_
  refine lv_aload_n hx hb dL_law_818 rfl (lv_at hl 1 rfl) ?_
  refine lv_iload_n hx hb dL_law_819 rfl (lv_at hl 0 rfl) ?_
  refine lv_iconst (v := (1 : Int32)) hx hb dL_law_820 (by decide) ?_
  refine lv_iadd hx hb dL_law_821 ?_
  refine va_sld hx hb hX hbl hbA hS (lw_in hi (k := 1) (by omega) hL3) dL_law_822 ?_
  refine r_LCi X hL hP hP2 hS (c_X5_on l (gC D a1 cA tO tC) u (xs (nI i + 1).toNatClampNeg) e1) (cwV 1 hts gL_law_X5_on rfl rfl rfl (by decide +kernel) ⟨Nat.le_of_ble_eq_true rfl, Nat.le_of_ble_eq_true rfl⟩) rfl hl.1 rfl (Nat.le_of_ble_eq_true rfl) dL_law_823 ⟨Nat.le_of_ble_eq_true rfl, Nat.le_of_ble_eq_true rfl⟩ (fun H locs hP hP2 hS => ?_)
  refine lv_aload_n hx hb dL_law_826 rfl (lv_at hl 3 rfl) ?_
  refine lv_aload_n hx hb dL_law_827 rfl (lv_at hl 1 rfl) ?_
  refine lv_iload_n hx hb dL_law_828 rfl (lv_at hl 0 rfl) ?_
  refine lv_iconst (v := (1 : Int32)) hx hb dL_law_829 (by decide) ?_
  refine lv_iadd hx hb dL_law_830 ?_
  refine va_sld hx hb hX hbl hbA hS (lw_in hi (k := 1) (by omega) hL3) dL_law_831 ?_
  refine r_LMi X hL hP hP2 hS (c_X6_on l (gM D a2 cA tO tC) v (xs (nI i + 1).toNatClampNeg) e2) (cwV 1 hts gL_law_X6_on rfl rfl rfl (by decide +kernel) ⟨Nat.le_of_ble_eq_true rfl, Nat.le_of_ble_eq_true rfl⟩) rfl hl.1 rfl (Nat.le_of_ble_eq_true rfl) dL_law_832 ⟨Nat.le_of_ble_eq_true rfl, Nat.le_of_ble_eq_true rfl⟩ (fun H locs hP hP2 hS => ?_)
  exact lv_icmp_eq (tgt := 1342) hx hb dL_law_835 (by decide) (fun _ => kk _ _ _ _ hI' hP hP2 hS) (fun z => absurd rfl z)
set_option maxHeartbeats 4000000 in
set_option maxRecDepth 100000 in
theorem lc_lacks {p : Program} {l : Launch} {e : Env} {s : State} {m : MethodId} {below : List Frame} {meth : Method} {c : Code} {H : Heap} {locs : List Loc} {Q : State → Prop} {ls : Array Slot} {u v : UU} {D : va_G} {a1 a2 : Nat → Nat} {cA : Nat → ClassId} {tO tC b L i : Nat} {xs : Nat → Int32} (hA : LA p s m c b L xs D a1 a2 cA tO tC) (hi : i + 6 ≤ L) (hI : Inv u v) (hP : Ps (gC D a1 cA tO tC) 0 55 u H) (hP2 : Ps (gM D a2 cA tO tC) 55 20 v H) (hS : va_S (fun q => s.heap.size ≤ q) s.heap H locs) (hl : lv_has ls 4 [(3, .int (nI i)), (0, .ref b), (1, .ref (a1 0)), (2, .ref (a2 55))]) (kk : LK p l e s m b below meth c Q D a1 a2 cA tO tC ls) : W p l e room_1 s m #[Value.ref b] below meth c H locs 600000 7302249 Q (F0 m 840 ls []) := by
  obtain ⟨hx, hb, hml, hown, hts, hX, hbl, hL, hL3⟩ := hA
  have hbA : ¬ (fun q : Nat => s.heap.size ≤ q) b := Nat.not_le.mpr hbl
  have X : CallFix p m c cL_law 4 s #[Value.ref b] wsL_law RL := ⟨hx, hb, hml, hown, hts⟩
  obtain ⟨r, u', v', e1, e2, hI'⟩ := op_lacks hI (xs (nI i + 1).toNatClampNeg)
  refine lv_aload_n hx hb dL_law_840 rfl (lv_at hl 2 rfl) ?_
  refine lv_aload_n hx hb dL_law_841 rfl (lv_at hl 1 rfl) ?_
  refine lv_iload_n hx hb dL_law_842 rfl (lv_at hl 0 rfl) ?_
  refine lv_iconst (v := (1 : Int32)) hx hb dL_law_843 (by decide) ?_
  refine lv_iadd hx hb dL_law_844 ?_
  refine va_sld hx hb hX hbl hbA hS (lw_in hi (k := 1) (by omega) hL3) dL_law_845 ?_
  refine r_LCi X hL hP hP2 hS (c_X5_lacks l (gC D a1 cA tO tC) u (xs (nI i + 1).toNatClampNeg) e1) (cwV 1 hts gL_law_X5_lacks rfl rfl rfl (by decide +kernel) ⟨Nat.le_of_ble_eq_true rfl, Nat.le_of_ble_eq_true rfl⟩) rfl hl.1 rfl (Nat.le_of_ble_eq_true rfl) dL_law_846 ⟨Nat.le_of_ble_eq_true rfl, Nat.le_of_ble_eq_true rfl⟩ (fun H locs hP hP2 hS => ?_)
  refine lv_aload_n hx hb dL_law_849 rfl (lv_at hl 3 rfl) ?_
  refine lv_aload_n hx hb dL_law_850 rfl (lv_at hl 1 rfl) ?_
  refine lv_iload_n hx hb dL_law_851 rfl (lv_at hl 0 rfl) ?_
  refine lv_iconst (v := (1 : Int32)) hx hb dL_law_852 (by decide) ?_
  refine lv_iadd hx hb dL_law_853 ?_
  refine va_sld hx hb hX hbl hbA hS (lw_in hi (k := 1) (by omega) hL3) dL_law_854 ?_
  refine r_LMi X hL hP hP2 hS (c_X6_lacks l (gM D a2 cA tO tC) v (xs (nI i + 1).toNatClampNeg) e2) (cwV 1 hts gL_law_X6_lacks rfl rfl rfl (by decide +kernel) ⟨Nat.le_of_ble_eq_true rfl, Nat.le_of_ble_eq_true rfl⟩) rfl hl.1 rfl (Nat.le_of_ble_eq_true rfl) dL_law_855 ⟨Nat.le_of_ble_eq_true rfl, Nat.le_of_ble_eq_true rfl⟩ (fun H locs hP hP2 hS => ?_)
  exact lv_icmp_eq (tgt := 1342) hx hb dL_law_858 (by decide) (fun _ => kk _ _ _ _ hI' hP hP2 hS) (fun z => absurd rfl z)
set_option maxHeartbeats 4000000 in
set_option maxRecDepth 100000 in
theorem lc_ways {p : Program} {l : Launch} {e : Env} {s : State} {m : MethodId} {below : List Frame} {meth : Method} {c : Code} {H : Heap} {locs : List Loc} {Q : State → Prop} {ls : Array Slot} {u v : UU} {D : va_G} {a1 a2 : Nat → Nat} {cA : Nat → ClassId} {tO tC b L i : Nat} {xs : Nat → Int32} (hA : LA p s m c b L xs D a1 a2 cA tO tC) (hi : i + 6 ≤ L) (hI : Inv u v) (hP : Ps (gC D a1 cA tO tC) 0 55 u H) (hP2 : Ps (gM D a2 cA tO tC) 55 20 v H) (hS : va_S (fun q => s.heap.size ≤ q) s.heap H locs) (hl : lv_has ls 4 [(3, .int (nI i)), (0, .ref b), (1, .ref (a1 0)), (2, .ref (a2 55))]) (kk : LK p l e s m b below meth c Q D a1 a2 cA tO tC ls) : W p l e room_1 s m #[Value.ref b] below meth c H locs 600000 7302249 Q (F0 m 863 ls []) := by
  obtain ⟨hx, hb, hml, hown, hts, hX, hbl, hL, hL3⟩ := hA
  have hbA : ¬ (fun q : Nat => s.heap.size ≤ q) b := Nat.not_le.mpr hbl
  have X : CallFix p m c cL_law 4 s #[Value.ref b] wsL_law RL := ⟨hx, hb, hml, hown, hts⟩
  obtain ⟨r, u', v', e1, e2, hI'⟩ := op_ways hI (xs (nI i + 1).toNatClampNeg)
  refine lv_aload_n hx hb dL_law_863 rfl (lv_at hl 2 rfl) ?_
  refine lv_aload_n hx hb dL_law_864 rfl (lv_at hl 1 rfl) ?_
  refine lv_iload_n hx hb dL_law_865 rfl (lv_at hl 0 rfl) ?_
  refine lv_iconst (v := (1 : Int32)) hx hb dL_law_866 (by decide) ?_
  refine lv_iadd hx hb dL_law_867 ?_
  refine va_sld hx hb hX hbl hbA hS (lw_in hi (k := 1) (by omega) hL3) dL_law_868 ?_
  refine r_LCi X hL hP hP2 hS (c_X5_ways l (gC D a1 cA tO tC) u (xs (nI i + 1).toNatClampNeg) e1) (cwV 1 hts gL_law_X5_ways rfl rfl rfl (by decide +kernel) ⟨Nat.le_of_ble_eq_true rfl, Nat.le_of_ble_eq_true rfl⟩) rfl hl.1 rfl (Nat.le_of_ble_eq_true rfl) dL_law_869 ⟨Nat.le_of_ble_eq_true rfl, Nat.le_of_ble_eq_true rfl⟩ (fun H locs hP hP2 hS => ?_)
  refine lv_aload_n hx hb dL_law_872 rfl (lv_at hl 3 rfl) ?_
  refine lv_aload_n hx hb dL_law_873 rfl (lv_at hl 1 rfl) ?_
  refine lv_iload_n hx hb dL_law_874 rfl (lv_at hl 0 rfl) ?_
  refine lv_iconst (v := (1 : Int32)) hx hb dL_law_875 (by decide) ?_
  refine lv_iadd hx hb dL_law_876 ?_
  refine va_sld hx hb hX hbl hbA hS (lw_in hi (k := 1) (by omega) hL3) dL_law_877 ?_
  refine r_LMi X hL hP hP2 hS (c_X6_ways l (gM D a2 cA tO tC) v (xs (nI i + 1).toNatClampNeg) e2) (cwV 1 hts gL_law_X6_ways rfl rfl rfl (by decide +kernel) ⟨Nat.le_of_ble_eq_true rfl, Nat.le_of_ble_eq_true rfl⟩) rfl hl.1 rfl (Nat.le_of_ble_eq_true rfl) dL_law_878 ⟨Nat.le_of_ble_eq_true rfl, Nat.le_of_ble_eq_true rfl⟩ (fun H locs hP hP2 hS => ?_)
  exact lv_icmp_eq (tgt := 1342) hx hb dL_law_881 (by decide) (fun _ => kk _ _ _ _ hI' hP hP2 hS) (fun z => absurd rfl z)
