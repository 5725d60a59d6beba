set_option maxHeartbeats 4000000 in
set_option maxRecDepth 100000 in
theorem k_X1 (l : Launch) (D : va_G) (c6 c7 c8 : ClassId) (h0 sz : Nat) : Met l yX1_init wsX1_init ({ frames := 1, cells := 0, slots := 0, locals := 12 }) (va_Pc [.ref h0] (fun U => U.heap.size = sz ∧ va_P D vwCl [(h0, .inr (0, [.int 0, .int 0, .int 0, .int 0, .int 0]))] U.heap ∧ va_K D vwCl (tys3 c6 c7 c8) U ∧ va_D (fun _ => True) [(h0, .inr (0, [.int 0, .int 0, .int 0, .int 0, .int 0]))])) (va_Qv (fun u : Unit => True) (fun (u : Unit) (t : State) => match u with | _ => va_P D vwCl [(h0, .inr (0, [.int 0, .int 0, .int 0, .int 0, .int 0]))] t.heap ∧ va_D (va_A [(h0, .inr (0, [.int 0, .int 0, .int 0, .int 0, .int 0]))] sz) [(h0, .inr (0, [.int 0, .int 0, .int 0, .int 0, .int 0]))]) (va_A [(h0, .inr (0, [.int 0, .int 0, .int 0, .int 0, .int 0]))] sz)) 0 0 (va_A [(h0, .inr (0, [.int 0, .int 0, .int 0, .int 0, .int 0]))] sz) := by
  refine Met.ofW (cc := cX1_init) (maxL := 1) (ret := none) (by decide) rfl ?_
  intro p e s m args below meth c s₁ B hml hv
  obtain ⟨rfl, hsz, hP, hK, hD0⟩ := hv
  have hx := B.exec
  have hb := B.bytes
  have hr := B.returns
  have hts := atoms_spec (ws := wsX1_init) B.pre
  have hown : s.vm.findClass RX1 = some m.cls := findClass_of_methodNamed B.named
  have hlocks := B.notSynchronized
  have hin : meth.name = "<init>" := (name_of_methodNamed B.named B.method).1
  subst hsz
  have hD := hD0.self (sz := s.heap.size)
  generalize hAe : va_A [(h0, .inr (0, [.int 0, .int 0, .int 0, .int 0, .int 0]))] s.heap.size = A at hD ⊢
  have hA : ∀ q : Nat, s.heap.size ≤ q → A q := fun q h => by rw [← hAe]; exact Or.inr h
  have hS : va_S A s.heap s.heap [] := va_S.rf
  have hP : va_P D vwCl [(h0, .inr (0, [.int 0, .int 0, .int 0, .int 0, .int 0]))] s.heap := hP
  have hl := lv_entry ([.ref h0]) (n := 1) (Nat.le_of_ble_eq_true rfl)
  rw [lg_entry_eq]
  generalize (lg_sl ([.ref h0]) ++ List.replicate (1 - (lg_sl ([.ref h0])).length) Slot.unset).toArray = ls at hl ⊢
  have hl : lv_has ls 1 [(0, .ref h0)] := hl
  refine lv_aload_n hx hb dX1_init_0 rfl (lv_at hl 0 rfl) ?_
  refine W.objInit hx hb hown (hts (.methodLink RX1 1 objectInit) (by decide +kernel)) (hts (.instanceMethod objectInit) (by decide +kernel)) (hts (.code objectInit ⟨#[0xb1]⟩ 1 none) (by decide +kernel)) rfl (by rw [hml]; exact hl.1) rfl dX1_init_1 (Nat.le_of_ble_eq_true rfl) (Nat.le_of_ble_eq_true rfl) ?_
  refine W.eq (g2 := F0 m 4 ls []) rfl ?_
  exact W.vret hx hb hr (fun t ht hW => ⟨⟨(), rfl, trivial, by rw [ht]; exact hP, hD⟩, hS.F ht⟩) hS.2.2 dX1_init_4
set_option maxHeartbeats 4000000 in
set_option maxRecDepth 100000 in
theorem k_X2 (l : Launch) (D : va_G) (c6 c7 c8 : ClassId) (h0 sz : Nat) : Met l yX2_init wsX2_init ({ frames := 1, cells := 3, slots := 21, locals := 12 }) (va_Pc [.ref h0] (fun U => U.heap.size = sz ∧ va_P D vwCl [(h0, .inr (1, [.null, .null, .null, .int 0, .int 0]))] U.heap ∧ va_K D vwCl (tys3 c6 c7 c8) U ∧ va_D (fun _ => True) [(h0, .inr (1, [.null, .null, .null, .int 0, .int 0]))])) (va_Qv (fun u : Nat × Nat × Nat => True) (fun (u : Nat × Nat × Nat) (t : State) => match u with | (r0, r1, r2) => va_P D vwCl [(h0, .inr (1, [.ref r0, .ref r1, .ref r2, .int 0, .int 0])), (r0, .inl (c6, 7, .inl (fun _ => 0))), (r1, .inl (c6, 7, .inl (fun _ => 0))), (r2, .inl (c6, 7, .inl (fun _ => 0)))] t.heap ∧ va_D (va_A [(h0, .inr (1, [.null, .null, .null, .int 0, .int 0]))] sz) [(h0, .inr (1, [.ref r0, .ref r1, .ref r2, .int 0, .int 0])), (r0, .inl (c6, 7, .inl (fun _ => 0))), (r1, .inl (c6, 7, .inl (fun _ => 0))), (r2, .inl (c6, 7, .inl (fun _ => 0)))]) (va_A [(h0, .inr (1, [.null, .null, .null, .int 0, .int 0]))] sz)) 3 21 (va_A [(h0, .inr (1, [.null, .null, .null, .int 0, .int 0]))] sz) := by
  refine Met.ofW (cc := cX2_init) (maxL := 1) (ret := none) (by decide) rfl ?_
  intro p e s m args below meth c s₁ B hml hv
  obtain ⟨rfl, hsz, hP, hK, hD0⟩ := hv
  have hx := B.exec
  have hb := B.bytes
  have hr := B.returns
  have hts := atoms_spec (ws := wsX2_init) B.pre
  have hown : s.vm.findClass RX2 = some m.cls := findClass_of_methodNamed B.named
  have hlocks := B.notSynchronized
  have hin : meth.name = "<init>" := (name_of_methodNamed B.named B.method).1
  subst hsz
  have hD := hD0.self (sz := s.heap.size)
  generalize hAe : va_A [(h0, .inr (1, [.null, .null, .null, .int 0, .int 0]))] s.heap.size = A at hD ⊢
  have hA : ∀ q : Nat, s.heap.size ≤ q → A q := fun q h => by rw [← hAe]; exact Or.inr h
  have hS : va_S A s.heap s.heap [] := va_S.rf
  have hP : va_P D vwCl [(h0, .inr (1, [.null, .null, .null, .int 0, .int 0]))] s.heap := hP
  have hinX2 : ∀ w ∈ u_ws RX2 TX2 5, w ∈ wsX2_init := by decide +kernel
  have hl := lv_entry ([.ref h0]) (n := 1) (Nat.le_of_ble_eq_true rfl)
  rw [lg_entry_eq]
  generalize (lg_sl ([.ref h0]) ++ List.replicate (1 - (lg_sl ([.ref h0])).length) Slot.unset).toArray = ls at hl ⊢
  have hl : lv_has ls 1 [(0, .ref h0)] := hl
  refine lv_aload_n hx hb dX2_init_0 rfl (lv_at hl 0 rfl) ?_
  refine W.objInit hx hb hown (hts (.methodLink RX2 3 objectInit) (by decide +kernel)) (hts (.instanceMethod objectInit) (by decide +kernel)) (hts (.code objectInit ⟨#[0xb1]⟩ 1 none) (by decide +kernel)) rfl (by rw [hml]; exact hl.1) rfl dX2_init_1 (Nat.le_of_ble_eq_true rfl) (Nat.le_of_ble_eq_true rfl) ?_
  refine W.eq (g2 := F0 m 4 ls []) rfl ?_
  refine lv_aload_n hx hb dX2_init_4 rfl (lv_at hl 0 rfl) ?_
  refine lv_bipush (v := (7 : Int32)) hx hb dX2_init_5 (by decide) ?_
  refine q_newi (n := (7 : Int32)) (N' := 7) hx hb (hts (.arrayClass .int) (by decide +kernel)) hK hP hD hS hA (by decide) (by decide) (Nat.le_of_ble_eq_true rfl) (Nat.le_of_ble_eq_true rfl) (Nat.le_of_ble_eq_true rfl) dX2_init_7 (fun q1 H hP hD hS => ?_)
  have hP : va_P D vwCl [(h0, .inr (1, [.null, .null, .null, .int 0, .int 0])), (q1, .inl (c6, 7, .inl (fun _ => 0)))] H := hP
  have hD : va_D A [(h0, .inr (1, [.null, .null, .null, .int 0, .int 0])), (q1, .inl (c6, 7, .inl (fun _ => 0)))] := hD
  refine W.widen (k := 1) (n := 7) (by omega) (by omega) ?_
  refine va_putF (D := D) (ci := 1) (v := .ref q1) (ty := .array .int) (C := RX2) (T := TX2) (N := 5) hx hb hts hinX2 tyX2 tyX2_ok nmX2 hown hK hP hD hS 0 rfl rfl 0 (by decide) (hts (.fieldLink RX2 9 "LoafParts$Reader" "kind" "[I") (by decide +kernel)) (fun _ h9 => h9) rfl hin rfl (by decide +kernel) rfl rfl (Nat.le_of_ble_eq_true rfl) dX2_init_9 (fun H locs hP hD hS => ?_)
  have hP : va_P D vwCl [(h0, .inr (1, [.ref q1, .null, .null, .int 0, .int 0])), (q1, .inl (c6, 7, .inl (fun _ => 0)))] H := hP
  have hD : va_D A [(h0, .inr (1, [.ref q1, .null, .null, .int 0, .int 0])), (q1, .inl (c6, 7, .inl (fun _ => 0)))] := hD
  refine lv_aload_n hx hb dX2_init_12 rfl (lv_at hl 0 rfl) ?_
  refine lv_bipush (v := (7 : Int32)) hx hb dX2_init_13 (by decide) ?_
  refine q_newi (n := (7 : Int32)) (N' := 7) hx hb (hts (.arrayClass .int) (by decide +kernel)) hK hP hD hS hA (by decide) (by decide) (Nat.le_of_ble_eq_true rfl) (Nat.le_of_ble_eq_true rfl) (Nat.le_of_ble_eq_true rfl) dX2_init_15 (fun q2 H hP hD hS => ?_)
  have hP : va_P D vwCl [(h0, .inr (1, [.ref q1, .null, .null, .int 0, .int 0])), (q1, .inl (c6, 7, .inl (fun _ => 0))), (q2, .inl (c6, 7, .inl (fun _ => 0)))] H := hP
  have hD : va_D A [(h0, .inr (1, [.ref q1, .null, .null, .int 0, .int 0])), (q1, .inl (c6, 7, .inl (fun _ => 0))), (q2, .inl (c6, 7, .inl (fun _ => 0)))] := hD
  refine W.widen (k := 2) (n := 14) (by omega) (by omega) ?_
  refine va_putF (D := D) (ci := 1) (v := .ref q2) (ty := .array .int) (C := RX2) (T := TX2) (N := 5) hx hb hts hinX2 tyX2 tyX2_ok nmX2 hown hK hP hD hS 0 rfl rfl 1 (by decide) (hts (.fieldLink RX2 15 "LoafParts$Reader" "over" "[I") (by decide +kernel)) (fun _ h9 => h9) rfl hin rfl (by decide +kernel) rfl rfl (Nat.le_of_ble_eq_true rfl) dX2_init_17 (fun H locs hP hD hS => ?_)
  have hP : va_P D vwCl [(h0, .inr (1, [.ref q1, .ref q2, .null, .int 0, .int 0])), (q1, .inl (c6, 7, .inl (fun _ => 0))), (q2, .inl (c6, 7, .inl (fun _ => 0)))] H := hP
  have hD : va_D A [(h0, .inr (1, [.ref q1, .ref q2, .null, .int 0, .int 0])), (q1, .inl (c6, 7, .inl (fun _ => 0))), (q2, .inl (c6, 7, .inl (fun _ => 0)))] := hD
  refine lv_aload_n hx hb dX2_init_20 rfl (lv_at hl 0 rfl) ?_
  refine lv_bipush (v := (7 : Int32)) hx hb dX2_init_21 (by decide) ?_
  refine q_newi (n := (7 : Int32)) (N' := 7) hx hb (hts (.arrayClass .int) (by decide +kernel)) hK hP hD hS hA (by decide) (by decide) (Nat.le_of_ble_eq_true rfl) (Nat.le_of_ble_eq_true rfl) (Nat.le_of_ble_eq_true rfl) dX2_init_23 (fun q3 H hP hD hS => ?_)
  have hP : va_P D vwCl [(h0, .inr (1, [.ref q1, .ref q2, .null, .int 0, .int 0])), (q1, .inl (c6, 7, .inl (fun _ => 0))), (q2, .inl (c6, 7, .inl (fun _ => 0))), (q3, .inl (c6, 7, .inl (fun _ => 0)))] H := hP
  have hD : va_D A [(h0, .inr (1, [.ref q1, .ref q2, .null, .int 0, .int 0])), (q1, .inl (c6, 7, .inl (fun _ => 0))), (q2, .inl (c6, 7, .inl (fun _ => 0))), (q3, .inl (c6, 7, .inl (fun _ => 0)))] := hD
  refine W.widen (k := 3) (n := 21) (by omega) (by omega) ?_
  refine va_putF (D := D) (ci := 1) (v := .ref q3) (ty := .array .int) (C := RX2) (T := TX2) (N := 5) hx hb hts hinX2 tyX2 tyX2_ok nmX2 hown hK hP hD hS 0 rfl rfl 2 (by decide) (hts (.fieldLink RX2 18 "LoafParts$Reader" "under" "[I") (by decide +kernel)) (fun _ h9 => h9) rfl hin rfl (by decide +kernel) rfl rfl (Nat.le_of_ble_eq_true rfl) dX2_init_25 (fun H locs hP hD hS => ?_)
  have hP : va_P D vwCl [(h0, .inr (1, [.ref q1, .ref q2, .ref q3, .int 0, .int 0])), (q1, .inl (c6, 7, .inl (fun _ => 0))), (q2, .inl (c6, 7, .inl (fun _ => 0))), (q3, .inl (c6, 7, .inl (fun _ => 0)))] H := hP
  have hD : va_D A [(h0, .inr (1, [.ref q1, .ref q2, .ref q3, .int 0, .int 0])), (q1, .inl (c6, 7, .inl (fun _ => 0))), (q2, .inl (c6, 7, .inl (fun _ => 0))), (q3, .inl (c6, 7, .inl (fun _ => 0)))] := hD
  exact W.vret hx hb hr (fun t ht hW => ⟨⟨(q1, q2, q3), rfl, trivial, by rw [ht]; exact hP, hD⟩, hS.F ht⟩) hS.2.2 dX2_init_28
set_option maxHeartbeats 4000000 in
set_option maxRecDepth 100000 in
theorem k_X3a (l : Launch) (D : va_G) (c6 c7 c8 : ClassId) (h0 sz : Nat) : Met l yX3_init wsX3_init ({ frames := 1, cells := 2, slots := 246, locals := 24 }) (va_Pc [.ref h0, .int 6, .int 40] (fun U => U.heap.size = sz ∧ va_P D vwCl [(h0, .inr (2, [.int 0, .null, .null]))] U.heap ∧ va_K D vwCl (tys3 c6 c7 c8) U ∧ va_D (fun _ => True) [(h0, .inr (2, [.int 0, .null, .null]))])) (va_Qv (fun u : Nat × Nat × (Nat → Int32) => ∀ j, j < 6 → u.2.2 j = -1) (fun (u : Nat × Nat × (Nat → Int32)) (t : State) => match u with | (r0, r1, ff) => va_P D vwCl [(h0, .inr (2, [.int 40, .ref r0, .ref r1])), (r0, .inl (c6, 6, .inl ff)), (r1, .inl (c6, 240, .inl (fun _ => 0)))] t.heap ∧ va_D (va_A [(h0, .inr (2, [.int 0, .null, .null]))] sz) [(h0, .inr (2, [.int 40, .ref r0, .ref r1])), (r0, .inl (c6, 6, .inl ff)), (r1, .inl (c6, 240, .inl (fun _ => 0)))]) (va_A [(h0, .inr (2, [.int 0, .null, .null]))] sz)) 2 246 (va_A [(h0, .inr (2, [.int 0, .null, .null]))] sz) := by
  refine Met.ofW (cc := cX3_init) (maxL := 4) (ret := none) (by decide) rfl ?_
  intro p e s m args below meth c s₁ B hml hv
  obtain ⟨rfl, hsz, hP, hK, hD0⟩ := hv
  have hx := B.exec
  have hb := B.bytes
  have hr := B.returns
  have hts := atoms_spec (ws := wsX3_init) B.pre
  have hown : s.vm.findClass RX3 = some m.cls := findClass_of_methodNamed B.named
  have hlocks := B.notSynchronized
  have hin : meth.name = "<init>" := (name_of_methodNamed B.named B.method).1
  subst hsz
  have hD := hD0.self (sz := s.heap.size)
  generalize hAe : va_A [(h0, .inr (2, [.int 0, .null, .null]))] s.heap.size = A at hD ⊢
  have hA : ∀ q : Nat, s.heap.size ≤ q → A q := fun q h => by rw [← hAe]; exact Or.inr h
  have hS : va_S A s.heap s.heap [] := va_S.rf
  have hP : va_P D vwCl [(h0, .inr (2, [.int 0, .null, .null]))] s.heap := hP
  have hinX3 : ∀ w ∈ u_ws RX3 TX3 3, w ∈ wsX3_init := by decide +kernel
  have hl := lv_entry ([.ref h0, .int 6, .int 40]) (n := 4) (Nat.le_of_ble_eq_true rfl)
  rw [lg_entry_eq]
  generalize (lg_sl ([.ref h0, .int 6, .int 40]) ++ List.replicate (4 - (lg_sl ([.ref h0, .int 6, .int 40])).length) Slot.unset).toArray = ls at hl ⊢
  have hl : lv_has ls 4 [(0, .ref h0), (1, .int 6), (2, .int 40)] := hl
  refine lv_aload_n hx hb dX3_init_0 rfl (lv_at hl 0 rfl) ?_
  refine W.objInit hx hb hown (hts (.methodLink RX3 1 objectInit) (by decide +kernel)) (hts (.instanceMethod objectInit) (by decide +kernel)) (hts (.code objectInit ⟨#[0xb1]⟩ 1 none) (by decide +kernel)) rfl (by rw [hml]; exact hl.1) rfl dX3_init_1 (Nat.le_of_ble_eq_true rfl) (Nat.le_of_ble_eq_true rfl) ?_
  refine W.eq (g2 := F0 m 4 ls []) rfl ?_
  refine lv_aload_n hx hb dX3_init_4 rfl (lv_at hl 0 rfl) ?_
  refine lv_iload_n hx hb dX3_init_5 rfl (lv_at hl 2 rfl) ?_
  refine lv_iconst (v := (0 : Int32)) hx hb dX3_init_6 (by decide) ?_
  refine va_mmax (x := (40 : Int32)) (y := (0 : Int32)) hx hb (hml.trans hl.1.symm) hown (hts (.methodLink RX3 7 Lib.Math.max.name) (by decide +kernel)) (hts (.static Lib.Math.max.name) (by decide +kernel)) (hts (.initialized "java/lang/Math") (by decide +kernel)) (hts (.code Lib.Math.max.name Lib.Math.max.code 2 (some .int)) (by decide +kernel)) (Nat.le_of_ble_eq_true rfl) (Nat.le_of_ble_eq_true rfl) (Nat.le_of_ble_eq_true rfl) (Nat.le_of_ble_eq_true rfl) dX3_init_7 ?_
  rw [if_neg (show ¬ ((40 : Int32) < 0) by decide)]
  refine va_putF (D := D) (ci := 2) (v := .int 40) (ty := .int) (C := RX3) (T := TX3) (N := 3) hx hb hts hinX3 tyX3 tyX3_ok nmX3 hown hK hP hD hS 0 rfl rfl 0 (by decide) (hts (.fieldLink RX3 13 "LoafParts$Shelf" "places" "I") (by decide +kernel)) (fun _ h9 => h9) rfl hin rfl (by decide +kernel) rfl rfl (Nat.le_of_ble_eq_true rfl) dX3_init_10 (fun H locs hP hD hS => ?_)
  have hP : va_P D vwCl [(h0, .inr (2, [.int 40, .null, .null]))] H := hP
  have hD : va_D A [(h0, .inr (2, [.int 40, .null, .null]))] := hD
  refine lv_aload_n hx hb dX3_init_13 rfl (lv_at hl 0 rfl) ?_
  refine lv_iload_n hx hb dX3_init_14 rfl (lv_at hl 1 rfl) ?_
  refine lv_iconst (v := (0 : Int32)) hx hb dX3_init_15 (by decide) ?_
  refine va_mmax (x := (6 : Int32)) (y := (0 : Int32)) hx hb (hml.trans hl.1.symm) hown (hts (.methodLink RX3 7 Lib.Math.max.name) (by decide +kernel)) (hts (.static Lib.Math.max.name) (by decide +kernel)) (hts (.initialized "java/lang/Math") (by decide +kernel)) (hts (.code Lib.Math.max.name Lib.Math.max.code 2 (some .int)) (by decide +kernel)) (Nat.le_of_ble_eq_true rfl) (Nat.le_of_ble_eq_true rfl) (Nat.le_of_ble_eq_true rfl) (Nat.le_of_ble_eq_true rfl) dX3_init_16 ?_
  rw [if_neg (show ¬ ((6 : Int32) < 0) by decide)]
  refine q_newi (n := (6 : Int32)) (N' := 6) hx hb (hts (.arrayClass .int) (by decide +kernel)) hK hP hD hS hA (by decide) (by decide) (Nat.le_of_ble_eq_true rfl) (Nat.le_of_ble_eq_true rfl) (Nat.le_of_ble_eq_true rfl) dX3_init_19 (fun q1 H hP hD hS => ?_)
  have hP : va_P D vwCl [(h0, .inr (2, [.int 40, .null, .null])), (q1, .inl (c6, 6, .inl (fun _ => 0)))] H := hP
  have hD : va_D A [(h0, .inr (2, [.int 40, .null, .null])), (q1, .inl (c6, 6, .inl (fun _ => 0)))] := hD
  refine W.widen (k := 1) (n := 6) (by omega) (by omega) ?_
  refine va_putF (D := D) (ci := 2) (v := .ref q1) (ty := .array .int) (C := RX3) (T := TX3) (N := 3) hx hb hts hinX3 tyX3 tyX3_ok nmX3 hown hK hP hD hS 0 rfl rfl 1 (by decide) (hts (.fieldLink RX3 19 "LoafParts$Shelf" "sizes" "[I") (by decide +kernel)) (fun _ h9 => h9) rfl hin rfl (by decide +kernel) rfl rfl (Nat.le_of_ble_eq_true rfl) dX3_init_21 (fun H locs hP hD hS => ?_)
  have hP : va_P D vwCl [(h0, .inr (2, [.int 40, .ref q1, .null])), (q1, .inl (c6, 6, .inl (fun _ => 0)))] H := hP
  have hD : va_D A [(h0, .inr (2, [.int 40, .ref q1, .null])), (q1, .inl (c6, 6, .inl (fun _ => 0)))] := hD
  refine lv_aload_n hx hb dX3_init_24 rfl (lv_at hl 0 rfl) ?_
  refine lv_aload_n hx hb dX3_init_25 rfl (lv_at hl 0 rfl) ?_
  refine va_get (D := D) (ci := 2) (v := .ref q1) (C := RX3) (T := TX3) (N := 3) hx hb hts hinX3 hown hK hP 0 rfl rfl 1 (by decide) (hts (.fieldLink RX3 19 "LoafParts$Shelf" "sizes" "[I") (by decide +kernel)) (fun _ h9 => h9) rfl dX3_init_26 ?_
  refine va_alen (v := (6 : Int32)) hx hb hK hP 1 0 rfl rfl rfl dX3_init_29 ?_
  refine lv_aload_n hx hb dX3_init_30 rfl (lv_at hl 0 rfl) ?_
  refine va_get (D := D) (ci := 2) (v := .int 40) (C := RX3) (T := TX3) (N := 3) hx hb hts hinX3 hown hK hP 0 rfl rfl 0 (by decide) (hts (.fieldLink RX3 13 "LoafParts$Shelf" "places" "I") (by decide +kernel)) (fun _ h9 => h9) rfl dX3_init_31 ?_
  refine lv_imul hx hb dX3_init_34 ?_
  refine q_newi (n := ((6 * 40) : Int32)) (N' := 240) hx hb (hts (.arrayClass .int) (by decide +kernel)) hK hP hD hS hA (by decide) (by decide) (Nat.le_of_ble_eq_true rfl) (Nat.le_of_ble_eq_true rfl) (Nat.le_of_ble_eq_true rfl) dX3_init_35 (fun q2 H hP hD hS => ?_)
  have hP : va_P D vwCl [(h0, .inr (2, [.int 40, .ref q1, .null])), (q1, .inl (c6, 6, .inl (fun _ => 0))), (q2, .inl (c6, 240, .inl (fun _ => 0)))] H := hP
  have hD : va_D A [(h0, .inr (2, [.int 40, .ref q1, .null])), (q1, .inl (c6, 6, .inl (fun _ => 0))), (q2, .inl (c6, 240, .inl (fun _ => 0)))] := hD
  refine W.widen (k := 2) (n := 246) (by omega) (by omega) ?_
  refine va_putF (D := D) (ci := 2) (v := .ref q2) (ty := .array .int) (C := RX3) (T := TX3) (N := 3) hx hb hts hinX3 tyX3 tyX3_ok nmX3 hown hK hP hD hS 0 rfl rfl 2 (by decide) (hts (.fieldLink RX3 23 "LoafParts$Shelf" "cells" "[I") (by decide +kernel)) (fun _ h9 => h9) rfl hin rfl (by decide +kernel) rfl rfl (Nat.le_of_ble_eq_true rfl) dX3_init_37 (fun H locs hP hD hS => ?_)
  have hP : va_P D vwCl [(h0, .inr (2, [.int 40, .ref q1, .ref q2])), (q1, .inl (c6, 6, .inl (fun _ => 0))), (q2, .inl (c6, 240, .inl (fun _ => 0)))] H := hP
  have hD : va_D A [(h0, .inr (2, [.int 40, .ref q1, .ref q2])), (q1, .inl (c6, 6, .inl (fun _ => 0))), (q2, .inl (c6, 240, .inl (fun _ => 0)))] := hD
  refine lv_iconst (v := (0 : Int32)) hx hb dX3_init_40 (by decide) ?_
  refine lv_istore_n (lv' := [(3, .int 0), (0, .ref h0), (1, .int 6), (2, .int 40)]) hx hb dX3_init_41 rfl hl (by decide) rfl (fun ls hl => ?_)
  refine lv_iload_n hx hb dX3_init_42 rfl (lv_at hl 0 rfl) ?_
  refine lv_aload_n hx hb dX3_init_43 rfl (lv_at hl 1 rfl) ?_
  refine va_get (D := D) (ci := 2) (v := .ref q1) (C := RX3) (T := TX3) (N := 3) hx hb hts hinX3 hown hK hP 0 rfl rfl 1 (by decide) (hts (.fieldLink RX3 19 "LoafParts$Shelf" "sizes" "[I") (by decide +kernel)) (fun _ h9 => h9) rfl dX3_init_44 ?_
  refine va_alen (v := (6 : Int32)) hx hb hK hP 1 0 rfl rfl rfl dX3_init_47 ?_
  refine lv_icmp_ge (tgt := 64) hx hb dX3_init_48 (by decide) (fun z => absurd z (by decide)) (fun _ => ?_)
  refine lv_aload_n hx hb dX3_init_51 rfl (lv_at hl 1 rfl) ?_
  refine va_get (D := D) (ci := 2) (v := .ref q1) (C := RX3) (T := TX3) (N := 3) hx hb hts hinX3 hown hK hP 0 rfl rfl 1 (by decide) (hts (.fieldLink RX3 19 "LoafParts$Shelf" "sizes" "[I") (by decide +kernel)) (fun _ h9 => h9) rfl dX3_init_52 ?_
  refine lv_iload_n hx hb dX3_init_55 rfl (lv_at hl 0 rfl) ?_
  refine lv_iconst (v := (-1 : Int32)) hx hb dX3_init_56 (by decide) ?_
  refine va_iast (x := ((-1) : Int32)) (i := (0 : Int32)) hx hb hK hP hD hS 1 0 rfl rfl (by unfold vp_in; decide) dX3_init_57 (fun H locs hP hD hS => ?_)
  obtain ⟨f3, ef3⟩ : ∃ z : Nat → Int32, z = upd (fun _ => 0) 0 ((-1)) := ⟨_, rfl⟩
  have hP : va_P D vwCl [(h0, .inr (2, [.int 40, .ref q1, .ref q2])), (q1, .inl (c6, 6, .inl f3)), (q2, .inl (c6, 240, .inl (fun _ => 0)))] H := by rw [ef3]; exact hP
  have hD : va_D A [(h0, .inr (2, [.int 40, .ref q1, .ref q2])), (q1, .inl (c6, 6, .inl f3)), (q2, .inl (c6, 240, .inl (fun _ => 0)))] := by rw [ef3]; exact hD
  refine lv_iinc (v := (1 : Int32)) (lv' := [(3, .int 1), (0, .ref h0), (1, .int 6), (2, .int 40)]) hx hb dX3_init_58 hl (k := 0) rfl (by rfl) (by decide) rfl (fun ls hl => ?_)
  refine lv_goto (tgt := 42) hx hb dX3_init_61 (by decide) ?_
  refine lv_iload_n hx hb dX3_init_42 rfl (lv_at hl 0 rfl) ?_
  refine lv_aload_n hx hb dX3_init_43 rfl (lv_at hl 1 rfl) ?_
  refine va_get (D := D) (ci := 2) (v := .ref q1) (C := RX3) (T := TX3) (N := 3) hx hb hts hinX3 hown hK hP 0 rfl rfl 1 (by decide) (hts (.fieldLink RX3 19 "LoafParts$Shelf" "sizes" "[I") (by decide +kernel)) (fun _ h9 => h9) rfl dX3_init_44 ?_
  refine va_alen (v := (6 : Int32)) hx hb hK hP 1 0 rfl rfl rfl dX3_init_47 ?_
  refine lv_icmp_ge (tgt := 64) hx hb dX3_init_48 (by decide) (fun z => absurd z (by decide)) (fun _ => ?_)
  refine lv_aload_n hx hb dX3_init_51 rfl (lv_at hl 1 rfl) ?_
  refine va_get (D := D) (ci := 2) (v := .ref q1) (C := RX3) (T := TX3) (N := 3) hx hb hts hinX3 hown hK hP 0 rfl rfl 1 (by decide) (hts (.fieldLink RX3 19 "LoafParts$Shelf" "sizes" "[I") (by decide +kernel)) (fun _ h9 => h9) rfl dX3_init_52 ?_
  refine lv_iload_n hx hb dX3_init_55 rfl (lv_at hl 0 rfl) ?_
  refine lv_iconst (v := (-1 : Int32)) hx hb dX3_init_56 (by decide) ?_
  refine va_iast (x := ((-1) : Int32)) (i := (1 : Int32)) hx hb hK hP hD hS 1 0 rfl rfl (by unfold vp_in; decide) dX3_init_57 (fun H locs hP hD hS => ?_)
  obtain ⟨f4, ef4⟩ : ∃ z : Nat → Int32, z = upd f3 1 ((-1)) := ⟨_, rfl⟩
  have hP : va_P D vwCl [(h0, .inr (2, [.int 40, .ref q1, .ref q2])), (q1, .inl (c6, 6, .inl f4)), (q2, .inl (c6, 240, .inl (fun _ => 0)))] H := by rw [ef4]; exact hP
  have hD : va_D A [(h0, .inr (2, [.int 40, .ref q1, .ref q2])), (q1, .inl (c6, 6, .inl f4)), (q2, .inl (c6, 240, .inl (fun _ => 0)))] := by rw [ef4]; exact hD
  refine lv_iinc (v := (2 : Int32)) (lv' := [(3, .int 2), (0, .ref h0), (1, .int 6), (2, .int 40)]) hx hb dX3_init_58 hl (k := 0) rfl (by rfl) (by decide) rfl (fun ls hl => ?_)
  refine lv_goto (tgt := 42) hx hb dX3_init_61 (by decide) ?_
  refine lv_iload_n hx hb dX3_init_42 rfl (lv_at hl 0 rfl) ?_
  refine lv_aload_n hx hb dX3_init_43 rfl (lv_at hl 1 rfl) ?_
  refine va_get (D := D) (ci := 2) (v := .ref q1) (C := RX3) (T := TX3) (N := 3) hx hb hts hinX3 hown hK hP 0 rfl rfl 1 (by decide) (hts (.fieldLink RX3 19 "LoafParts$Shelf" "sizes" "[I") (by decide +kernel)) (fun _ h9 => h9) rfl dX3_init_44 ?_
  refine va_alen (v := (6 : Int32)) hx hb hK hP 1 0 rfl rfl rfl dX3_init_47 ?_
  refine lv_icmp_ge (tgt := 64) hx hb dX3_init_48 (by decide) (fun z => absurd z (by decide)) (fun _ => ?_)
  refine lv_aload_n hx hb dX3_init_51 rfl (lv_at hl 1 rfl) ?_
  refine va_get (D := D) (ci := 2) (v := .ref q1) (C := RX3) (T := TX3) (N := 3) hx hb hts hinX3 hown hK hP 0 rfl rfl 1 (by decide) (hts (.fieldLink RX3 19 "LoafParts$Shelf" "sizes" "[I") (by decide +kernel)) (fun _ h9 => h9) rfl dX3_init_52 ?_
  refine lv_iload_n hx hb dX3_init_55 rfl (lv_at hl 0 rfl) ?_
  refine lv_iconst (v := (-1 : Int32)) hx hb dX3_init_56 (by decide) ?_
  refine va_iast (x := ((-1) : Int32)) (i := (2 : Int32)) hx hb hK hP hD hS 1 0 rfl rfl (by unfold vp_in; decide) dX3_init_57 (fun H locs hP hD hS => ?_)
  obtain ⟨f5, ef5⟩ : ∃ z : Nat → Int32, z = upd f4 2 ((-1)) := ⟨_, rfl⟩
  have hP : va_P D vwCl [(h0, .inr (2, [.int 40, .ref q1, .ref q2])), (q1, .inl (c6, 6, .inl f5)), (q2, .inl (c6, 240, .inl (fun _ => 0)))] H := by rw [ef5]; exact hP
  have hD : va_D A [(h0, .inr (2, [.int 40, .ref q1, .ref q2])), (q1, .inl (c6, 6, .inl f5)), (q2, .inl (c6, 240, .inl (fun _ => 0)))] := by rw [ef5]; exact hD
  refine lv_iinc (v := (3 : Int32)) (lv' := [(3, .int 3), (0, .ref h0), (1, .int 6), (2, .int 40)]) hx hb dX3_init_58 hl (k := 0) rfl (by rfl) (by decide) rfl (fun ls hl => ?_)
  refine lv_goto (tgt := 42) hx hb dX3_init_61 (by decide) ?_
  refine lv_iload_n hx hb dX3_init_42 rfl (lv_at hl 0 rfl) ?_
  refine lv_aload_n hx hb dX3_init_43 rfl (lv_at hl 1 rfl) ?_
  refine va_get (D := D) (ci := 2) (v := .ref q1) (C := RX3) (T := TX3) (N := 3) hx hb hts hinX3 hown hK hP 0 rfl rfl 1 (by decide) (hts (.fieldLink RX3 19 "LoafParts$Shelf" "sizes" "[I") (by decide +kernel)) (fun _ h9 => h9) rfl dX3_init_44 ?_
  refine va_alen (v := (6 : Int32)) hx hb hK hP 1 0 rfl rfl rfl dX3_init_47 ?_
  refine lv_icmp_ge (tgt := 64) hx hb dX3_init_48 (by decide) (fun z => absurd z (by decide)) (fun _ => ?_)
  refine lv_aload_n hx hb dX3_init_51 rfl (lv_at hl 1 rfl) ?_
  refine va_get (D := D) (ci := 2) (v := .ref q1) (C := RX3) (T := TX3) (N := 3) hx hb hts hinX3 hown hK hP 0 rfl rfl 1 (by decide) (hts (.fieldLink RX3 19 "LoafParts$Shelf" "sizes" "[I") (by decide +kernel)) (fun _ h9 => h9) rfl dX3_init_52 ?_
  refine lv_iload_n hx hb dX3_init_55 rfl (lv_at hl 0 rfl) ?_
  refine lv_iconst (v := (-1 : Int32)) hx hb dX3_init_56 (by decide) ?_
  refine va_iast (x := ((-1) : Int32)) (i := (3 : Int32)) hx hb hK hP hD hS 1 0 rfl rfl (by unfold vp_in; decide) dX3_init_57 (fun H locs hP hD hS => ?_)
  obtain ⟨f6, ef6⟩ : ∃ z : Nat → Int32, z = upd f5 3 ((-1)) := ⟨_, rfl⟩
  have hP : va_P D vwCl [(h0, .inr (2, [.int 40, .ref q1, .ref q2])), (q1, .inl (c6, 6, .inl f6)), (q2, .inl (c6, 240, .inl (fun _ => 0)))] H := by rw [ef6]; exact hP
  have hD : va_D A [(h0, .inr (2, [.int 40, .ref q1, .ref q2])), (q1, .inl (c6, 6, .inl f6)), (q2, .inl (c6, 240, .inl (fun _ => 0)))] := by rw [ef6]; exact hD
  refine lv_iinc (v := (4 : Int32)) (lv' := [(3, .int 4), (0, .ref h0), (1, .int 6), (2, .int 40)]) hx hb dX3_init_58 hl (k := 0) rfl (by rfl) (by decide) rfl (fun ls hl => ?_)
  refine lv_goto (tgt := 42) hx hb dX3_init_61 (by decide) ?_
  refine lv_iload_n hx hb dX3_init_42 rfl (lv_at hl 0 rfl) ?_
  refine lv_aload_n hx hb dX3_init_43 rfl (lv_at hl 1 rfl) ?_
  refine va_get (D := D) (ci := 2) (v := .ref q1) (C := RX3) (T := TX3) (N := 3) hx hb hts hinX3 hown hK hP 0 rfl rfl 1 (by decide) (hts (.fieldLink RX3 19 "LoafParts$Shelf" "sizes" "[I") (by decide +kernel)) (fun _ h9 => h9) rfl dX3_init_44 ?_
  refine va_alen (v := (6 : Int32)) hx hb hK hP 1 0 rfl rfl rfl dX3_init_47 ?_
  refine lv_icmp_ge (tgt := 64) hx hb dX3_init_48 (by decide) (fun z => absurd z (by decide)) (fun _ => ?_)
  refine lv_aload_n hx hb dX3_init_51 rfl (lv_at hl 1 rfl) ?_
  refine va_get (D := D) (ci := 2) (v := .ref q1) (C := RX3) (T := TX3) (N := 3) hx hb hts hinX3 hown hK hP 0 rfl rfl 1 (by decide) (hts (.fieldLink RX3 19 "LoafParts$Shelf" "sizes" "[I") (by decide +kernel)) (fun _ h9 => h9) rfl dX3_init_52 ?_
  refine lv_iload_n hx hb dX3_init_55 rfl (lv_at hl 0 rfl) ?_
  refine lv_iconst (v := (-1 : Int32)) hx hb dX3_init_56 (by decide) ?_
  refine va_iast (x := ((-1) : Int32)) (i := (4 : Int32)) hx hb hK hP hD hS 1 0 rfl rfl (by unfold vp_in; decide) dX3_init_57 (fun H locs hP hD hS => ?_)
  obtain ⟨f7, ef7⟩ : ∃ z : Nat → Int32, z = upd f6 4 ((-1)) := ⟨_, rfl⟩
  have hP : va_P D vwCl [(h0, .inr (2, [.int 40, .ref q1, .ref q2])), (q1, .inl (c6, 6, .inl f7)), (q2, .inl (c6, 240, .inl (fun _ => 0)))] H := by rw [ef7]; exact hP
  have hD : va_D A [(h0, .inr (2, [.int 40, .ref q1, .ref q2])), (q1, .inl (c6, 6, .inl f7)), (q2, .inl (c6, 240, .inl (fun _ => 0)))] := by rw [ef7]; exact hD
  refine lv_iinc (v := (5 : Int32)) (lv' := [(3, .int 5), (0, .ref h0), (1, .int 6), (2, .int 40)]) hx hb dX3_init_58 hl (k := 0) rfl (by rfl) (by decide) rfl (fun ls hl => ?_)
  refine lv_goto (tgt := 42) hx hb dX3_init_61 (by decide) ?_
  refine lv_iload_n hx hb dX3_init_42 rfl (lv_at hl 0 rfl) ?_
  refine lv_aload_n hx hb dX3_init_43 rfl (lv_at hl 1 rfl) ?_
  refine va_get (D := D) (ci := 2) (v := .ref q1) (C := RX3) (T := TX3) (N := 3) hx hb hts hinX3 hown hK hP 0 rfl rfl 1 (by decide) (hts (.fieldLink RX3 19 "LoafParts$Shelf" "sizes" "[I") (by decide +kernel)) (fun _ h9 => h9) rfl dX3_init_44 ?_
  refine va_alen (v := (6 : Int32)) hx hb hK hP 1 0 rfl rfl rfl dX3_init_47 ?_
  refine lv_icmp_ge (tgt := 64) hx hb dX3_init_48 (by decide) (fun z => absurd z (by decide)) (fun _ => ?_)
  refine lv_aload_n hx hb dX3_init_51 rfl (lv_at hl 1 rfl) ?_
  refine va_get (D := D) (ci := 2) (v := .ref q1) (C := RX3) (T := TX3) (N := 3) hx hb hts hinX3 hown hK hP 0 rfl rfl 1 (by decide) (hts (.fieldLink RX3 19 "LoafParts$Shelf" "sizes" "[I") (by decide +kernel)) (fun _ h9 => h9) rfl dX3_init_52 ?_
  refine lv_iload_n hx hb dX3_init_55 rfl (lv_at hl 0 rfl) ?_
  refine lv_iconst (v := (-1 : Int32)) hx hb dX3_init_56 (by decide) ?_
  refine va_iast (x := ((-1) : Int32)) (i := (5 : Int32)) hx hb hK hP hD hS 1 0 rfl rfl (by unfold vp_in; decide) dX3_init_57 (fun H locs hP hD hS => ?_)
  obtain ⟨f8, ef8⟩ : ∃ z : Nat → Int32, z = upd f7 5 ((-1)) := ⟨_, rfl⟩
  have hP : va_P D vwCl [(h0, .inr (2, [.int 40, .ref q1, .ref q2])), (q1, .inl (c6, 6, .inl f8)), (q2, .inl (c6, 240, .inl (fun _ => 0)))] H := by rw [ef8]; exact hP
  have hD : va_D A [(h0, .inr (2, [.int 40, .ref q1, .ref q2])), (q1, .inl (c6, 6, .inl f8)), (q2, .inl (c6, 240, .inl (fun _ => 0)))] := by rw [ef8]; exact hD
  refine lv_iinc (v := (6 : Int32)) (lv' := [(3, .int 6), (0, .ref h0), (1, .int 6), (2, .int 40)]) hx hb dX3_init_58 hl (k := 0) rfl (by rfl) (by decide) rfl (fun ls hl => ?_)
  refine lv_goto (tgt := 42) hx hb dX3_init_61 (by decide) ?_
  refine lv_iload_n hx hb dX3_init_42 rfl (lv_at hl 0 rfl) ?_
  refine lv_aload_n hx hb dX3_init_43 rfl (lv_at hl 1 rfl) ?_
  refine va_get (D := D) (ci := 2) (v := .ref q1) (C := RX3) (T := TX3) (N := 3) hx hb hts hinX3 hown hK hP 0 rfl rfl 1 (by decide) (hts (.fieldLink RX3 19 "LoafParts$Shelf" "sizes" "[I") (by decide +kernel)) (fun _ h9 => h9) rfl dX3_init_44 ?_
  refine va_alen (v := (6 : Int32)) hx hb hK hP 1 0 rfl rfl rfl dX3_init_47 ?_
  refine lv_icmp_ge (tgt := 64) hx hb dX3_init_48 (by decide) (fun _ => ?_) (fun z => absurd (by decide) z)
  have hfp : ∀ j, j < 6 → f8 j = -1 := by
    intro j hj
    rw [ef8, ef7, ef6, ef5, ef4, ef3]
    rcases (show j = 0 ∨ j = 1 ∨ j = 2 ∨ j = 3 ∨ j = 4 ∨ j = 5 by omega) with rfl | rfl | rfl | rfl | rfl | rfl <;> rfl
  exact W.vret hx hb hr (fun t ht hW => ⟨⟨(q1, q2, f8), rfl, hfp, by rw [ht]; exact hP, hD⟩, hS.F ht⟩) hS.2.2 dX3_init_64
set_option maxHeartbeats 4000000 in
set_option maxRecDepth 100000 in
theorem k_X3b (l : Launch) (D : va_G) (c6 c7 c8 : ClassId) (h0 sz : Nat) : Met l yX3_init wsX3_init ({ frames := 1, cells := 2, slots := 244, locals := 24 }) (va_Pc [.ref h0, .int 4, .int 60] (fun U => U.heap.size = sz ∧ va_P D vwCl [(h0, .inr (2, [.int 0, .null, .null]))] U.heap ∧ va_K D vwCl (tys3 c6 c7 c8) U ∧ va_D (fun _ => True) [(h0, .inr (2, [.int 0, .null, .null]))])) (va_Qv (fun u : Nat × Nat × (Nat → Int32) => ∀ j, j < 4 → u.2.2 j = -1) (fun (u : Nat × Nat × (Nat → Int32)) (t : State) => match u with | (r0, r1, ff) => va_P D vwCl [(h0, .inr (2, [.int 60, .ref r0, .ref r1])), (r0, .inl (c6, 4, .inl ff)), (r1, .inl (c6, 240, .inl (fun _ => 0)))] t.heap ∧ va_D (va_A [(h0, .inr (2, [.int 0, .null, .null]))] sz) [(h0, .inr (2, [.int 60, .ref r0, .ref r1])), (r0, .inl (c6, 4, .inl ff)), (r1, .inl (c6, 240, .inl (fun _ => 0)))]) (va_A [(h0, .inr (2, [.int 0, .null, .null]))] sz)) 2 244 (va_A [(h0, .inr (2, [.int 0, .null, .null]))] sz) := by
  refine Met.ofW (cc := cX3_init) (maxL := 4) (ret := none) (by decide) rfl ?_
  intro p e s m args below meth c s₁ B hml hv
  obtain ⟨rfl, hsz, hP, hK, hD0⟩ := hv
  have hx := B.exec
  have hb := B.bytes
  have hr := B.returns
  have hts := atoms_spec (ws := wsX3_init) B.pre
  have hown : s.vm.findClass RX3 = some m.cls := findClass_of_methodNamed B.named
  have hlocks := B.notSynchronized
  have hin : meth.name = "<init>" := (name_of_methodNamed B.named B.method).1
  subst hsz
  have hD := hD0.self (sz := s.heap.size)
  generalize hAe : va_A [(h0, .inr (2, [.int 0, .null, .null]))] s.heap.size = A at hD ⊢
  have hA : ∀ q : Nat, s.heap.size ≤ q → A q := fun q h => by rw [← hAe]; exact Or.inr h
  have hS : va_S A s.heap s.heap [] := va_S.rf
  have hP : va_P D vwCl [(h0, .inr (2, [.int 0, .null, .null]))] s.heap := hP
  have hinX3 : ∀ w ∈ u_ws RX3 TX3 3, w ∈ wsX3_init := by decide +kernel
  have hl := lv_entry ([.ref h0, .int 4, .int 60]) (n := 4) (Nat.le_of_ble_eq_true rfl)
  rw [lg_entry_eq]
  generalize (lg_sl ([.ref h0, .int 4, .int 60]) ++ List.replicate (4 - (lg_sl ([.ref h0, .int 4, .int 60])).length) Slot.unset).toArray = ls at hl ⊢
  have hl : lv_has ls 4 [(0, .ref h0), (1, .int 4), (2, .int 60)] := hl
  refine lv_aload_n hx hb dX3_init_0 rfl (lv_at hl 0 rfl) ?_
  refine W.objInit hx hb hown (hts (.methodLink RX3 1 objectInit) (by decide +kernel)) (hts (.instanceMethod objectInit) (by decide +kernel)) (hts (.code objectInit ⟨#[0xb1]⟩ 1 none) (by decide +kernel)) rfl (by rw [hml]; exact hl.1) rfl dX3_init_1 (Nat.le_of_ble_eq_true rfl) (Nat.le_of_ble_eq_true rfl) ?_
  refine W.eq (g2 := F0 m 4 ls []) rfl ?_
  refine lv_aload_n hx hb dX3_init_4 rfl (lv_at hl 0 rfl) ?_
  refine lv_iload_n hx hb dX3_init_5 rfl (lv_at hl 2 rfl) ?_
  refine lv_iconst (v := (0 : Int32)) hx hb dX3_init_6 (by decide) ?_
  refine va_mmax (x := (60 : Int32)) (y := (0 : Int32)) hx hb (hml.trans hl.1.symm) hown (hts (.methodLink RX3 7 Lib.Math.max.name) (by decide +kernel)) (hts (.static Lib.Math.max.name) (by decide +kernel)) (hts (.initialized "java/lang/Math") (by decide +kernel)) (hts (.code Lib.Math.max.name Lib.Math.max.code 2 (some .int)) (by decide +kernel)) (Nat.le_of_ble_eq_true rfl) (Nat.le_of_ble_eq_true rfl) (Nat.le_of_ble_eq_true rfl) (Nat.le_of_ble_eq_true rfl) dX3_init_7 ?_
  rw [if_neg (show ¬ ((60 : Int32) < 0) by decide)]
  refine va_putF (D := D) (ci := 2) (v := .int 60) (ty := .int) (C := RX3) (T := TX3) (N := 3) hx hb hts hinX3 tyX3 tyX3_ok nmX3 hown hK hP hD hS 0 rfl rfl 0 (by decide) (hts (.fieldLink RX3 13 "LoafParts$Shelf" "places" "I") (by decide +kernel)) (fun _ h9 => h9) rfl hin rfl (by decide +kernel) rfl rfl (Nat.le_of_ble_eq_true rfl) dX3_init_10 (fun H locs hP hD hS => ?_)
  have hP : va_P D vwCl [(h0, .inr (2, [.int 60, .null, .null]))] H := hP
  have hD : va_D A [(h0, .inr (2, [.int 60, .null, .null]))] := hD
  refine lv_aload_n hx hb dX3_init_13 rfl (lv_at hl 0 rfl) ?_
  refine lv_iload_n hx hb dX3_init_14 rfl (lv_at hl 1 rfl) ?_
  refine lv_iconst (v := (0 : Int32)) hx hb dX3_init_15 (by decide) ?_
  refine va_mmax (x := (4 : Int32)) (y := (0 : Int32)) hx hb (hml.trans hl.1.symm) hown (hts (.methodLink RX3 7 Lib.Math.max.name) (by decide +kernel)) (hts (.static Lib.Math.max.name) (by decide +kernel)) (hts (.initialized "java/lang/Math") (by decide +kernel)) (hts (.code Lib.Math.max.name Lib.Math.max.code 2 (some .int)) (by decide +kernel)) (Nat.le_of_ble_eq_true rfl) (Nat.le_of_ble_eq_true rfl) (Nat.le_of_ble_eq_true rfl) (Nat.le_of_ble_eq_true rfl) dX3_init_16 ?_
  rw [if_neg (show ¬ ((4 : Int32) < 0) by decide)]
  refine q_newi (n := (4 : Int32)) (N' := 4) hx hb (hts (.arrayClass .int) (by decide +kernel)) hK hP hD hS hA (by decide) (by decide) (Nat.le_of_ble_eq_true rfl) (Nat.le_of_ble_eq_true rfl) (Nat.le_of_ble_eq_true rfl) dX3_init_19 (fun q1 H hP hD hS => ?_)
  have hP : va_P D vwCl [(h0, .inr (2, [.int 60, .null, .null])), (q1, .inl (c6, 4, .inl (fun _ => 0)))] H := hP
  have hD : va_D A [(h0, .inr (2, [.int 60, .null, .null])), (q1, .inl (c6, 4, .inl (fun _ => 0)))] := hD
  refine W.widen (k := 1) (n := 4) (by omega) (by omega) ?_
  refine va_putF (D := D) (ci := 2) (v := .ref q1) (ty := .array .int) (C := RX3) (T := TX3) (N := 3) hx hb hts hinX3 tyX3 tyX3_ok nmX3 hown hK hP hD hS 0 rfl rfl 1 (by decide) (hts (.fieldLink RX3 19 "LoafParts$Shelf" "sizes" "[I") (by decide +kernel)) (fun _ h9 => h9) rfl hin rfl (by decide +kernel) rfl rfl (Nat.le_of_ble_eq_true rfl) dX3_init_21 (fun H locs hP hD hS => ?_)
  have hP : va_P D vwCl [(h0, .inr (2, [.int 60, .ref q1, .null])), (q1, .inl (c6, 4, .inl (fun _ => 0)))] H := hP
  have hD : va_D A [(h0, .inr (2, [.int 60, .ref q1, .null])), (q1, .inl (c6, 4, .inl (fun _ => 0)))] := hD
  refine lv_aload_n hx hb dX3_init_24 rfl (lv_at hl 0 rfl) ?_
  refine lv_aload_n hx hb dX3_init_25 rfl (lv_at hl 0 rfl) ?_
  refine va_get (D := D) (ci := 2) (v := .ref q1) (C := RX3) (T := TX3) (N := 3) hx hb hts hinX3 hown hK hP 0 rfl rfl 1 (by decide) (hts (.fieldLink RX3 19 "LoafParts$Shelf" "sizes" "[I") (by decide +kernel)) (fun _ h9 => h9) rfl dX3_init_26 ?_
  refine va_alen (v := (4 : Int32)) hx hb hK hP 1 0 rfl rfl rfl dX3_init_29 ?_
  refine lv_aload_n hx hb dX3_init_30 rfl (lv_at hl 0 rfl) ?_
  refine va_get (D := D) (ci := 2) (v := .int 60) (C := RX3) (T := TX3) (N := 3) hx hb hts hinX3 hown hK hP 0 rfl rfl 0 (by decide) (hts (.fieldLink RX3 13 "LoafParts$Shelf" "places" "I") (by decide +kernel)) (fun _ h9 => h9) rfl dX3_init_31 ?_
  refine lv_imul hx hb dX3_init_34 ?_
  refine q_newi (n := ((4 * 60) : Int32)) (N' := 240) hx hb (hts (.arrayClass .int) (by decide +kernel)) hK hP hD hS hA (by decide) (by decide) (Nat.le_of_ble_eq_true rfl) (Nat.le_of_ble_eq_true rfl) (Nat.le_of_ble_eq_true rfl) dX3_init_35 (fun q2 H hP hD hS => ?_)
  have hP : va_P D vwCl [(h0, .inr (2, [.int 60, .ref q1, .null])), (q1, .inl (c6, 4, .inl (fun _ => 0))), (q2, .inl (c6, 240, .inl (fun _ => 0)))] H := hP
  have hD : va_D A [(h0, .inr (2, [.int 60, .ref q1, .null])), (q1, .inl (c6, 4, .inl (fun _ => 0))), (q2, .inl (c6, 240, .inl (fun _ => 0)))] := hD
  refine W.widen (k := 2) (n := 244) (by omega) (by omega) ?_
  refine va_putF (D := D) (ci := 2) (v := .ref q2) (ty := .array .int) (C := RX3) (T := TX3) (N := 3) hx hb hts hinX3 tyX3 tyX3_ok nmX3 hown hK hP hD hS 0 rfl rfl 2 (by decide) (hts (.fieldLink RX3 23 "LoafParts$Shelf" "cells" "[I") (by decide +kernel)) (fun _ h9 => h9) rfl hin rfl (by decide +kernel) rfl rfl (Nat.le_of_ble_eq_true rfl) dX3_init_37 (fun H locs hP hD hS => ?_)
  have hP : va_P D vwCl [(h0, .inr (2, [.int 60, .ref q1, .ref q2])), (q1, .inl (c6, 4, .inl (fun _ => 0))), (q2, .inl (c6, 240, .inl (fun _ => 0)))] H := hP
  have hD : va_D A [(h0, .inr (2, [.int 60, .ref q1, .ref q2])), (q1, .inl (c6, 4, .inl (fun _ => 0))), (q2, .inl (c6, 240, .inl (fun _ => 0)))] := hD
  refine lv_iconst (v := (0 : Int32)) hx hb dX3_init_40 (by decide) ?_
  refine lv_istore_n (lv' := [(3, .int 0), (0, .ref h0), (1, .int 4), (2, .int 60)]) hx hb dX3_init_41 rfl hl (by decide) rfl (fun ls hl => ?_)
  refine lv_iload_n hx hb dX3_init_42 rfl (lv_at hl 0 rfl) ?_
  refine lv_aload_n hx hb dX3_init_43 rfl (lv_at hl 1 rfl) ?_
  refine va_get (D := D) (ci := 2) (v := .ref q1) (C := RX3) (T := TX3) (N := 3) hx hb hts hinX3 hown hK hP 0 rfl rfl 1 (by decide) (hts (.fieldLink RX3 19 "LoafParts$Shelf" "sizes" "[I") (by decide +kernel)) (fun _ h9 => h9) rfl dX3_init_44 ?_
  refine va_alen (v := (4 : Int32)) hx hb hK hP 1 0 rfl rfl rfl dX3_init_47 ?_
  refine lv_icmp_ge (tgt := 64) hx hb dX3_init_48 (by decide) (fun z => absurd z (by decide)) (fun _ => ?_)
  refine lv_aload_n hx hb dX3_init_51 rfl (lv_at hl 1 rfl) ?_
  refine va_get (D := D) (ci := 2) (v := .ref q1) (C := RX3) (T := TX3) (N := 3) hx hb hts hinX3 hown hK hP 0 rfl rfl 1 (by decide) (hts (.fieldLink RX3 19 "LoafParts$Shelf" "sizes" "[I") (by decide +kernel)) (fun _ h9 => h9) rfl dX3_init_52 ?_
  refine lv_iload_n hx hb dX3_init_55 rfl (lv_at hl 0 rfl) ?_
  refine lv_iconst (v := (-1 : Int32)) hx hb dX3_init_56 (by decide) ?_
  refine va_iast (x := ((-1) : Int32)) (i := (0 : Int32)) hx hb hK hP hD hS 1 0 rfl rfl (by unfold vp_in; decide) dX3_init_57 (fun H locs hP hD hS => ?_)
  obtain ⟨f3, ef3⟩ : ∃ z : Nat → Int32, z = upd (fun _ => 0) 0 ((-1)) := ⟨_, rfl⟩
  have hP : va_P D vwCl [(h0, .inr (2, [.int 60, .ref q1, .ref q2])), (q1, .inl (c6, 4, .inl f3)), (q2, .inl (c6, 240, .inl (fun _ => 0)))] H := by rw [ef3]; exact hP
  have hD : va_D A [(h0, .inr (2, [.int 60, .ref q1, .ref q2])), (q1, .inl (c6, 4, .inl f3)), (q2, .inl (c6, 240, .inl (fun _ => 0)))] := by rw [ef3]; exact hD
  refine lv_iinc (v := (1 : Int32)) (lv' := [(3, .int 1), (0, .ref h0), (1, .int 4), (2, .int 60)]) hx hb dX3_init_58 hl (k := 0) rfl (by rfl) (by decide) rfl (fun ls hl => ?_)
  refine lv_goto (tgt := 42) hx hb dX3_init_61 (by decide) ?_
  refine lv_iload_n hx hb dX3_init_42 rfl (lv_at hl 0 rfl) ?_
  refine lv_aload_n hx hb dX3_init_43 rfl (lv_at hl 1 rfl) ?_
  refine va_get (D := D) (ci := 2) (v := .ref q1) (C := RX3) (T := TX3) (N := 3) hx hb hts hinX3 hown hK hP 0 rfl rfl 1 (by decide) (hts (.fieldLink RX3 19 "LoafParts$Shelf" "sizes" "[I") (by decide +kernel)) (fun _ h9 => h9) rfl dX3_init_44 ?_
  refine va_alen (v := (4 : Int32)) hx hb hK hP 1 0 rfl rfl rfl dX3_init_47 ?_
  refine lv_icmp_ge (tgt := 64) hx hb dX3_init_48 (by decide) (fun z => absurd z (by decide)) (fun _ => ?_)
  refine lv_aload_n hx hb dX3_init_51 rfl (lv_at hl 1 rfl) ?_
  refine va_get (D := D) (ci := 2) (v := .ref q1) (C := RX3) (T := TX3) (N := 3) hx hb hts hinX3 hown hK hP 0 rfl rfl 1 (by decide) (hts (.fieldLink RX3 19 "LoafParts$Shelf" "sizes" "[I") (by decide +kernel)) (fun _ h9 => h9) rfl dX3_init_52 ?_
  refine lv_iload_n hx hb dX3_init_55 rfl (lv_at hl 0 rfl) ?_
  refine lv_iconst (v := (-1 : Int32)) hx hb dX3_init_56 (by decide) ?_
  refine va_iast (x := ((-1) : Int32)) (i := (1 : Int32)) hx hb hK hP hD hS 1 0 rfl rfl (by unfold vp_in; decide) dX3_init_57 (fun H locs hP hD hS => ?_)
  obtain ⟨f4, ef4⟩ : ∃ z : Nat → Int32, z = upd f3 1 ((-1)) := ⟨_, rfl⟩
  have hP : va_P D vwCl [(h0, .inr (2, [.int 60, .ref q1, .ref q2])), (q1, .inl (c6, 4, .inl f4)), (q2, .inl (c6, 240, .inl (fun _ => 0)))] H := by rw [ef4]; exact hP
  have hD : va_D A [(h0, .inr (2, [.int 60, .ref q1, .ref q2])), (q1, .inl (c6, 4, .inl f4)), (q2, .inl (c6, 240, .inl (fun _ => 0)))] := by rw [ef4]; exact hD
  refine lv_iinc (v := (2 : Int32)) (lv' := [(3, .int 2), (0, .ref h0), (1, .int 4), (2, .int 60)]) hx hb dX3_init_58 hl (k := 0) rfl (by rfl) (by decide) rfl (fun ls hl => ?_)
  refine lv_goto (tgt := 42) hx hb dX3_init_61 (by decide) ?_
  refine lv_iload_n hx hb dX3_init_42 rfl (lv_at hl 0 rfl) ?_
  refine lv_aload_n hx hb dX3_init_43 rfl (lv_at hl 1 rfl) ?_
  refine va_get (D := D) (ci := 2) (v := .ref q1) (C := RX3) (T := TX3) (N := 3) hx hb hts hinX3 hown hK hP 0 rfl rfl 1 (by decide) (hts (.fieldLink RX3 19 "LoafParts$Shelf" "sizes" "[I") (by decide +kernel)) (fun _ h9 => h9) rfl dX3_init_44 ?_
  refine va_alen (v := (4 : Int32)) hx hb hK hP 1 0 rfl rfl rfl dX3_init_47 ?_
  refine lv_icmp_ge (tgt := 64) hx hb dX3_init_48 (by decide) (fun z => absurd z (by decide)) (fun _ => ?_)
  refine lv_aload_n hx hb dX3_init_51 rfl (lv_at hl 1 rfl) ?_
  refine va_get (D := D) (ci := 2) (v := .ref q1) (C := RX3) (T := TX3) (N := 3) hx hb hts hinX3 hown hK hP 0 rfl rfl 1 (by decide) (hts (.fieldLink RX3 19 "LoafParts$Shelf" "sizes" "[I") (by decide +kernel)) (fun _ h9 => h9) rfl dX3_init_52 ?_
  refine lv_iload_n hx hb dX3_init_55 rfl (lv_at hl 0 rfl) ?_
  refine lv_iconst (v := (-1 : Int32)) hx hb dX3_init_56 (by decide) ?_
  refine va_iast (x := ((-1) : Int32)) (i := (2 : Int32)) hx hb hK hP hD hS 1 0 rfl rfl (by unfold vp_in; decide) dX3_init_57 (fun H locs hP hD hS => ?_)
  obtain ⟨f5, ef5⟩ : ∃ z : Nat → Int32, z = upd f4 2 ((-1)) := ⟨_, rfl⟩
  have hP : va_P D vwCl [(h0, .inr (2, [.int 60, .ref q1, .ref q2])), (q1, .inl (c6, 4, .inl f5)), (q2, .inl (c6, 240, .inl (fun _ => 0)))] H := by rw [ef5]; exact hP
  have hD : va_D A [(h0, .inr (2, [.int 60, .ref q1, .ref q2])), (q1, .inl (c6, 4, .inl f5)), (q2, .inl (c6, 240, .inl (fun _ => 0)))] := by rw [ef5]; exact hD
  refine lv_iinc (v := (3 : Int32)) (lv' := [(3, .int 3), (0, .ref h0), (1, .int 4), (2, .int 60)]) hx hb dX3_init_58 hl (k := 0) rfl (by rfl) (by decide) rfl (fun ls hl => ?_)
  refine lv_goto (tgt := 42) hx hb dX3_init_61 (by decide) ?_
  refine lv_iload_n hx hb dX3_init_42 rfl (lv_at hl 0 rfl) ?_
  refine lv_aload_n hx hb dX3_init_43 rfl (lv_at hl 1 rfl) ?_
  refine va_get (D := D) (ci := 2) (v := .ref q1) (C := RX3) (T := TX3) (N := 3) hx hb hts hinX3 hown hK hP 0 rfl rfl 1 (by decide) (hts (.fieldLink RX3 19 "LoafParts$Shelf" "sizes" "[I") (by decide +kernel)) (fun _ h9 => h9) rfl dX3_init_44 ?_
  refine va_alen (v := (4 : Int32)) hx hb hK hP 1 0 rfl rfl rfl dX3_init_47 ?_
  refine lv_icmp_ge (tgt := 64) hx hb dX3_init_48 (by decide) (fun z => absurd z (by decide)) (fun _ => ?_)
  refine lv_aload_n hx hb dX3_init_51 rfl (lv_at hl 1 rfl) ?_
  refine va_get (D := D) (ci := 2) (v := .ref q1) (C := RX3) (T := TX3) (N := 3) hx hb hts hinX3 hown hK hP 0 rfl rfl 1 (by decide) (hts (.fieldLink RX3 19 "LoafParts$Shelf" "sizes" "[I") (by decide +kernel)) (fun _ h9 => h9) rfl dX3_init_52 ?_
  refine lv_iload_n hx hb dX3_init_55 rfl (lv_at hl 0 rfl) ?_
  refine lv_iconst (v := (-1 : Int32)) hx hb dX3_init_56 (by decide) ?_
  refine va_iast (x := ((-1) : Int32)) (i := (3 : Int32)) hx hb hK hP hD hS 1 0 rfl rfl (by unfold vp_in; decide) dX3_init_57 (fun H locs hP hD hS => ?_)
  obtain ⟨f6, ef6⟩ : ∃ z : Nat → Int32, z = upd f5 3 ((-1)) := ⟨_, rfl⟩
  have hP : va_P D vwCl [(h0, .inr (2, [.int 60, .ref q1, .ref q2])), (q1, .inl (c6, 4, .inl f6)), (q2, .inl (c6, 240, .inl (fun _ => 0)))] H := by rw [ef6]; exact hP
  have hD : va_D A [(h0, .inr (2, [.int 60, .ref q1, .ref q2])), (q1, .inl (c6, 4, .inl f6)), (q2, .inl (c6, 240, .inl (fun _ => 0)))] := by rw [ef6]; exact hD
  refine lv_iinc (v := (4 : Int32)) (lv' := [(3, .int 4), (0, .ref h0), (1, .int 4), (2, .int 60)]) hx hb dX3_init_58 hl (k := 0) rfl (by rfl) (by decide) rfl (fun ls hl => ?_)
  refine lv_goto (tgt := 42) hx hb dX3_init_61 (by decide) ?_
  refine lv_iload_n hx hb dX3_init_42 rfl (lv_at hl 0 rfl) ?_
  refine lv_aload_n hx hb dX3_init_43 rfl (lv_at hl 1 rfl) ?_
  refine va_get (D := D) (ci := 2) (v := .ref q1) (C := RX3) (T := TX3) (N := 3) hx hb hts hinX3 hown hK hP 0 rfl rfl 1 (by decide) (hts (.fieldLink RX3 19 "LoafParts$Shelf" "sizes" "[I") (by decide +kernel)) (fun _ h9 => h9) rfl dX3_init_44 ?_
  refine va_alen (v := (4 : Int32)) hx hb hK hP 1 0 rfl rfl rfl dX3_init_47 ?_
  refine lv_icmp_ge (tgt := 64) hx hb dX3_init_48 (by decide) (fun _ => ?_) (fun z => absurd (by decide) z)
  have hfp : ∀ j, j < 4 → f6 j = -1 := by
    intro j hj
    rw [ef6, ef5, ef4, ef3]
    rcases (show j = 0 ∨ j = 1 ∨ j = 2 ∨ j = 3 by omega) with rfl | rfl | rfl | rfl <;> rfl
  exact W.vret hx hb hr (fun t ht hW => ⟨⟨(q1, q2, f6), rfl, hfp, by rw [ht]; exact hP, hD⟩, hS.F ht⟩) hS.2.2 dX3_init_64
set_option maxHeartbeats 4000000 in
set_option maxRecDepth 100000 in
theorem k_X4 (l : Launch) (D : va_G) (c6 c7 c8 : ClassId) (h0 sz : Nat) : Met l yX4_init wsX4_init ({ frames := 1, cells := 9, slots := 172, locals := 12 }) (va_Pc [.ref h0] (fun U => U.heap.size = sz ∧ va_P D vwCl [(h0, .inr (3, [.int 0, .int 0, .int 0, .null, .int 0, .null, .null, .null, .null, .null, .null, .null, .null]))] U.heap ∧ va_K D vwCl (tys3 c6 c7 c8) U ∧ va_D (fun _ => True) [(h0, .inr (3, [.int 0, .int 0, .int 0, .null, .int 0, .null, .null, .null, .null, .null, .null, .null, .null]))])) (va_Qv (fun u : Nat × Nat × Nat × Nat × Nat × Nat × Nat × Nat × Nat => True) (fun (u : Nat × Nat × Nat × Nat × Nat × Nat × Nat × Nat × Nat) (t : State) => match u with | (r0, r1, r2, r3, r4, r5, r6, r7, r8) => va_P D vwCl [(h0, .inr (3, [.int 0, .int 0, .int 0, .ref r0, .int 0, .ref r1, .ref r2, .ref r3, .ref r4, .ref r5, .ref r6, .ref r7, .ref r8])), (r0, .inl (c6, 17, .inl (fun _ => 0))), (r1, .inl (c6, 7, .inl (fun _ => 0))), (r2, .inl (c6, 7, .inl (fun _ => 0))), (r3, .inl (c6, 7, .inl (fun _ => 0))), (r4, .inl (c6, 7, .inl (fun _ => 0))), (r5, .inl (c6, 7, .inl (fun _ => 0))), (r6, .inl (c6, 40, .inl (fun _ => 0))), (r7, .inl (c6, 40, .inl (fun _ => 0))), (r8, .inl (c6, 40, .inl (fun _ => 0)))] t.heap ∧ va_D (va_A [(h0, .inr (3, [.int 0, .int 0, .int 0, .null, .int 0, .null, .null, .null, .null, .null, .null, .null, .null]))] sz) [(h0, .inr (3, [.int 0, .int 0, .int 0, .ref r0, .int 0, .ref r1, .ref r2, .ref r3, .ref r4, .ref r5, .ref r6, .ref r7, .ref r8])), (r0, .inl (c6, 17, .inl (fun _ => 0))), (r1, .inl (c6, 7, .inl (fun _ => 0))), (r2, .inl (c6, 7, .inl (fun _ => 0))), (r3, .inl (c6, 7, .inl (fun _ => 0))), (r4, .inl (c6, 7, .inl (fun _ => 0))), (r5, .inl (c6, 7, .inl (fun _ => 0))), (r6, .inl (c6, 40, .inl (fun _ => 0))), (r7, .inl (c6, 40, .inl (fun _ => 0))), (r8, .inl (c6, 40, .inl (fun _ => 0)))]) (va_A [(h0, .inr (3, [.int 0, .int 0, .int 0, .null, .int 0, .null, .null, .null, .null, .null, .null, .null, .null]))] sz)) 9 172 (va_A [(h0, .inr (3, [.int 0, .int 0, .int 0, .null, .int 0, .null, .null, .null, .null, .null, .null, .null, .null]))] sz) := by
  refine Met.ofW (cc := cX4_init) (maxL := 1) (ret := none) (by decide) rfl ?_
  intro p e s m args below meth c s₁ B hml hv
  obtain ⟨rfl, hsz, hP, hK, hD0⟩ := hv
  have hx := B.exec
  have hb := B.bytes
  have hr := B.returns
  have hts := atoms_spec (ws := wsX4_init) B.pre
  have hown : s.vm.findClass RX4 = some m.cls := findClass_of_methodNamed B.named
  have hlocks := B.notSynchronized
  have hin : meth.name = "<init>" := (name_of_methodNamed B.named B.method).1
  subst hsz
  have hD := hD0.self (sz := s.heap.size)
  generalize hAe : va_A [(h0, .inr (3, [.int 0, .int 0, .int 0, .null, .int 0, .null, .null, .null, .null, .null, .null, .null, .null]))] s.heap.size = A at hD ⊢
  have hA : ∀ q : Nat, s.heap.size ≤ q → A q := fun q h => by rw [← hAe]; exact Or.inr h
  have hS : va_S A s.heap s.heap [] := va_S.rf
  have hP : va_P D vwCl [(h0, .inr (3, [.int 0, .int 0, .int 0, .null, .int 0, .null, .null, .null, .null, .null, .null, .null, .null]))] s.heap := hP
  have hinX4 : ∀ w ∈ u_ws RX4 TX4 13, w ∈ wsX4_init := by decide +kernel
  have hl := lv_entry ([.ref h0]) (n := 1) (Nat.le_of_ble_eq_true rfl)
  rw [lg_entry_eq]
  generalize (lg_sl ([.ref h0]) ++ List.replicate (1 - (lg_sl ([.ref h0])).length) Slot.unset).toArray = ls at hl ⊢
  have hl : lv_has ls 1 [(0, .ref h0)] := hl
  refine lv_aload_n hx hb dX4_init_0 rfl (lv_at hl 0 rfl) ?_
  refine W.objInit hx hb hown (hts (.methodLink RX4 3 objectInit) (by decide +kernel)) (hts (.instanceMethod objectInit) (by decide +kernel)) (hts (.code objectInit ⟨#[0xb1]⟩ 1 none) (by decide +kernel)) rfl (by rw [hml]; exact hl.1) rfl dX4_init_1 (Nat.le_of_ble_eq_true rfl) (Nat.le_of_ble_eq_true rfl) ?_
  refine W.eq (g2 := F0 m 4 ls []) rfl ?_
  refine lv_aload_n hx hb dX4_init_4 rfl (lv_at hl 0 rfl) ?_
  refine lv_bipush (v := (17 : Int32)) hx hb dX4_init_5 (by decide) ?_
  refine q_newi (n := (17 : Int32)) (N' := 17) hx hb (hts (.arrayClass .int) (by decide +kernel)) hK hP hD hS hA (by decide) (by decide) (Nat.le_of_ble_eq_true rfl) (Nat.le_of_ble_eq_true rfl) (Nat.le_of_ble_eq_true rfl) dX4_init_7 (fun q1 H hP hD hS => ?_)
  have hP : va_P D vwCl [(h0, .inr (3, [.int 0, .int 0, .int 0, .null, .int 0, .null, .null, .null, .null, .null, .null, .null, .null])), (q1, .inl (c6, 17, .inl (fun _ => 0)))] H := hP
  have hD : va_D A [(h0, .inr (3, [.int 0, .int 0, .int 0, .null, .int 0, .null, .null, .null, .null, .null, .null, .null, .null])), (q1, .inl (c6, 17, .inl (fun _ => 0)))] := hD
  refine W.widen (k := 1) (n := 17) (by omega) (by omega) ?_
  refine va_putF (D := D) (ci := 3) (v := .ref q1) (ty := .array .int) (C := RX4) (T := TX4) (N := 13) hx hb hts hinX4 tyX4 tyX4_ok nmX4 hown hK hP hD hS 0 rfl rfl 3 (by decide) (hts (.fieldLink RX4 9 "LoafParts$Table" "lying" "[I") (by decide +kernel)) (fun _ h9 => h9) rfl hin rfl (by decide +kernel) rfl rfl (Nat.le_of_ble_eq_true rfl) dX4_init_9 (fun H locs hP hD hS => ?_)
  have hP : va_P D vwCl [(h0, .inr (3, [.int 0, .int 0, .int 0, .ref q1, .int 0, .null, .null, .null, .null, .null, .null, .null, .null])), (q1, .inl (c6, 17, .inl (fun _ => 0)))] H := hP
  have hD : va_D A [(h0, .inr (3, [.int 0, .int 0, .int 0, .ref q1, .int 0, .null, .null, .null, .null, .null, .null, .null, .null])), (q1, .inl (c6, 17, .inl (fun _ => 0)))] := hD
  refine lv_aload_n hx hb dX4_init_12 rfl (lv_at hl 0 rfl) ?_
  refine lv_bipush (v := (7 : Int32)) hx hb dX4_init_13 (by decide) ?_
  refine q_newi (n := (7 : Int32)) (N' := 7) hx hb (hts (.arrayClass .int) (by decide +kernel)) hK hP hD hS hA (by decide) (by decide) (Nat.le_of_ble_eq_true rfl) (Nat.le_of_ble_eq_true rfl) (Nat.le_of_ble_eq_true rfl) dX4_init_15 (fun q2 H hP hD hS => ?_)
  have hP : va_P D vwCl [(h0, .inr (3, [.int 0, .int 0, .int 0, .ref q1, .int 0, .null, .null, .null, .null, .null, .null, .null, .null])), (q1, .inl (c6, 17, .inl (fun _ => 0))), (q2, .inl (c6, 7, .inl (fun _ => 0)))] H := hP
  have hD : va_D A [(h0, .inr (3, [.int 0, .int 0, .int 0, .ref q1, .int 0, .null, .null, .null, .null, .null, .null, .null, .null])), (q1, .inl (c6, 17, .inl (fun _ => 0))), (q2, .inl (c6, 7, .inl (fun _ => 0)))] := hD
  refine W.widen (k := 2) (n := 24) (by omega) (by omega) ?_
  refine va_putF (D := D) (ci := 3) (v := .ref q2) (ty := .array .int) (C := RX4) (T := TX4) (N := 13) hx hb hts hinX4 tyX4 tyX4_ok nmX4 hown hK hP hD hS 0 rfl rfl 5 (by decide) (hts (.fieldLink RX4 15 "LoafParts$Table" "kind" "[I") (by decide +kernel)) (fun _ h9 => h9) rfl hin rfl (by decide +kernel) rfl rfl (Nat.le_of_ble_eq_true rfl) dX4_init_17 (fun H locs hP hD hS => ?_)
  have hP : va_P D vwCl [(h0, .inr (3, [.int 0, .int 0, .int 0, .ref q1, .int 0, .ref q2, .null, .null, .null, .null, .null, .null, .null])), (q1, .inl (c6, 17, .inl (fun _ => 0))), (q2, .inl (c6, 7, .inl (fun _ => 0)))] H := hP
  have hD : va_D A [(h0, .inr (3, [.int 0, .int 0, .int 0, .ref q1, .int 0, .ref q2, .null, .null, .null, .null, .null, .null, .null])), (q1, .inl (c6, 17, .inl (fun _ => 0))), (q2, .inl (c6, 7, .inl (fun _ => 0)))] := hD
  refine lv_aload_n hx hb dX4_init_20 rfl (lv_at hl 0 rfl) ?_
  refine lv_bipush (v := (7 : Int32)) hx hb dX4_init_21 (by decide) ?_
  refine q_newi (n := (7 : Int32)) (N' := 7) hx hb (hts (.arrayClass .int) (by decide +kernel)) hK hP hD hS hA (by decide) (by decide) (Nat.le_of_ble_eq_true rfl) (Nat.le_of_ble_eq_true rfl) (Nat.le_of_ble_eq_true rfl) dX4_init_23 (fun q3 H hP hD hS => ?_)
  have hP : va_P D vwCl [(h0, .inr (3, [.int 0, .int 0, .int 0, .ref q1, .int 0, .ref q2, .null, .null, .null, .null, .null, .null, .null])), (q1, .inl (c6, 17, .inl (fun _ => 0))), (q2, .inl (c6, 7, .inl (fun _ => 0))), (q3, .inl (c6, 7, .inl (fun _ => 0)))] H := hP
  have hD : va_D A [(h0, .inr (3, [.int 0, .int 0, .int 0, .ref q1, .int 0, .ref q2, .null, .null, .null, .null, .null, .null, .null])), (q1, .inl (c6, 17, .inl (fun _ => 0))), (q2, .inl (c6, 7, .inl (fun _ => 0))), (q3, .inl (c6, 7, .inl (fun _ => 0)))] := hD
  refine W.widen (k := 3) (n := 31) (by omega) (by omega) ?_
  refine va_putF (D := D) (ci := 3) (v := .ref q3) (ty := .array .int) (C := RX4) (T := TX4) (N := 13) hx hb hts hinX4 tyX4 tyX4_ok nmX4 hown hK hP hD hS 0 rfl rfl 6 (by decide) (hts (.fieldLink RX4 18 "LoafParts$Table" "over" "[I") (by decide +kernel)) (fun _ h9 => h9) rfl hin rfl (by decide +kernel) rfl rfl (Nat.le_of_ble_eq_true rfl) dX4_init_25 (fun H locs hP hD hS => ?_)
  have hP : va_P D vwCl [(h0, .inr (3, [.int 0, .int 0, .int 0, .ref q1, .int 0, .ref q2, .ref q3, .null, .null, .null, .null, .null, .null])), (q1, .inl (c6, 17, .inl (fun _ => 0))), (q2, .inl (c6, 7, .inl (fun _ => 0))), (q3, .inl (c6, 7, .inl (fun _ => 0)))] H := hP
  have hD : va_D A [(h0, .inr (3, [.int 0, .int 0, .int 0, .ref q1, .int 0, .ref q2, .ref q3, .null, .null, .null, .null, .null, .null])), (q1, .inl (c6, 17, .inl (fun _ => 0))), (q2, .inl (c6, 7, .inl (fun _ => 0))), (q3, .inl (c6, 7, .inl (fun _ => 0)))] := hD
  refine lv_aload_n hx hb dX4_init_28 rfl (lv_at hl 0 rfl) ?_
  refine lv_bipush (v := (7 : Int32)) hx hb dX4_init_29 (by decide) ?_
  refine q_newi (n := (7 : Int32)) (N' := 7) hx hb (hts (.arrayClass .int) (by decide +kernel)) hK hP hD hS hA (by decide) (by decide) (Nat.le_of_ble_eq_true rfl) (Nat.le_of_ble_eq_true rfl) (Nat.le_of_ble_eq_true rfl) dX4_init_31 (fun q4 H hP hD hS => ?_)
  have hP : va_P D vwCl [(h0, .inr (3, [.int 0, .int 0, .int 0, .ref q1, .int 0, .ref q2, .ref q3, .null, .null, .null, .null, .null, .null])), (q1, .inl (c6, 17, .inl (fun _ => 0))), (q2, .inl (c6, 7, .inl (fun _ => 0))), (q3, .inl (c6, 7, .inl (fun _ => 0))), (q4, .inl (c6, 7, .inl (fun _ => 0)))] H := hP
  have hD : va_D A [(h0, .inr (3, [.int 0, .int 0, .int 0, .ref q1, .int 0, .ref q2, .ref q3, .null, .null, .null, .null, .null, .null])), (q1, .inl (c6, 17, .inl (fun _ => 0))), (q2, .inl (c6, 7, .inl (fun _ => 0))), (q3, .inl (c6, 7, .inl (fun _ => 0))), (q4, .inl (c6, 7, .inl (fun _ => 0)))] := hD
  refine W.widen (k := 4) (n := 38) (by omega) (by omega) ?_
  refine va_putF (D := D) (ci := 3) (v := .ref q4) (ty := .array .int) (C := RX4) (T := TX4) (N := 13) hx hb hts hinX4 tyX4 tyX4_ok nmX4 hown hK hP hD hS 0 rfl rfl 7 (by decide) (hts (.fieldLink RX4 21 "LoafParts$Table" "under" "[I") (by decide +kernel)) (fun _ h9 => h9) rfl hin rfl (by decide +kernel) rfl rfl (Nat.le_of_ble_eq_true rfl) dX4_init_33 (fun H locs hP hD hS => ?_)
  have hP : va_P D vwCl [(h0, .inr (3, [.int 0, .int 0, .int 0, .ref q1, .int 0, .ref q2, .ref q3, .ref q4, .null, .null, .null, .null, .null])), (q1, .inl (c6, 17, .inl (fun _ => 0))), (q2, .inl (c6, 7, .inl (fun _ => 0))), (q3, .inl (c6, 7, .inl (fun _ => 0))), (q4, .inl (c6, 7, .inl (fun _ => 0)))] H := hP
  have hD : va_D A [(h0, .inr (3, [.int 0, .int 0, .int 0, .ref q1, .int 0, .ref q2, .ref q3, .ref q4, .null, .null, .null, .null, .null])), (q1, .inl (c6, 17, .inl (fun _ => 0))), (q2, .inl (c6, 7, .inl (fun _ => 0))), (q3, .inl (c6, 7, .inl (fun _ => 0))), (q4, .inl (c6, 7, .inl (fun _ => 0)))] := hD
  refine lv_aload_n hx hb dX4_init_36 rfl (lv_at hl 0 rfl) ?_
  refine lv_bipush (v := (7 : Int32)) hx hb dX4_init_37 (by decide) ?_
  refine q_newi (n := (7 : Int32)) (N' := 7) hx hb (hts (.arrayClass .int) (by decide +kernel)) hK hP hD hS hA (by decide) (by decide) (Nat.le_of_ble_eq_true rfl) (Nat.le_of_ble_eq_true rfl) (Nat.le_of_ble_eq_true rfl) dX4_init_39 (fun q5 H hP hD hS => ?_)
  have hP : va_P D vwCl [(h0, .inr (3, [.int 0, .int 0, .int 0, .ref q1, .int 0, .ref q2, .ref q3, .ref q4, .null, .null, .null, .null, .null])), (q1, .inl (c6, 17, .inl (fun _ => 0))), (q2, .inl (c6, 7, .inl (fun _ => 0))), (q3, .inl (c6, 7, .inl (fun _ => 0))), (q4, .inl (c6, 7, .inl (fun _ => 0))), (q5, .inl (c6, 7, .inl (fun _ => 0)))] H := hP
  have hD : va_D A [(h0, .inr (3, [.int 0, .int 0, .int 0, .ref q1, .int 0, .ref q2, .ref q3, .ref q4, .null, .null, .null, .null, .null])), (q1, .inl (c6, 17, .inl (fun _ => 0))), (q2, .inl (c6, 7, .inl (fun _ => 0))), (q3, .inl (c6, 7, .inl (fun _ => 0))), (q4, .inl (c6, 7, .inl (fun _ => 0))), (q5, .inl (c6, 7, .inl (fun _ => 0)))] := hD
  refine W.widen (k := 5) (n := 45) (by omega) (by omega) ?_
  refine va_putF (D := D) (ci := 3) (v := .ref q5) (ty := .array .int) (C := RX4) (T := TX4) (N := 13) hx hb hts hinX4 tyX4 tyX4_ok nmX4 hown hK hP hD hS 0 rfl rfl 8 (by decide) (hts (.fieldLink RX4 24 "LoafParts$Table" "has" "[I") (by decide +kernel)) (fun _ h9 => h9) rfl hin rfl (by decide +kernel) rfl rfl (Nat.le_of_ble_eq_true rfl) dX4_init_41 (fun H locs hP hD hS => ?_)
  have hP : va_P D vwCl [(h0, .inr (3, [.int 0, .int 0, .int 0, .ref q1, .int 0, .ref q2, .ref q3, .ref q4, .ref q5, .null, .null, .null, .null])), (q1, .inl (c6, 17, .inl (fun _ => 0))), (q2, .inl (c6, 7, .inl (fun _ => 0))), (q3, .inl (c6, 7, .inl (fun _ => 0))), (q4, .inl (c6, 7, .inl (fun _ => 0))), (q5, .inl (c6, 7, .inl (fun _ => 0)))] H := hP
  have hD : va_D A [(h0, .inr (3, [.int 0, .int 0, .int 0, .ref q1, .int 0, .ref q2, .ref q3, .ref q4, .ref q5, .null, .null, .null, .null])), (q1, .inl (c6, 17, .inl (fun _ => 0))), (q2, .inl (c6, 7, .inl (fun _ => 0))), (q3, .inl (c6, 7, .inl (fun _ => 0))), (q4, .inl (c6, 7, .inl (fun _ => 0))), (q5, .inl (c6, 7, .inl (fun _ => 0)))] := hD
  refine lv_aload_n hx hb dX4_init_44 rfl (lv_at hl 0 rfl) ?_
  refine lv_bipush (v := (7 : Int32)) hx hb dX4_init_45 (by decide) ?_
  refine q_newi (n := (7 : Int32)) (N' := 7) hx hb (hts (.arrayClass .int) (by decide +kernel)) hK hP hD hS hA (by decide) (by decide) (Nat.le_of_ble_eq_true rfl) (Nat.le_of_ble_eq_true rfl) (Nat.le_of_ble_eq_true rfl) dX4_init_47 (fun q6 H hP hD hS => ?_)
  have hP : va_P D vwCl [(h0, .inr (3, [.int 0, .int 0, .int 0, .ref q1, .int 0, .ref q2, .ref q3, .ref q4, .ref q5, .null, .null, .null, .null])), (q1, .inl (c6, 17, .inl (fun _ => 0))), (q2, .inl (c6, 7, .inl (fun _ => 0))), (q3, .inl (c6, 7, .inl (fun _ => 0))), (q4, .inl (c6, 7, .inl (fun _ => 0))), (q5, .inl (c6, 7, .inl (fun _ => 0))), (q6, .inl (c6, 7, .inl (fun _ => 0)))] H := hP
  have hD : va_D A [(h0, .inr (3, [.int 0, .int 0, .int 0, .ref q1, .int 0, .ref q2, .ref q3, .ref q4, .ref q5, .null, .null, .null, .null])), (q1, .inl (c6, 17, .inl (fun _ => 0))), (q2, .inl (c6, 7, .inl (fun _ => 0))), (q3, .inl (c6, 7, .inl (fun _ => 0))), (q4, .inl (c6, 7, .inl (fun _ => 0))), (q5, .inl (c6, 7, .inl (fun _ => 0))), (q6, .inl (c6, 7, .inl (fun _ => 0)))] := hD
  refine W.widen (k := 6) (n := 52) (by omega) (by omega) ?_
  refine va_putF (D := D) (ci := 3) (v := .ref q6) (ty := .array .int) (C := RX4) (T := TX4) (N := 13) hx hb hts hinX4 tyX4 tyX4_ok nmX4 hown hK hP hD hS 0 rfl rfl 9 (by decide) (hts (.fieldLink RX4 27 "LoafParts$Table" "lack" "[I") (by decide +kernel)) (fun _ h9 => h9) rfl hin rfl (by decide +kernel) rfl rfl (Nat.le_of_ble_eq_true rfl) dX4_init_49 (fun H locs hP hD hS => ?_)
  have hP : va_P D vwCl [(h0, .inr (3, [.int 0, .int 0, .int 0, .ref q1, .int 0, .ref q2, .ref q3, .ref q4, .ref q5, .ref q6, .null, .null, .null])), (q1, .inl (c6, 17, .inl (fun _ => 0))), (q2, .inl (c6, 7, .inl (fun _ => 0))), (q3, .inl (c6, 7, .inl (fun _ => 0))), (q4, .inl (c6, 7, .inl (fun _ => 0))), (q5, .inl (c6, 7, .inl (fun _ => 0))), (q6, .inl (c6, 7, .inl (fun _ => 0)))] H := hP
  have hD : va_D A [(h0, .inr (3, [.int 0, .int 0, .int 0, .ref q1, .int 0, .ref q2, .ref q3, .ref q4, .ref q5, .ref q6, .null, .null, .null])), (q1, .inl (c6, 17, .inl (fun _ => 0))), (q2, .inl (c6, 7, .inl (fun _ => 0))), (q3, .inl (c6, 7, .inl (fun _ => 0))), (q4, .inl (c6, 7, .inl (fun _ => 0))), (q5, .inl (c6, 7, .inl (fun _ => 0))), (q6, .inl (c6, 7, .inl (fun _ => 0)))] := hD
  refine lv_aload_n hx hb dX4_init_52 rfl (lv_at hl 0 rfl) ?_
  refine lv_bipush (v := (40 : Int32)) hx hb dX4_init_53 (by decide) ?_
  refine q_newi (n := (40 : Int32)) (N' := 40) hx hb (hts (.arrayClass .int) (by decide +kernel)) hK hP hD hS hA (by decide) (by decide) (Nat.le_of_ble_eq_true rfl) (Nat.le_of_ble_eq_true rfl) (Nat.le_of_ble_eq_true rfl) dX4_init_55 (fun q7 H hP hD hS => ?_)
  have hP : va_P D vwCl [(h0, .inr (3, [.int 0, .int 0, .int 0, .ref q1, .int 0, .ref q2, .ref q3, .ref q4, .ref q5, .ref q6, .null, .null, .null])), (q1, .inl (c6, 17, .inl (fun _ => 0))), (q2, .inl (c6, 7, .inl (fun _ => 0))), (q3, .inl (c6, 7, .inl (fun _ => 0))), (q4, .inl (c6, 7, .inl (fun _ => 0))), (q5, .inl (c6, 7, .inl (fun _ => 0))), (q6, .inl (c6, 7, .inl (fun _ => 0))), (q7, .inl (c6, 40, .inl (fun _ => 0)))] H := hP
  have hD : va_D A [(h0, .inr (3, [.int 0, .int 0, .int 0, .ref q1, .int 0, .ref q2, .ref q3, .ref q4, .ref q5, .ref q6, .null, .null, .null])), (q1, .inl (c6, 17, .inl (fun _ => 0))), (q2, .inl (c6, 7, .inl (fun _ => 0))), (q3, .inl (c6, 7, .inl (fun _ => 0))), (q4, .inl (c6, 7, .inl (fun _ => 0))), (q5, .inl (c6, 7, .inl (fun _ => 0))), (q6, .inl (c6, 7, .inl (fun _ => 0))), (q7, .inl (c6, 40, .inl (fun _ => 0)))] := hD
  refine W.widen (k := 7) (n := 92) (by omega) (by omega) ?_
  refine va_putF (D := D) (ci := 3) (v := .ref q7) (ty := .array .int) (C := RX4) (T := TX4) (N := 13) hx hb hts hinX4 tyX4 tyX4_ok nmX4 hown hK hP hD hS 0 rfl rfl 10 (by decide) (hts (.fieldLink RX4 30 "LoafParts$Table" "deedKind" "[I") (by decide +kernel)) (fun _ h9 => h9) rfl hin rfl (by decide +kernel) rfl rfl (Nat.le_of_ble_eq_true rfl) dX4_init_57 (fun H locs hP hD hS => ?_)
  have hP : va_P D vwCl [(h0, .inr (3, [.int 0, .int 0, .int 0, .ref q1, .int 0, .ref q2, .ref q3, .ref q4, .ref q5, .ref q6, .ref q7, .null, .null])), (q1, .inl (c6, 17, .inl (fun _ => 0))), (q2, .inl (c6, 7, .inl (fun _ => 0))), (q3, .inl (c6, 7, .inl (fun _ => 0))), (q4, .inl (c6, 7, .inl (fun _ => 0))), (q5, .inl (c6, 7, .inl (fun _ => 0))), (q6, .inl (c6, 7, .inl (fun _ => 0))), (q7, .inl (c6, 40, .inl (fun _ => 0)))] H := hP
  have hD : va_D A [(h0, .inr (3, [.int 0, .int 0, .int 0, .ref q1, .int 0, .ref q2, .ref q3, .ref q4, .ref q5, .ref q6, .ref q7, .null, .null])), (q1, .inl (c6, 17, .inl (fun _ => 0))), (q2, .inl (c6, 7, .inl (fun _ => 0))), (q3, .inl (c6, 7, .inl (fun _ => 0))), (q4, .inl (c6, 7, .inl (fun _ => 0))), (q5, .inl (c6, 7, .inl (fun _ => 0))), (q6, .inl (c6, 7, .inl (fun _ => 0))), (q7, .inl (c6, 40, .inl (fun _ => 0)))] := hD
  refine lv_aload_n hx hb dX4_init_60 rfl (lv_at hl 0 rfl) ?_
  refine lv_bipush (v := (40 : Int32)) hx hb dX4_init_61 (by decide) ?_
  refine q_newi (n := (40 : Int32)) (N' := 40) hx hb (hts (.arrayClass .int) (by decide +kernel)) hK hP hD hS hA (by decide) (by decide) (Nat.le_of_ble_eq_true rfl) (Nat.le_of_ble_eq_true rfl) (Nat.le_of_ble_eq_true rfl) dX4_init_63 (fun q8 H hP hD hS => ?_)
  have hP : va_P D vwCl [(h0, .inr (3, [.int 0, .int 0, .int 0, .ref q1, .int 0, .ref q2, .ref q3, .ref q4, .ref q5, .ref q6, .ref q7, .null, .null])), (q1, .inl (c6, 17, .inl (fun _ => 0))), (q2, .inl (c6, 7, .inl (fun _ => 0))), (q3, .inl (c6, 7, .inl (fun _ => 0))), (q4, .inl (c6, 7, .inl (fun _ => 0))), (q5, .inl (c6, 7, .inl (fun _ => 0))), (q6, .inl (c6, 7, .inl (fun _ => 0))), (q7, .inl (c6, 40, .inl (fun _ => 0))), (q8, .inl (c6, 40, .inl (fun _ => 0)))] H := hP
  have hD : va_D A [(h0, .inr (3, [.int 0, .int 0, .int 0, .ref q1, .int 0, .ref q2, .ref q3, .ref q4, .ref q5, .ref q6, .ref q7, .null, .null])), (q1, .inl (c6, 17, .inl (fun _ => 0))), (q2, .inl (c6, 7, .inl (fun _ => 0))), (q3, .inl (c6, 7, .inl (fun _ => 0))), (q4, .inl (c6, 7, .inl (fun _ => 0))), (q5, .inl (c6, 7, .inl (fun _ => 0))), (q6, .inl (c6, 7, .inl (fun _ => 0))), (q7, .inl (c6, 40, .inl (fun _ => 0))), (q8, .inl (c6, 40, .inl (fun _ => 0)))] := hD
  refine W.widen (k := 8) (n := 132) (by omega) (by omega) ?_
  refine va_putF (D := D) (ci := 3) (v := .ref q8) (ty := .array .int) (C := RX4) (T := TX4) (N := 13) hx hb hts hinX4 tyX4 tyX4_ok nmX4 hown hK hP hD hS 0 rfl rfl 11 (by decide) (hts (.fieldLink RX4 33 "LoafParts$Table" "deedWho" "[I") (by decide +kernel)) (fun _ h9 => h9) rfl hin rfl (by decide +kernel) rfl rfl (Nat.le_of_ble_eq_true rfl) dX4_init_65 (fun H locs hP hD hS => ?_)
  have hP : va_P D vwCl [(h0, .inr (3, [.int 0, .int 0, .int 0, .ref q1, .int 0, .ref q2, .ref q3, .ref q4, .ref q5, .ref q6, .ref q7, .ref q8, .null])), (q1, .inl (c6, 17, .inl (fun _ => 0))), (q2, .inl (c6, 7, .inl (fun _ => 0))), (q3, .inl (c6, 7, .inl (fun _ => 0))), (q4, .inl (c6, 7, .inl (fun _ => 0))), (q5, .inl (c6, 7, .inl (fun _ => 0))), (q6, .inl (c6, 7, .inl (fun _ => 0))), (q7, .inl (c6, 40, .inl (fun _ => 0))), (q8, .inl (c6, 40, .inl (fun _ => 0)))] H := hP
  have hD : va_D A [(h0, .inr (3, [.int 0, .int 0, .int 0, .ref q1, .int 0, .ref q2, .ref q3, .ref q4, .ref q5, .ref q6, .ref q7, .ref q8, .null])), (q1, .inl (c6, 17, .inl (fun _ => 0))), (q2, .inl (c6, 7, .inl (fun _ => 0))), (q3, .inl (c6, 7, .inl (fun _ => 0))), (q4, .inl (c6, 7, .inl (fun _ => 0))), (q5, .inl (c6, 7, .inl (fun _ => 0))), (q6, .inl (c6, 7, .inl (fun _ => 0))), (q7, .inl (c6, 40, .inl (fun _ => 0))), (q8, .inl (c6, 40, .inl (fun _ => 0)))] := hD
  refine lv_aload_n hx hb dX4_init_68 rfl (lv_at hl 0 rfl) ?_
  refine lv_bipush (v := (40 : Int32)) hx hb dX4_init_69 (by decide) ?_
  refine q_newi (n := (40 : Int32)) (N' := 40) hx hb (hts (.arrayClass .int) (by decide +kernel)) hK hP hD hS hA (by decide) (by decide) (Nat.le_of_ble_eq_true rfl) (Nat.le_of_ble_eq_true rfl) (Nat.le_of_ble_eq_true rfl) dX4_init_71 (fun q9 H hP hD hS => ?_)
  have hP : va_P D vwCl [(h0, .inr (3, [.int 0, .int 0, .int 0, .ref q1, .int 0, .ref q2, .ref q3, .ref q4, .ref q5, .ref q6, .ref q7, .ref q8, .null])), (q1, .inl (c6, 17, .inl (fun _ => 0))), (q2, .inl (c6, 7, .inl (fun _ => 0))), (q3, .inl (c6, 7, .inl (fun _ => 0))), (q4, .inl (c6, 7, .inl (fun _ => 0))), (q5, .inl (c6, 7, .inl (fun _ => 0))), (q6, .inl (c6, 7, .inl (fun _ => 0))), (q7, .inl (c6, 40, .inl (fun _ => 0))), (q8, .inl (c6, 40, .inl (fun _ => 0))), (q9, .inl (c6, 40, .inl (fun _ => 0)))] H := hP
  have hD : va_D A [(h0, .inr (3, [.int 0, .int 0, .int 0, .ref q1, .int 0, .ref q2, .ref q3, .ref q4, .ref q5, .ref q6, .ref q7, .ref q8, .null])), (q1, .inl (c6, 17, .inl (fun _ => 0))), (q2, .inl (c6, 7, .inl (fun _ => 0))), (q3, .inl (c6, 7, .inl (fun _ => 0))), (q4, .inl (c6, 7, .inl (fun _ => 0))), (q5, .inl (c6, 7, .inl (fun _ => 0))), (q6, .inl (c6, 7, .inl (fun _ => 0))), (q7, .inl (c6, 40, .inl (fun _ => 0))), (q8, .inl (c6, 40, .inl (fun _ => 0))), (q9, .inl (c6, 40, .inl (fun _ => 0)))] := hD
  refine W.widen (k := 9) (n := 172) (by omega) (by omega) ?_
  refine va_putF (D := D) (ci := 3) (v := .ref q9) (ty := .array .int) (C := RX4) (T := TX4) (N := 13) hx hb hts hinX4 tyX4 tyX4_ok nmX4 hown hK hP hD hS 0 rfl rfl 12 (by decide) (hts (.fieldLink RX4 36 "LoafParts$Table" "deedSize" "[I") (by decide +kernel)) (fun _ h9 => h9) rfl hin rfl (by decide +kernel) rfl rfl (Nat.le_of_ble_eq_true rfl) dX4_init_73 (fun H locs hP hD hS => ?_)
  have hP : va_P D vwCl [(h0, .inr (3, [.int 0, .int 0, .int 0, .ref q1, .int 0, .ref q2, .ref q3, .ref q4, .ref q5, .ref q6, .ref q7, .ref q8, .ref q9])), (q1, .inl (c6, 17, .inl (fun _ => 0))), (q2, .inl (c6, 7, .inl (fun _ => 0))), (q3, .inl (c6, 7, .inl (fun _ => 0))), (q4, .inl (c6, 7, .inl (fun _ => 0))), (q5, .inl (c6, 7, .inl (fun _ => 0))), (q6, .inl (c6, 7, .inl (fun _ => 0))), (q7, .inl (c6, 40, .inl (fun _ => 0))), (q8, .inl (c6, 40, .inl (fun _ => 0))), (q9, .inl (c6, 40, .inl (fun _ => 0)))] H := hP
  have hD : va_D A [(h0, .inr (3, [.int 0, .int 0, .int 0, .ref q1, .int 0, .ref q2, .ref q3, .ref q4, .ref q5, .ref q6, .ref q7, .ref q8, .ref q9])), (q1, .inl (c6, 17, .inl (fun _ => 0))), (q2, .inl (c6, 7, .inl (fun _ => 0))), (q3, .inl (c6, 7, .inl (fun _ => 0))), (q4, .inl (c6, 7, .inl (fun _ => 0))), (q5, .inl (c6, 7, .inl (fun _ => 0))), (q6, .inl (c6, 7, .inl (fun _ => 0))), (q7, .inl (c6, 40, .inl (fun _ => 0))), (q8, .inl (c6, 40, .inl (fun _ => 0))), (q9, .inl (c6, 40, .inl (fun _ => 0)))] := hD
  exact W.vret hx hb hr (fun t ht hW => ⟨⟨(q1, q2, q3, q4, q5, q6, q7, q8, q9), rfl, trivial, by rw [ht]; exact hP, hD⟩, hS.F ht⟩) hS.2.2 dX4_init_76
