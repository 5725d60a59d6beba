/-! the nest's words -/
set_option maxRecDepth 20000 in
theorem nf_in : ∀ w ∈ NF.map (fun q => Cond.fieldLinkNest q.1 q.2.1 q.2.2.1 q.2.2.2.1 q.2.2.2.2 "LoafParts"), w ∈ lw_tbl := mem_r _ [121, 131, 129, 127, 135, 123, 125, 137, 177, 179, 181, 183, 102, 100, 94, 96, 98] (by decide +kernel)
set_option maxRecDepth 20000 in
theorem nm_in : ∀ w ∈ NM.map (fun q => Cond.methodLinkNest q.1 q.2.1 q.2.2 "LoafParts"), w ∈ lw_tbl := mem_r _ [622, 560, 561, 456, 465, 89, 116, 171] (by decide +kernel)
theorem lw_cn {s : State} {args : Array Value} (hts : ∀ w ∈ lw_tbl, w.before args s = true) : Cn s := ⟨fun q hq => va_Nw.of rfl (hts _ (nf_in _ (List.mem_map.mpr ⟨q, hq, rfl⟩))), fun q hq => va_Nw.of rfl (hts _ (nm_in _ (List.mem_map.mpr ⟨q, hq, rfl⟩)))⟩
/-- the two static rows -/
theorem lw_cz {s : State} {b : Nat} (hts : ∀ w ∈ lw_tbl, w.before #[Value.ref b] s = true) (hgv : (Jvm.Cond.and given_1 narrow_1).before #[Value.ref b] s = true) : ∃ tO tC : Nat, ∀ (D : va_G) (a1 : Nat → Nat) (cA : Nat → ClassId), Cz (gL D a1 cA s tO tC) s s.heap := by
  have hs := flat_of_before _ hgv
  have hA : ∀ a : Nat, a < s.heap.size → ¬ (fun q : Nat => s.heap.size ≤ q) a := fun a h => Nat.not_le.mpr h
  obtain ⟨tO, hO1, hO2⟩ := va_Tof (args := #[Value.ref b]) (s := s) (tm := (Term.static "LoafParts$Makeup" "ORDER" "[I")) (ty := .int) (N := 15) (f := fun j => .int (ordF j)) (A := fun q : Nat => s.heap.size ≤ q) (by decide) (hs (.arrayOf (Term.static "LoafParts$Makeup" "ORDER" "[I") .int) (by decide +kernel)) (va_eqt (hs (.eq (.length (Term.static "LoafParts$Makeup" "ORDER" "[I")) (.int 15)) (by decide +kernel))) (fun j hj => by
    rcases (show j = 0 ∨ j = 1 ∨ j = 2 ∨ j = 3 ∨ j = 4 ∨ j = 5 ∨ j = 6 ∨ j = 7 ∨ j = 8 ∨ j = 9 ∨ j = 10 ∨ j = 11 ∨ j = 12 ∨ j = 13 ∨ j = 14 by omega) with rfl | rfl | rfl | rfl | rfl | rfl | rfl | rfl | rfl | rfl | rfl | rfl | rfl | rfl | rfl
    · exact va_eqt (hs (.eq (.elem (Term.static "LoafParts$Makeup" "ORDER" "[I") (.int 0)) (.int 11)) (by decide +kernel))
    · exact va_eqt (hs (.eq (.elem (Term.static "LoafParts$Makeup" "ORDER" "[I") (.int 1)) (.int 13)) (by decide +kernel))
    · exact va_eqt (hs (.eq (.elem (Term.static "LoafParts$Makeup" "ORDER" "[I") (.int 2)) (.int 9)) (by decide +kernel))
    · exact va_eqt (hs (.eq (.elem (Term.static "LoafParts$Makeup" "ORDER" "[I") (.int 3)) (.int 7)) (by decide +kernel))
    · exact va_eqt (hs (.eq (.elem (Term.static "LoafParts$Makeup" "ORDER" "[I") (.int 4)) (.int 14)) (by decide +kernel))
    · exact va_eqt (hs (.eq (.elem (Term.static "LoafParts$Makeup" "ORDER" "[I") (.int 5)) (.int 16)) (by decide +kernel))
    · exact va_eqt (hs (.eq (.elem (Term.static "LoafParts$Makeup" "ORDER" "[I") (.int 6)) (.int 8)) (by decide +kernel))
    · exact va_eqt (hs (.eq (.elem (Term.static "LoafParts$Makeup" "ORDER" "[I") (.int 7)) (.int 5)) (by decide +kernel))
    · exact va_eqt (hs (.eq (.elem (Term.static "LoafParts$Makeup" "ORDER" "[I") (.int 8)) (.int 10)) (by decide +kernel))
    · exact va_eqt (hs (.eq (.elem (Term.static "LoafParts$Makeup" "ORDER" "[I") (.int 9)) (.int 15)) (by decide +kernel))
    · exact va_eqt (hs (.eq (.elem (Term.static "LoafParts$Makeup" "ORDER" "[I") (.int 10)) (.int 4)) (by decide +kernel))
    · exact va_eqt (hs (.eq (.elem (Term.static "LoafParts$Makeup" "ORDER" "[I") (.int 11)) (.int 12)) (by decide +kernel))
    · exact va_eqt (hs (.eq (.elem (Term.static "LoafParts$Makeup" "ORDER" "[I") (.int 12)) (.int 3)) (by decide +kernel))
    · exact va_eqt (hs (.eq (.elem (Term.static "LoafParts$Makeup" "ORDER" "[I") (.int 13)) (.int 6)) (by decide +kernel))
    · exact va_eqt (hs (.eq (.elem (Term.static "LoafParts$Makeup" "ORDER" "[I") (.int 14)) (.int 2)) (by decide +kernel))
    ) hA
  obtain ⟨tC, hC1, hC2⟩ := va_Tof (args := #[Value.ref b]) (s := s) (tm := (Term.static "LoafParts$Makeup" "COMMON" "[I")) (ty := .int) (N := 15) (f := fun j => .int (comF j)) (A := fun q : Nat => s.heap.size ≤ q) (by decide) (hs (.arrayOf (Term.static "LoafParts$Makeup" "COMMON" "[I") .int) (by decide +kernel)) (va_eqt (hs (.eq (.length (Term.static "LoafParts$Makeup" "COMMON" "[I")) (.int 15)) (by decide +kernel))) (fun j hj => by
    rcases (show j = 0 ∨ j = 1 ∨ j = 2 ∨ j = 3 ∨ j = 4 ∨ j = 5 ∨ j = 6 ∨ j = 7 ∨ j = 8 ∨ j = 9 ∨ j = 10 ∨ j = 11 ∨ j = 12 ∨ j = 13 ∨ j = 14 by omega) with rfl | rfl | rfl | rfl | rfl | rfl | rfl | rfl | rfl | rfl | rfl | rfl | rfl | rfl | rfl
    · exact va_eqt (hs (.eq (.elem (Term.static "LoafParts$Makeup" "COMMON" "[I") (.int 0)) (.int 1)) (by decide +kernel))
    · exact va_eqt (hs (.eq (.elem (Term.static "LoafParts$Makeup" "COMMON" "[I") (.int 1)) (.int 11)) (by decide +kernel))
    · exact va_eqt (hs (.eq (.elem (Term.static "LoafParts$Makeup" "COMMON" "[I") (.int 2)) (.int 143)) (by decide +kernel))
    · exact va_eqt (hs (.eq (.elem (Term.static "LoafParts$Makeup" "COMMON" "[I") (.int 3)) (.int 429)) (by decide +kernel))
    · exact va_eqt (hs (.eq (.elem (Term.static "LoafParts$Makeup" "COMMON" "[I") (.int 4)) (.int 429)) (by decide +kernel))
    · exact va_eqt (hs (.eq (.elem (Term.static "LoafParts$Makeup" "COMMON" "[I") (.int 5)) (.int 3003)) (by decide +kernel))
    · exact va_eqt (hs (.eq (.elem (Term.static "LoafParts$Makeup" "COMMON" "[I") (.int 6)) (.int 6006)) (by decide +kernel))
    · exact va_eqt (hs (.eq (.elem (Term.static "LoafParts$Makeup" "COMMON" "[I") (.int 7)) (.int 12012)) (by decide +kernel))
    · exact va_eqt (hs (.eq (.elem (Term.static "LoafParts$Makeup" "COMMON" "[I") (.int 8)) (.int 12012)) (by decide +kernel))
    · exact va_eqt (hs (.eq (.elem (Term.static "LoafParts$Makeup" "COMMON" "[I") (.int 9)) (.int 12012)) (by decide +kernel))
    · exact va_eqt (hs (.eq (.elem (Term.static "LoafParts$Makeup" "COMMON" "[I") (.int 10)) (.int 60060)) (by decide +kernel))
    · exact va_eqt (hs (.eq (.elem (Term.static "LoafParts$Makeup" "COMMON" "[I") (.int 11)) (.int 60060)) (by decide +kernel))
    · exact va_eqt (hs (.eq (.elem (Term.static "LoafParts$Makeup" "COMMON" "[I") (.int 12)) (.int 120120)) (by decide +kernel))
    · exact va_eqt (hs (.eq (.elem (Term.static "LoafParts$Makeup" "COMMON" "[I") (.int 13)) (.int 120120)) (by decide +kernel))
    · exact va_eqt (hs (.eq (.elem (Term.static "LoafParts$Makeup" "COMMON" "[I") (.int 14)) (.int 360360)) (by decide +kernel))
    ) hA
  refine ⟨tO, tC, fun D a1 cA => ⟨va_Zof (hts (.laysStatic "LoafParts$Makeup" "ORDER" "[I") (List.mem_of_getElem? (i := 557) (by decide +kernel))) (hts (.initialized "LoafParts$Makeup") (List.mem_of_getElem? (i := 54) (by decide +kernel))) hO1 hA, hO2, va_Zof (hts (.laysStatic "LoafParts$Makeup" "COMMON" "[I") (List.mem_of_getElem? (i := 559) (by decide +kernel))) (hts (.initialized "LoafParts$Makeup") (List.mem_of_getElem? (i := 54) (by decide +kernel))) hC1 hA, hC2⟩⟩
/-- the classes, known -/
theorem lw_known {s : State} {args : Array Value} (hts : ∀ w ∈ lw_tbl, w.before args s = true) : ∃ (D : va_G) (c6 c7 c8 : ClassId), va_K D vwCl (tys3 c6 c7 c8) s := by
  obtain ⟨d0, i0, k0⟩ := u_known (C := RX1) (T := TX1) (N := 5) (n := 5) hts lwi_X1 (hts (.instantiable RX1 5) (List.mem_of_getElem? (i := 170) (by decide +kernel)))
  obtain ⟨d1, i1, k1⟩ := u_known (C := RX2) (T := TX2) (N := 5) (n := 5) hts lwi_X2 (hts (.instantiable RX2 5) (List.mem_of_getElem? (i := 88) (by decide +kernel)))
  obtain ⟨d2, i2, k2⟩ := u_known (C := RX3) (T := TX3) (N := 3) (n := 3) hts lwi_X3 (hts (.instantiable RX3 3) (List.mem_of_getElem? (i := 68) (by decide +kernel)))
  obtain ⟨d3, i3, k3⟩ := u_known (C := RX4) (T := TX4) (N := 13) (n := 13) hts lwi_X4 (hts (.instantiable RX4 13) (List.mem_of_getElem? (i := 115) (by decide +kernel)))
  obtain ⟨d4, i4, k4⟩ := u_known (C := RX5) (T := TX5) (N := 12) (n := 12) hts lwi_X5 (hts (.instantiable RX5 12) (List.mem_of_getElem? (i := 60) (by decide +kernel)))
  obtain ⟨d5, i5, k5⟩ := u_known (C := RX6) (T := TX6) (N := 34) (n := 34) hts lwi_X6 (hts (.instantiable RX6 34) (List.mem_of_getElem? (i := 752) (by decide +kernel)))
  obtain ⟨c6, kA6, comp6, p1, p2, p3⟩ := Cond.arrayClass_spec (hts (.arrayClass .int) (List.mem_of_getElem? (i := 86) (by decide +kernel)))
  obtain ⟨c7, kA7, comp7, q1, q2, q3⟩ := Cond.arrayClass_spec (hts (.arrayClass .byte) (List.mem_of_getElem? (i := 861) (by decide +kernel)))
  obtain ⟨comp8, c8, kA8, r1, r2, r3, r4, r5⟩ := Cond.arrayOver_spec (hts (.arrayOver (.object "LoafParts$Table")) (List.mem_of_getElem? (i := 168) (by decide +kernel)))
  refine ⟨(fun k => match k with | 0 => d0 | 1 => d1 | 2 => d2 | 3 => d3 | 4 => d4 | _ => d5, fun k => match k with | 0 => i0 | 1 => i1 | 2 => i2 | 3 => i3 | 4 => i4 | _ => i5), c6, c7, c8, ?_, ?_⟩
  · intro k q hq
    match k, hq with
    | 0, hq => cases hq; exact k0
    | 1, hq => cases hq; exact k1
    | 2, hq => cases hq; exact k2
    | 3, hq => cases hq; exact k3
    | 4, hq => cases hq; exact k4
    | 5, hq => cases hq; exact k5
    | k + 6, hq => simp [vwCl] at hq
  · intro k q hq
    match k, hq with
    | 0, hq => cases hq; exact ⟨fun n z => ⟨fun k h => (by cases h), kA6, p2, comp6, p3⟩, p1⟩
    | 1, hq => cases hq; exact ⟨fun n z => ⟨fun k h => (by cases h), kA7, q2, comp7, q3⟩, q1⟩
    | 2, hq => cases hq; exact ⟨fun n z => ⟨fun k h => (by cases h), kA8, r3, comp8, r4⟩, kA8, comp8, r3, r4, r1, r5⟩
    | k + 3, hq => simp [tys3] at hq
