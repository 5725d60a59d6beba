/-! the constructors: rows -/
abbrev tys3 (c6 c7 c8 : ClassId) : List (ClassId × FieldType) := [(c6, .int), (c7, .byte), (c8, .object "LoafParts$Table")]
section NW
variable {p : Program} {l : Launch} {e : Env} {R : Room} {s : State} {m : MethodId} {args : Array Value} {below : List Frame} {meth : Method} {c : Code} {H : Heap} {locs : List Loc} {cells slots : Nat} {Q : State → Prop}
variable {cc : ByteArray} {pc : Nat} {ls : Array Slot} {rest : List Value} {D : va_G} {cl : List vw_C} {ws : va_W} {A : Nat → Prop} {H0 : Heap} {c6 c7 c8 : ClassId}
theorem q_newi (hexec : p.tables.exec = Jvm.exec) (hb : c.code = cc) (harr : (Cond.arrayClass .int).before args s = true) (hK : va_K D cl (tys3 c6 c7 c8) s) (hP : va_P D cl ws H) (hD : va_D A ws) (hS : va_S A H0 H locs) (hA : ∀ q, H0.size ≤ q → A q) {n : Int32} {N' : Nat} (hn : ¬ n < 0) (hN : n.toNatClampNeg = N') (hbytes : N' * componentBytes .int ≤ 536870912) (hcells : cells + 1 ≤ R.cells) (hslots : slots + N' ≤ R.slots) (hdg : decode cc pc = .ok (.newarray .int, 2))
    (kk : ∀ (q : Nat) (H1 : Heap), va_P D cl (ws ++ [(q, .inl (c6, N', .inl (fun _ => 0)))]) H1 → va_D A (ws ++ [(q, .inl (c6, N', .inl (fun _ => 0)))]) → va_S A H0 H1 locs → W p l e R s m args below meth c H1 locs (cells + 1) (slots + N') Q (F0 m (pc + 2) ls (.ref q :: rest))) : W p l e R s m args below meth c H locs cells slots Q (F0 m pc ls (.int n :: rest)) := by
  refine va_newa (atype := .int) (ty := .int) (a0 := (N', .inl (fun _ => 0))) hexec hb harr rfl hK hP hD hS hA (fun _ => rfl) hn hN hbytes hcells hslots hdg (fun q cA H1 hK1 hP1 hD1 hS1 => ?_)
  have h1 : s.vm.findClass ("[" ++ FieldType.int.toString) = some cA := (hK1.2 3 (cA, .int) rfl).2
  have h2 : s.vm.findClass ("[" ++ FieldType.int.toString) = some c6 := (hK.2 0 (c6, .int) rfl).2
  obtain rfl : cA = c6 := Option.some.inj (h1.symm.trans h2)
  exact kk q H1 hP1 hD1 hS1
theorem q_newb (hexec : p.tables.exec = Jvm.exec) (hb : c.code = cc) (harr : (Cond.arrayClass .byte).before args s = true) (hK : va_K D cl (tys3 c6 c7 c8) s) (hP : va_P D cl ws H) (hD : va_D A ws) (hS : va_S A H0 H locs) (hA : ∀ q, H0.size ≤ q → A q) {n : Int32} {N' : Nat} (hn : ¬ n < 0) (hN : n.toNatClampNeg = N') (hbytes : N' * componentBytes .byte ≤ 536870912) (hcells : cells + 1 ≤ R.cells) (hslots : slots + N' ≤ R.slots) (hdg : decode cc pc = .ok (.newarray .byte, 2))
    (kk : ∀ (q : Nat) (H1 : Heap), va_P D cl (ws ++ [(q, .inl (c7, N', .inl (fun _ => 0)))]) H1 → va_D A (ws ++ [(q, .inl (c7, N', .inl (fun _ => 0)))]) → va_S A H0 H1 locs → W p l e R s m args below meth c H1 locs (cells + 1) (slots + N') Q (F0 m (pc + 2) ls (.ref q :: rest))) : W p l e R s m args below meth c H locs cells slots Q (F0 m pc ls (.int n :: rest)) := by
  refine va_newa (atype := .byte) (ty := .byte) (a0 := (N', .inl (fun _ => 0))) hexec hb harr rfl hK hP hD hS hA (fun _ => rfl) hn hN hbytes hcells hslots hdg (fun q cA H1 hK1 hP1 hD1 hS1 => ?_)
  have h1 : s.vm.findClass ("[" ++ FieldType.byte.toString) = some cA := (hK1.2 3 (cA, .byte) rfl).2
  have h2 : s.vm.findClass ("[" ++ FieldType.byte.toString) = some c7 := (hK.2 1 (c7, .byte) rfl).2
  obtain rfl : cA = c7 := Option.some.inj (h1.symm.trans h2)
  exact kk q H1 hP1 hD1 hS1
theorem q_newq {own : String} {index : Nat} (hexec : p.tables.exec = Jvm.exec) (hb : c.code = cc) (hown : s.vm.findClass own = some m.cls) (hclink : (Cond.classLink own index "LoafParts$Table").before args s = true) (hover : va_AO "LoafParts$Table" s) (hK : va_K D cl (tys3 c6 c7 c8) s) (hP : va_P D cl ws H) (hD : va_D A ws) (hS : va_S A H0 H locs) (hA : ∀ q, H0.size ≤ q → A q) {n : Int32} {N' : Nat} (hn : ¬ n < 0) (hN : n.toNatClampNeg = N') (hbytes : N' * 4 ≤ 536870912) (hcells : cells + 1 ≤ R.cells) (hslots : slots + N' ≤ R.slots) (hdg : decode cc pc = .ok (.anewarray index, 3))
    (kk : ∀ (q : Nat) (H1 : Heap), va_P D cl (ws ++ [(q, .inl (c8, N', .inr (.inr (.inr (.inr (fun _ => none))))))]) H1 → va_D A (ws ++ [(q, .inl (c8, N', .inr (.inr (.inr (.inr (fun _ => none))))))]) → va_S A H0 H1 locs → W p l e R s m args below meth c H1 locs (cells + 1) (slots + N') Q (F0 m (pc + 3) ls (.ref q :: rest))) : W p l e R s m args below meth c H locs cells slots Q (F0 m pc ls (.int n :: rest)) := by
  refine va_newq hexec hb hown hclink hover hK hP hD hS hA hn hN hbytes hcells hslots hdg (fun q cA H1 hK1 hP1 hD1 hS1 => ?_)
  obtain ⟨k1, k2, -, -, -, h1⟩ := (hK1.2 3 (cA, .object "LoafParts$Table") rfl).2
  obtain ⟨k3, k4, -, -, -, h2⟩ := (hK.2 2 (c8, .object "LoafParts$Table") rfl).2
  obtain rfl : cA = c8 := Option.some.inj (h1.symm.trans h2)
  exact kk q H1 hP1 hD1 hS1
end NW
theorem arrV_cong {cA : ClassId} {n : Nat} {f g : Nat → Value} (h : ∀ j, j < n → f j = g j) : arrV cA n f = arrV cA n g := by
  have : (fun j : Fin n => f j.val) = (fun j : Fin n => g j.val) := funext fun j => h j.val j.isLt
  unfold arrV
  rw [this]
/-- an array of references, its contents told otherwise -/
theorem va_P_swap {D : va_G} {cl : List vw_C} {ws : va_W} {H : Heap} (h : va_P D cl ws H) {k a n : Nat} {cA : ClassId} {f g : Nat → Option Nat} (hk : ws[k]? = some (a, .inl (cA, n, .inr (.inr (.inr (.inr f)))))) (he : ∀ j, j < n → f j = g j) : va_P D cl (ws.set k (a, .inl (cA, n, .inr (.inr (.inr (.inr g)))))) H := by
  intro i q hi
  rw [List.getElem?_set] at hi
  by_cases e : k = i
  · rw [if_pos e] at hi
    split at hi
    · cases hi
      have := h k _ hk
      have e2 : vp_cell cA (n, .inr (.inr (.inr (.inr f)))) = vp_cell cA (n, .inr (.inr (.inr (.inr g)))) := by
        rw [vp_cell_q, vp_cell_q]
        exact arrV_cong (fun j hj => by show va_rf (f j) = va_rf (g j); rw [he j hj])
      show H[a]? = some (vp_cell cA (n, .inr (.inr (.inr (.inr g)))))
      rw [← e2]
      exact this
    · cases hi
  · rw [if_neg e] at hi
    exact h i q hi
theorem cs_len {ad : Nat → Nat} {cA : Nat → ClassId} {lo n : Nat} {u : UU} : (cs ad cA lo n u).length = n := by simp [cs]
theorem cs_get {ad : Nat → Nat} {cA : Nat → ClassId} {lo n : Nat} {u : UU} {k : Nat} {q : Nat × va_E} (h : (cs ad cA lo n u)[k]? = some q) : k < n ∧ q = (ad (lo + k), cellOf ad cA u (lo + k)) := by
  have hk : k < n := by
    have := (List.getElem?_eq_some_iff.mp h).1
    rwa [cs_len] at this
  have := cs_at (ad := ad) (cA := cA) (lo := lo) (n := n) (u := u) (k := lo + k) ⟨by omega, by omega⟩
  rw [show lo + k - lo = k by omega, h] at this
  exact ⟨hk, Option.some.inj this⟩
/-- the addresses are apart, whatever lies there -/
theorem cs_D {ad : Nat → Nat} {cA : Nat → ClassId} {lo n : Nat} {u : UU} {A : Nat → Prop} (h : va_D A (cs ad cA lo n u)) (u' : UU) : va_D A (cs ad cA lo n u') := by
  refine ⟨fun i j p q hi hj e => ?_, fun k q hk => ?_⟩
  · obtain ⟨i1, rfl⟩ := cs_get hi
    obtain ⟨j1, rfl⟩ := cs_get hj
    have a1 := cs_at (ad := ad) (cA := cA) (lo := lo) (n := n) (u := u) (k := lo + i) ⟨by omega, by omega⟩
    have a2 := cs_at (ad := ad) (cA := cA) (lo := lo) (n := n) (u := u) (k := lo + j) ⟨by omega, by omega⟩
    rw [show lo + i - lo = i by omega] at a1
    rw [show lo + j - lo = j by omega] at a2
    exact h.1 i j _ _ a1 a2 e
  · obtain ⟨k1, rfl⟩ := cs_get hk
    have a1 := cs_at (ad := ad) (cA := cA) (lo := lo) (n := n) (u := u) (k := lo + k) ⟨by omega, by omega⟩
    rw [show lo + k - lo = k by omega] at a1
    exact h.2 k (ad (lo + k), cellOf ad cA u (lo + k)) a1
def cA3 (c6 c7 c8 : ClassId) : Nat → ClassId := fun k => match k with
  | 6 => c6
  | 7 => c7
  | _ => c8
/-- the class's start, and the model's -/
def IniC (u : UU) : Prop := (∀ k j, ¬ (k = 2 ∨ k = 5) → ¬ ((k = 1 ∨ k = 4) ∧ j = 0) → ui u k j = 0) ∧ (∀ j, j < 6 → ui u 2 j = -1) ∧ (∀ j, j < 4 → ui u 5 j = -1) ∧ ui u 1 0 = 40 ∧ ui u 4 0 = 60 ∧ (∀ k j, ¬ (k = 0 ∧ j = 11) → ul u k j = 0) ∧ ul u 0 11 = 1
def IniM (u : UU) : Prop := (∀ k j, ¬ (k = 57 ∨ k = 60 ∨ k = 70) → ui u k j = 0) ∧ (∀ j, j < 6 → ui u 57 j = -1) ∧ (∀ j, j < 4 → ui u 60 j = -1) ∧ (∀ j, j < 3 → ui u 70 j = -1) ∧ (∀ k j, ¬ (k = 55 ∧ j = 2) → ul u k j = 0) ∧ ul u 55 2 = 1
