/-! the pure state: ints and longs of each cell, by the cell's number and the slot's -/
abbrev UU : Type := (Nat → Nat → Int32) × (Nat → Nat → Int64)
def ui (u : UU) (k j : Nat) : Int32 := u.1 k j
def ul (u : UU) (k j : Nat) : Int64 := u.2 k j
def si (u : UU) (k j : Nat) (v : Int32) : UU := (fun a b => if a = k ∧ b = j then v else u.1 a b, u.2)
def sl (u : UU) (k j : Nat) (v : Int64) : UU := (u.1, fun a b => if a = k ∧ b = j then v else u.2 a b)
def sc (u : UU) (k0 sp k1 dp n : Nat) : UU := (fun a b => if a = k1 ∧ dp ≤ b ∧ b < dp + n then u.1 k0 (sp + (b - dp)) else u.1 a b, u.2)
/-! the words of the pure functions -/
def lt {α β : Type} (e : α) (f : α → β) : β := f e
def ix {α : Type} (i : Int32) (n : Nat) (x : Option α) : Option α := if i < 0 ∨ n ≤ i.toNatClampNeg then none else x
def nz {α : Type} (y : Int32) (x : Option α) : Option α := if y = 0 then none else x
def nzl {α : Type} (y : Int64) (x : Option α) : Option α := if y = 0 then none else x
def bz {α : Type} (v : Int32) (x : Option α) : Option α := if v = 0 ∨ v = 1 then x else none
def cpk {α : Type} (sp : Int32) (n0 : Nat) (dp : Int32) (n1 : Nat) (n : Int32) (x : Option α) : Option α := if sp < 0 ∨ dp < 0 ∨ n < 0 ∨ n0 < sp.toNatClampNeg + n.toNatClampNeg ∨ n1 < dp.toNatClampNeg + n.toNatClampNeg then none else x
def fu : Nat := 100000
theorem lt_ex {α β : Type} {e : α} {f : α → β} {r : β} (h : lt e f = r) : ∃ x, x = e ∧ f x = r := ⟨e, rfl, h⟩
theorem ix_ex {α : Type} {i : Int32} {n : Nat} {x : Option α} {r : α} (h : ix i n x = some r) : vp_in i n ∧ x = some r := by
  unfold ix at h
  split at h
  · cases h
  · exact ⟨by assumption, h⟩
theorem nz_ex {α : Type} {i : Int32} {x : Option α} {r : α} (h : nz i x = some r) : ¬ i = 0 ∧ x = some r := by
  unfold nz at h
  split at h
  · cases h
  · exact ⟨by assumption, h⟩
theorem nzl_ex {α : Type} {i : Int64} {x : Option α} {r : α} (h : nzl i x = some r) : ¬ i = 0 ∧ x = some r := by
  unfold nzl at h
  split at h
  · cases h
  · exact ⟨by assumption, h⟩
theorem bz_ex {α : Type} {i : Int32} {x : Option α} {r : α} (h : bz i x = some r) : (narrow .boolean (.int i) = .int i ∧ fits .boolean (.int i) = true) ∧ x = some r := by
  unfold bz at h
  split at h
  · rename_i q
    refine ⟨?_, h⟩
    rcases q with rfl | rfl <;> exact ⟨rfl, rfl⟩
  · cases h
theorem cpk_ex {α : Type} {sp dp n : Int32} {n0 n1 : Nat} {x : Option α} {r : α} (h : cpk sp n0 dp n1 n x = some r) : (¬ sp < 0 ∧ ¬ dp < 0 ∧ ¬ n < 0 ∧ sp.toNatClampNeg + n.toNatClampNeg ≤ n0 ∧ dp.toNatClampNeg + n.toNatClampNeg ≤ n1) ∧ x = some r := by
  unfold cpk at h
  split at h
  · cases h
  · rename_i q
    refine ⟨⟨fun z => q (Or.inl z), fun z => q (Or.inr (Or.inl z)), fun z => q (Or.inr (Or.inr (Or.inl z))), ?_, ?_⟩, h⟩
    · exact Nat.not_lt.mp fun z => q (Or.inr (Or.inr (Or.inr (Or.inl z))))
    · exact Nat.not_lt.mp fun z => q (Or.inr (Or.inr (Or.inr (Or.inr z))))
theorem bind_ex {α β : Type} {x : Option α} {f : α → Option β} {r : β} (h : x.bind f = some r) : ∃ q, x = some q ∧ f q = some r := by
  cases x with
  | none => cases h
  | some q => exact ⟨q, rfl, h⟩
theorem sp2 {α β : Type} {a c : α} {b d : β} (h : some (a, b) = some (c, d)) : c = a ∧ d = b := by
  cases h
  exact ⟨rfl, rfl⟩
theorem sp1 {α : Type} {a c : α} (h : some a = some c) : c = a := by
  cases h
  rfl
/-! the cells -/
def shp (k : Nat) : Nat × Nat := match k with
  | 0 => (4, 0) | 1 => (2, 0) | 2 => (6, 6) | 3 => (6, 240) | 4 => (2, 0) | 5 => (6, 4) | 6 => (6, 240)
  | 7 => (1, 0) | 8 => (6, 7) | 9 => (6, 7) | 10 => (6, 7)
  | 11 => (3, 0) | 12 => (6, 17) | 13 => (6, 7) | 14 => (6, 7) | 15 => (6, 7) | 16 => (6, 7) | 17 => (6, 7) | 18 => (6, 40) | 19 => (6, 40) | 20 => (6, 40)
  | 21 => (8, 3)
  | 22 => (3, 0) | 23 => (6, 17) | 24 => (6, 7) | 25 => (6, 7) | 26 => (6, 7) | 27 => (6, 7) | 28 => (6, 7) | 29 => (6, 40) | 30 => (6, 40) | 31 => (6, 40)
  | 32 => (3, 0) | 33 => (6, 17) | 34 => (6, 7) | 35 => (6, 7) | 36 => (6, 7) | 37 => (6, 7) | 38 => (6, 7) | 39 => (6, 40) | 40 => (6, 40) | 41 => (6, 40)
  | 42 => (3, 0) | 43 => (6, 17) | 44 => (6, 7) | 45 => (6, 7) | 46 => (6, 7) | 47 => (6, 7) | 48 => (6, 7) | 49 => (6, 40) | 50 => (6, 40) | 51 => (6, 40)
  | 52 => (0, 0) | 53 => (6, 17) | 54 => (6, 6)
  | 55 => (5, 0) | 56 => (6, 6) | 57 => (6, 6) | 58 => (6, 240) | 59 => (6, 40) | 60 => (6, 4) | 61 => (7, 480)
  | 62 => (6, 7) | 63 => (6, 7) | 64 => (6, 7) | 65 => (6, 7) | 66 => (6, 7) | 67 => (6, 7) | 68 => (6, 25) | 69 => (6, 1000) | 70 => (6, 3) | 71 => (6, 3075)
  | 72 => (6, 17) | 73 => (6, 65536) | _ => (6, 17)
def fl (ad : Nat → Nat) (u : UU) (ci k : Nat) : List Value := match ci with
  | 0 => [.int (ui u k 0), .int (ui u k 1), .int (ui u k 2), .int (ui u k 3), .int (ui u k 4)]
  | 1 => [.ref (ad (k + 1)), .ref (ad (k + 2)), .ref (ad (k + 3)), .int (ui u k 3), .int (ui u k 4)]
  | 2 => [.int (ui u k 0), .ref (ad (k + 1)), .ref (ad (k + 2))]
  | 3 => [.int (ui u k 0), .int (ui u k 1), .int (ui u k 2), .ref (ad (k + 1)), .int (ui u k 4), .ref (ad (k + 2)), .ref (ad (k + 3)), .ref (ad (k + 4)), .ref (ad (k + 5)), .ref (ad (k + 6)), .ref (ad (k + 7)), .ref (ad (k + 8)), .ref (ad (k + 9))]
  | 4 => [.ref (ad 1), .ref (ad 4), .ref (ad 7), .ref (ad 11), .ref (ad 21), .ref (ad 52), .ref (ad 53), .ref (ad 54), .int (ui u k 8), .int (ui u k 9), .long (ul u k 10), .long (ul u k 11)]
  | _ => [.int (ui u k 0), .long (ul u k 1), .long (ul u k 2), .int (ui u k 3), .ref (ad 56), .ref (ad 57), .ref (ad 58), .ref (ad 59), .ref (ad 60), .ref (ad 61), .int (ui u k 10), .int (ui u k 11), .int (ui u k 12), .int (ui u k 13), .ref (ad 62), .ref (ad 63), .ref (ad 64), .int (ui u k 17), .ref (ad 65), .ref (ad 66), .ref (ad 67), .ref (ad 68), .int (ui u k 22), .ref (ad 69), .ref (ad 70), .ref (ad 71), .int (ui u k 26), .int (ui u k 27), .int (ui u k 28), .int (ui u k 29), .ref (ad 72), .ref (ad 73), .ref (ad 74), .long (ul u k 33)]
def cellOf (ad : Nat → Nat) (cA : Nat → ClassId) (u : UU) (k : Nat) : va_E :=
  if (shp k).1 < 6 then .inr ((shp k).1, fl ad u (shp k).1 k)
  else if (shp k).1 = 8 then .inl (cA 8, ((shp k).2, .inr (.inr (.inr (.inr (fun j => some (ad (22 + 10 * j))))))))
  else .inl (cA (shp k).1, ((shp k).2, .inl (ui u k)))
def cs (ad : Nat → Nat) (cA : Nat → ClassId) (lo n : Nat) (u : UU) : va_W := (List.range n).map (fun i => (ad (lo + i), cellOf ad cA u (lo + i)))
theorem cs_at {ad : Nat → Nat} {cA : Nat → ClassId} {lo n : Nat} {u : UU} {k : Nat} (hk : lo ≤ k ∧ k < lo + n) : (cs ad cA lo n u)[k - lo]? = some (ad k, cellOf ad cA u k) := by
  unfold cs
  rw [List.getElem?_map, List.getElem?_range (by omega)]
  have : lo + (k - lo) = k := by omega
  simp [this]
theorem cs_obj {ad : Nat → Nat} {cA : Nat → ClassId} {lo n : Nat} {u : UU} {k ci z : Nat} (hk : lo ≤ k ∧ k < lo + n) (hs : shp k = (ci, z)) (hc : ci < 6) : (cs ad cA lo n u)[k - lo]? = some (ad k, .inr (ci, fl ad u ci k)) := by
  rw [cs_at hk, cellOf, hs]
  simp [hc]
theorem cs_arr {ad : Nat → Nat} {cA : Nat → ClassId} {lo n : Nat} {u : UU} {k ty z : Nat} (hk : lo ≤ k ∧ k < lo + n) (hs : shp k = (ty, z)) (hc : ty = 6 ∨ ty = 7) : (cs ad cA lo n u)[k - lo]? = some (ad k, .inl (cA ty, z, .inl (ui u k))) := by
  rw [cs_at hk, cellOf, hs]
  rcases hc with rfl | rfl <;> simp
theorem cs_ref {ad : Nat → Nat} {cA : Nat → ClassId} {lo n : Nat} {u : UU} {k z : Nat} (hk : lo ≤ k ∧ k < lo + n) (hs : shp k = (8, z)) : (cs ad cA lo n u)[k - lo]? = some (ad k, .inl (cA 8, z, .inr (.inr (.inr (.inr (fun j => some (ad (22 + 10 * j)))))))) := by
  rw [cs_at hk, cellOf, hs]
  simp
theorem cs_set {ad : Nat → Nat} {cA : Nat → ClassId} {lo n : Nat} {u u' : UU} {k : Nat} {e : va_E} (hk : lo ≤ k ∧ k < lo + n) (h1 : cellOf ad cA u' k = e) (h2 : ∀ j, j ≠ k → cellOf ad cA u' j = cellOf ad cA u j) : (cs ad cA lo n u).set (k - lo) (ad k, e) = cs ad cA lo n u' := by
  apply List.ext_getElem?
  intro i
  unfold cs
  rw [List.getElem?_set, List.getElem?_map, List.getElem?_map]
  by_cases hi : i < n
  · rw [List.getElem?_range hi]
    by_cases hik : k - lo = i
    · have : lo + i = k := by omega
      simp [hik, hi, this, h1]
    · have : lo + i ≠ k := by omega
      simp [hik, h2 _ this]
  · rw [List.getElem?_eq_none (by simpa using hi)]
    have : ¬ k - lo = i := by omega
    simp [this]
theorem cell_ne {ad : Nat → Nat} {cA : Nat → ClassId} {u u' : UU} {k : Nat} (hi : ui u' k = ui u k) (hl : ul u' k = ul u k) : cellOf ad cA u' k = cellOf ad cA u k := by
  have hf : ∀ ci, fl ad u' ci k = fl ad u ci k := by
    intro ci
    unfold fl
    split <;> simp [hi, hl]
  unfold cellOf
  rw [hf, hi]
theorem ui_si_ne {u : UU} {k j : Nat} {v : Int32} {a : Nat} (h : a ≠ k) : ui (si u k j v) a = ui u a := by
  funext b
  simp [ui, si, h]
theorem ul_si {u : UU} {k j : Nat} {v : Int32} {a : Nat} : ul (si u k j v) a = ul u a := rfl
theorem ui_sl {u : UU} {k j : Nat} {v : Int64} {a : Nat} : ui (sl u k j v) a = ui u a := rfl
theorem ul_sl_ne {u : UU} {k j : Nat} {v : Int64} {a : Nat} (h : a ≠ k) : ul (sl u k j v) a = ul u a := by
  funext b
  simp [ul, sl, h]
theorem ui_si {u : UU} {k j : Nat} {v : Int32} : ui (si u k j v) k = upd (ui u k) j v := by
  funext b
  simp [ui, si, upd]
def fI : List (Nat × Nat) := [(0, 0), (0, 1), (0, 2), (0, 3), (0, 4), (1, 3), (1, 4), (3, 0), (3, 1), (3, 2), (3, 4), (4, 8), (4, 9), (5, 0), (5, 3), (5, 10), (5, 11), (5, 12), (5, 13), (5, 17), (5, 22), (5, 26), (5, 27), (5, 28), (5, 29)]
def fL : List (Nat × Nat) := [(4, 10), (4, 11), (5, 1), (5, 2), (5, 33)]
theorem fl_si {ad : Nat → Nat} {u : UU} {ci k j : Nat} {v : Int32} (h : (ci, j) ∈ fI) : fl ad (si u k j v) ci k = (fl ad u ci k).set j (.int v) := by
  simp only [fI, List.mem_cons, List.not_mem_nil, or_false, Prod.mk.injEq] at h
  rcases h with ⟨rfl, rfl⟩ | ⟨rfl, rfl⟩ | ⟨rfl, rfl⟩ | ⟨rfl, rfl⟩ | ⟨rfl, rfl⟩ | ⟨rfl, rfl⟩ | ⟨rfl, rfl⟩ | ⟨rfl, rfl⟩ | ⟨rfl, rfl⟩ | ⟨rfl, rfl⟩ | ⟨rfl, rfl⟩ | ⟨rfl, rfl⟩ | ⟨rfl, rfl⟩ | ⟨rfl, rfl⟩ | ⟨rfl, rfl⟩ | ⟨rfl, rfl⟩ | ⟨rfl, rfl⟩ | ⟨rfl, rfl⟩ | ⟨rfl, rfl⟩ | ⟨rfl, rfl⟩ | ⟨rfl, rfl⟩ | ⟨rfl, rfl⟩ | ⟨rfl, rfl⟩ | ⟨rfl, rfl⟩ | ⟨rfl, rfl⟩ <;> simp [fl, ui, ul, si]
theorem fl_sl {ad : Nat → Nat} {u : UU} {ci k j : Nat} {v : Int64} (h : (ci, j) ∈ fL) : fl ad (sl u k j v) ci k = (fl ad u ci k).set j (.long v) := by
  simp only [fL, List.mem_cons, List.not_mem_nil, or_false, Prod.mk.injEq] at h
  rcases h with ⟨rfl, rfl⟩ | ⟨rfl, rfl⟩ | ⟨rfl, rfl⟩ | ⟨rfl, rfl⟩ | ⟨rfl, rfl⟩ <;> simp [fl, ui, ul, sl]
theorem fl_len {ad : Nat → Nat} {u : UU} {ci k : Nat} (h : ci < 6) : (fl ad u ci k).length = [5, 5, 3, 13, 12].getD ci 34 := by
  rcases (show ci = 0 ∨ ci = 1 ∨ ci = 2 ∨ ci = 3 ∨ ci = 4 ∨ ci = 5 by omega) with rfl | rfl | rfl | rfl | rfl | rfl <;> rfl
abbrev vwCl : List vw_C := [(RX1, TX1, 5), (RX2, TX2, 5), (RX3, TX3, 3), (RX4, TX4, 13), (RX5, TX5, 12), (RX6, TX6, 34)]
/-! what goes through a method unchanged -/
abbrev GG : Type := va_G × (Nat → Nat) × (Nat → ClassId) × (Nat → Prop) × Nat × Nat
abbrev aD (g : GG) (k : Nat) : Nat := g.2.1 k
abbrev aA (g : GG) : Nat → Prop := g.2.2.2.1
abbrev tO (g : GG) : Nat := g.2.2.2.2.1
abbrev tC (g : GG) : Nat := g.2.2.2.2.2
def tysG (g : GG) : List (ClassId × FieldType) := [(g.2.2.1 6, .int), (g.2.2.1 7, .byte), (g.2.2.1 8, .object "LoafParts$Table")]
def Ps (g : GG) (lo n : Nat) (u : UU) (H : Heap) : Prop := va_P g.1 vwCl (cs g.2.1 g.2.2.1 lo n u) H
def NF : List (String × Nat × String × String × String) := [("LoafParts", 116, "LoafParts$Table", "workers", "I"), ("LoafParts", 127, "LoafParts$Table", "kind", "[I"), ("LoafParts", 142, "LoafParts$Table", "lyingSet", "I"), ("LoafParts", 163, "LoafParts$Table", "lying", "[I"), ("LoafParts", 172, "LoafParts$Table", "has", "[I"), ("LoafParts", 187, "LoafParts$Table", "loaves", "I"), ("LoafParts", 190, "LoafParts$Table", "deeds", "I"), ("LoafParts", 200, "LoafParts$Table", "lack", "[I"), ("LoafParts", 215, "LoafParts$Makeup", "sets", "I"), ("LoafParts", 218, "LoafParts$Makeup", "most", "I"), ("LoafParts", 221, "LoafParts$Makeup", "fewest", "I"), ("LoafParts", 224, "LoafParts$Makeup", "fewestSet", "I"), ("LoafParts$Table", 55, "LoafParts$Reader", "workers", "I"), ("LoafParts$Table", 58, "LoafParts$Reader", "loaves", "I"), ("LoafParts$Table", 59, "LoafParts$Reader", "kind", "[I"), ("LoafParts$Table", 60, "LoafParts$Reader", "over", "[I"), ("LoafParts$Table", 61, "LoafParts$Reader", "under", "[I")]
def NM : List (String × Nat × MethodName) := [("LoafParts$Kinds", 17, yX5_holds), ("LoafParts$Makeup", 40, yX5_holds), ("LoafParts$Makeup", 46, yX5_partSize), ("LoafParts$Table", 103, yX5_holds), ("LoafParts$Table", 146, yX5_partSize), ("LoafParts", 23, yX2_init), ("LoafParts", 30, yX4_init), ("LoafParts", 41, yX1_init)]
def ordL : List Int32 := [11, 13, 9, 7, 14, 16, 8, 5, 10, 15, 4, 12, 3, 6, 2]
def comL : List Int32 := [1, 11, 143, 429, 429, 3003, 6006, 12012, 12012, 12012, 60060, 60060, 120120, 120120, 360360]
def ordF (j : Nat) : Int32 := ordL.getD j 0
def comF (j : Nat) : Int32 := comL.getD j 0
def Cn (U : State) : Prop := (∀ q ∈ NF, va_Nw (.fieldLinkNest q.1 q.2.1 q.2.2.1 q.2.2.2.1 q.2.2.2.2 "LoafParts") U) ∧ ∀ q ∈ NM, va_Nw (.methodLinkNest q.1 q.2.1 q.2.2 "LoafParts") U
def Cz (g : GG) (U : State) (H : Heap) : Prop := va_Z "LoafParts$Makeup" "ORDER" "[I" (.ref (tO g)) (aA g) U H ∧ va_T .int (tO g) 15 (fun j => .int (ordF j)) (aA g) U H ∧ va_Z "LoafParts$Makeup" "COMMON" "[I" (.ref (tC g)) (aA g) U H ∧ va_T .int (tC g) 15 (fun j => .int (comF j)) (aA g) U H
def Cx (g : GG) (lo n : Nat) (U : State) : Prop := va_K g.1 vwCl (tysG g) U ∧ (∀ u, va_D (aA g) (cs g.2.1 g.2.2.1 lo n u)) ∧ Cn U ∧ Cz g U U.heap
theorem Cn.warm {s U : State} (hW : s.WarmedH U.vm) (h : Cn s) : Cn U := ⟨fun q hq => va_Nw.warmF hW (h.1 q hq), fun q hq => va_Nw.warmM hW (h.2 q hq)⟩
theorem Cn.same {u U : State} (e : u.vm = U.vm) (h : Cn u) : Cn U := ⟨fun q hq => va_Nw.same rfl e (h.1 q hq), fun q hq => va_Nw.same rfl e (h.2 q hq)⟩
theorem Cz.moved {g : GG} {u U : State} {H : Heap} (hvm : u.vm.Alike U.vm) (h : Cz g u H) : Cz g U H := ⟨va_Z.moved hvm h.1, va_T.moved hvm h.2.1, va_Z.moved hvm h.2.2.1, va_T.moved hvm h.2.2.2⟩
theorem Cz.kept {g : GG} {U : State} {H H1 : Heap} (hq : ∀ a : Nat, a < H.size → ¬ aA g a → H1[a]? = H[a]?) (h : Cz g U H) : Cz g U H1 := ⟨va_Z.kept h.1 hq, va_T.kept h.2.1 hq, va_Z.kept h.2.2.1 hq, va_T.kept h.2.2.2 hq⟩
theorem Cx.warm {g : GG} {lo n : Nat} {s U : State} {H : Heap} {locs : List Loc} (hS : va_S (aA g) s.heap H locs) (hU : U.heap = H) (hW : s.WarmedH U.vm) (h : Cx g lo n s) : Cx g lo n U :=
  ⟨va_K.moved hW.alike h.1, h.2.1, Cn.warm hW h.2.2.1, Cz.moved hW.alike (by rw [hU]; exact Cz.kept hS.2.1 h.2.2.2)⟩
theorem Cx.blind {g : GG} {lo n : Nat} {U : State} {f : JFrame} {mk : MethodId} {a : Array Value} (h : Cx g lo n U) : Cx g lo n (U.calling f mk a) :=
  ⟨va_K.moved (u := U) (U := U.calling f mk a) (Vm.Alike.refl U.vm) h.1, h.2.1, Cn.same (u := U) (U := U.calling f mk a) rfl h.2.2.1, Cz.moved (u := U) (U := U.calling f mk a) (Vm.Alike.refl U.vm) h.2.2.2⟩
/-! the contracts -/
def Pre (g : GG) (lo n : Nat) (avs : List Value) (u : UU) : Array Value → State → Prop := va_Pc avs (fun U => Ps g lo n u U.heap ∧ Cx g lo n U)
def Qui (g : GG) (lo n : Nat) (r : Int32) (u' : UU) : Array Value → State → Outcome → State → Prop := va_Qi (fun (r2 : Int32) (u2 : UU) => r2 = r ∧ u2 = u') (fun u2 t => Ps g lo n u2 t.heap) (aA g)
def Qul (g : GG) (lo n : Nat) (r : Int64) (u' : UU) : Array Value → State → Outcome → State → Prop := va_Ql (fun (r2 : Int64) (u2 : UU) => r2 = r ∧ u2 = u') (fun u2 t => Ps g lo n u2 t.heap) (aA g)
def Quv (g : GG) (lo n : Nat) (u' : UU) : Array Value → State → Outcome → State → Prop := va_Qv (fun (u2 : UU) => u2 = u') (fun u2 t => Ps g lo n u2 t.heap) (aA g)
abbrev rmm (f w : Nat) : Room := { frames := f, cells := 0, slots := 0, locals := w }
abbrev Ci (l : Launch) (g : GG) (lo n : Nat) (y : MethodName) (ws : List Cond) (f w : Nat) (avs : List Value) (u : UU) (r : Int32) (u' : UU) : Prop := Met l y ws (rmm f w) (Pre g lo n avs u) (Qui g lo n r u') 0 0 (aA g)
abbrev Cl (l : Launch) (g : GG) (lo n : Nat) (y : MethodName) (ws : List Cond) (f w : Nat) (avs : List Value) (u : UU) (r : Int64) (u' : UU) : Prop := Met l y ws (rmm f w) (Pre g lo n avs u) (Qul g lo n r u') 0 0 (aA g)
abbrev Cv (l : Launch) (g : GG) (lo n : Nat) (y : MethodName) (ws : List Cond) (f w : Nat) (avs : List Value) (u : UU) (u' : UU) : Prop := Met l y ws (rmm f w) (Pre g lo n avs u) (Quv g lo n u') 0 0 (aA g)
theorem Pre.blind {g : GG} {lo n : Nat} {avs : List Value} {u : UU} : FrameBlind (Pre g lo n avs u) := fun a U f mk q => ⟨q.1, q.2.1, q.2.2.blind⟩
section RW
variable {p : Program} {l : Launch} {e : Env} {R : Room} {s : State} {m : MethodId} {args : Array Value} {below : List Frame} {meth : Method} {c : Code} {H : Heap} {locs : List Loc} {cells slots : Nat} {Q : State → Prop}
variable {cc : ByteArray} {pc : Nat} {ls : Array Slot} {rest : List Value} {g : GG} {lo n0 : Nat} {u : UU} {Ts : List Cond} {own : String} {index : Nat}
theorem r_nm {x e0 : Int32} (h : x = e0) (k : W p l e R s m args below meth c H locs cells slots Q (F0 m pc ls (.int x :: rest))) : W p l e R s m args below meth c H locs cells slots Q (F0 m pc ls (.int e0 :: rest)) := h ▸ k
theorem r_nml {x e0 : Int64} (h : x = e0) (k : W p l e R s m args below meth c H locs cells slots Q (F0 m pc ls (.long x :: rest))) : W p l e R s m args below meth c H locs cells slots Q (F0 m pc ls (.long e0 :: rest)) := h ▸ k
theorem r_get (hx : p.tables.exec = Jvm.exec) (hb : c.code = cc) (hts : ∀ w ∈ Ts, w.before args s = true) (hown : s.vm.findClass own = some m.cls) (hC : Cx g lo n0 s) (hP : Ps g lo n0 u H) {C : String} {T : u_T} {N : Nat} (hin : ∀ w ∈ u_ws C T N, w ∈ Ts) (k : Nat) (hk : lo ≤ k ∧ k < lo + n0) {ci : Nat} (hs : shp k = (ci, 0)) (hci : ci < 6) (hc : vwCl[ci]? = some (C, T, N)) (j : Nat) (hj : j < N) (hlink : (Cond.fieldLink own index (T j).1 (T j).2.1 (T j).2.2.1).before args s = true) {v : Value} (hv : (fl g.2.1 u ci k)[j]? = some v) (hdg : decode cc pc = .ok (.getfield index, 3))
    (kk : W p l e R s m args below meth c H locs cells slots Q (F0 m (pc + 3) ls (v :: rest))) : W p l e R s m args below meth c H locs cells slots Q (F0 m pc ls (.ref (aD g k) :: rest)) :=
  va_get hx hb hts hin hown hC.1 hP (k - lo) (cs_obj hk hs hci) hc j hj hlink (fun _ h => h) hv hdg kk
theorem r_getN (hx : p.tables.exec = Jvm.exec) (hb : c.code = cc) (hts : ∀ w ∈ Ts, w.before args s = true) (hown : s.vm.findClass own = some m.cls) (hC : Cx g lo n0 s) (hP : Ps g lo n0 u H) {C : String} {T : u_T} {N : Nat} (hin : ∀ w ∈ u_ws C T N, w ∈ Ts) (k : Nat) (hk : lo ≤ k ∧ k < lo + n0) {ci : Nat} (hs : shp k = (ci, 0)) (hci : ci < 6) (hc : vwCl[ci]? = some (C, T, N)) (j : Nat) (hj : j < N) (nf : Nat) (hlink : NF[nf]? = some (own, index, (T j).1, (T j).2.1, (T j).2.2.1)) {v : Value} (hv : (fl g.2.1 u ci k)[j]? = some v) (hdg : decode cc pc = .ok (.getfield index, 3))
    (kk : W p l e R s m args below meth c H locs cells slots Q (F0 m (pc + 3) ls (v :: rest))) : W p l e R s m args below meth c H locs cells slots Q (F0 m pc ls (.ref (aD g k) :: rest)) :=
  va_getN (ref := (T j).1) (host := "LoafParts") hx hb hts hin hown hC.1 hP (k - lo) (cs_obj hk hs hci) hc j hj (va_Nw.use rfl (hC.2.2.1.1 _ (List.mem_of_getElem? hlink))) (fun _ h => h) hv hdg kk
theorem r_puti (hx : p.tables.exec = Jvm.exec) (hb : c.code = cc) (hts : ∀ w ∈ Ts, w.before args s = true) (hown : s.vm.findClass own = some m.cls) (hC : Cx g lo n0 s) (hP : Ps g lo n0 u H) (hS : va_S (aA g) s.heap H locs) {C : String} {T : u_T} {N : Nat} (hin : ∀ w ∈ u_ws C T N, w ∈ Ts) (ty0 : Nat → FieldType) (hty : ∀ k, k < N → parseFieldDescriptor (T k).2.2.1 = some (ty0 k)) (hnm : ∀ a, a < N → ∀ b, b < N → a ≠ b → (T a).2.1 ≠ (T b).2.1) (k : Nat) (hk : lo ≤ k ∧ k < lo + n0) {ci : Nat} (hs : shp k = (ci, 0)) (hci : ci < 6) (hc : vwCl[ci]? = some (C, T, N)) (j : Nat) (hj : j < N) (hlink : (Cond.fieldLink own index (T j).1 (T j).2.1 (T j).2.2.1).before args s = true) (hfin : (T j).2.2.2 = false) {ty : FieldType} {v : Int32} (hd : parseFieldDescriptor (T j).2.2.1 = some ty) (hn : narrow ty (.int v) = .int v) (hfit : fits ty (.int v) = true) (hjl : j < [5, 5, 3, 13, 12].getD ci 34) (hfI : (ci, j) ∈ fI) {u' : UU} (hu : u' = si u k j v) (hdg : decode cc pc = .ok (.putfield index, 3))
    (kk : ∀ (H1 : Heap) (locs1 : List Loc), Ps g lo n0 u' H1 → va_S (aA g) s.heap H1 locs1 → W p l e R s m args below meth c H1 locs1 cells slots Q (F0 m (pc + 3) ls rest)) : W p l e R s m args below meth c H locs cells slots Q (F0 m pc ls (.int v :: .ref (aD g k) :: rest)) := by
  refine va_put hx hb hts hin ty0 hty hnm hown hC.1 hP (hC.2.1 u) hS (k - lo) (cs_obj hk hs hci) hc j hj hlink (fun _ h => h) hfin hd hn hfit (by rw [fl_len hci]; exact hjl) hdg (fun H1 locs1 hP1 _ hS1 => kk H1 locs1 ?_ hS1)
  rw [cs_set hk (u' := u') (by rw [hu, cellOf, hs]; simp only [hci, if_true]; rw [fl_si hfI]) (fun q hq => by rw [hu]; exact cell_ne (ui_si_ne hq) ul_si)] at hP1
  exact hP1
theorem r_putl (hx : p.tables.exec = Jvm.exec) (hb : c.code = cc) (hts : ∀ w ∈ Ts, w.before args s = true) (hown : s.vm.findClass own = some m.cls) (hC : Cx g lo n0 s) (hP : Ps g lo n0 u H) (hS : va_S (aA g) s.heap H locs) {C : String} {T : u_T} {N : Nat} (hin : ∀ w ∈ u_ws C T N, w ∈ Ts) (ty0 : Nat → FieldType) (hty : ∀ k, k < N → parseFieldDescriptor (T k).2.2.1 = some (ty0 k)) (hnm : ∀ a, a < N → ∀ b, b < N → a ≠ b → (T a).2.1 ≠ (T b).2.1) (k : Nat) (hk : lo ≤ k ∧ k < lo + n0) {ci : Nat} (hs : shp k = (ci, 0)) (hci : ci < 6) (hc : vwCl[ci]? = some (C, T, N)) (j : Nat) (hj : j < N) (hlink : (Cond.fieldLink own index (T j).1 (T j).2.1 (T j).2.2.1).before args s = true) (hfin : (T j).2.2.2 = false) {v : Int64} (hd : parseFieldDescriptor (T j).2.2.1 = some .long) (hjl : j < [5, 5, 3, 13, 12].getD ci 34) (hfI : (ci, j) ∈ fL) {u' : UU} (hu : u' = sl u k j v) (hdg : decode cc pc = .ok (.putfield index, 3))
    (kk : ∀ (H1 : Heap) (locs1 : List Loc), Ps g lo n0 u' H1 → va_S (aA g) s.heap H1 locs1 → W p l e R s m args below meth c H1 locs1 cells slots Q (F0 m (pc + 3) ls rest)) : W p l e R s m args below meth c H locs cells slots Q (F0 m pc ls (.long v :: .ref (aD g k) :: rest)) := by
  refine va_put hx hb hts hin ty0 hty hnm hown hC.1 hP (hC.2.1 u) hS (k - lo) (cs_obj hk hs hci) hc j hj hlink (fun _ h => h) hfin hd rfl rfl (by rw [fl_len hci]; exact hjl) hdg (fun H1 locs1 hP1 _ hS1 => kk H1 locs1 ?_ hS1)
  rw [cs_set hk (u' := u') (by rw [hu, cellOf, hs]; simp only [hci, if_true]; rw [fl_sl hfI]) (fun q hq => by rw [hu]; exact cell_ne ui_sl (ul_sl_ne hq))] at hP1
  exact hP1
theorem r_ald (hx : p.tables.exec = Jvm.exec) (hb : c.code = cc) (hC : Cx g lo n0 s) (hP : Ps g lo n0 u H) (k : Nat) (hk : lo ≤ k ∧ k < lo + n0) {z : Nat} (hs : shp k = (6, z)) {i : Int32} (hi : vp_in i z) (hdg : decode cc pc = .ok (.iaload, 1))
    (kk : W p l e R s m args below meth c H locs cells slots Q (F0 m (pc + 1) ls (.int (ui u k i.toNatClampNeg) :: rest))) : W p l e R s m args below meth c H locs cells slots Q (F0 m pc ls (.int i :: .ref (aD g k) :: rest)) :=
  va_iald hx hb hC.1 hP (k - lo) 0 (cs_arr hk hs (Or.inl rfl)) rfl hi hdg kk
theorem r_bald (hx : p.tables.exec = Jvm.exec) (hb : c.code = cc) (hC : Cx g lo n0 s) (hP : Ps g lo n0 u H) (k : Nat) (hk : lo ≤ k ∧ k < lo + n0) {z : Nat} (hs : shp k = (7, z)) {i : Int32} (hi : vp_in i z) (hdg : decode cc pc = .ok (.baload, 1))
    (kk : W p l e R s m args below meth c H locs cells slots Q (F0 m (pc + 1) ls (.int (ui u k i.toNatClampNeg) :: rest))) : W p l e R s m args below meth c H locs cells slots Q (F0 m pc ls (.int i :: .ref (aD g k) :: rest)) :=
  va_bald hx hb hC.1 hP (k - lo) 1 (cs_arr hk hs (Or.inr rfl)) rfl hi hdg kk
theorem r_aldq (hx : p.tables.exec = Jvm.exec) (hb : c.code = cc) (hC : Cx g lo n0 s) (hP : Ps g lo n0 u H) (k : Nat) (hk : lo ≤ k ∧ k < lo + n0) {z : Nat} (hs : shp k = (8, z)) {i : Int32} (hi : vp_in i z) (hdg : decode cc pc = .ok (.aaload, 1))
    (kk : W p l e R s m args below meth c H locs cells slots Q (F0 m (pc + 1) ls (.ref (aD g (22 + 10 * i.toNatClampNeg)) :: rest))) : W p l e R s m args below meth c H locs cells slots Q (F0 m pc ls (.int i :: .ref (aD g k) :: rest)) :=
  va_aldq hx hb hC.1 hP (k - lo) 2 (cs_ref hk hs) rfl hi hdg kk
theorem r_alen (hx : p.tables.exec = Jvm.exec) (hb : c.code = cc) (hC : Cx g lo n0 s) (hP : Ps g lo n0 u H) (k : Nat) (hk : lo ≤ k ∧ k < lo + n0) {z : Nat} (hs : shp k = (6, z)) {v : Int32} (hv : Int32.ofNat z = v) (hdg : decode cc pc = .ok (.arraylength, 1))
    (kk : W p l e R s m args below meth c H locs cells slots Q (F0 m (pc + 1) ls (.int v :: rest))) : W p l e R s m args below meth c H locs cells slots Q (F0 m pc ls (.ref (aD g k) :: rest)) :=
  va_alen hx hb hC.1 hP (k - lo) 0 (cs_arr hk hs (Or.inl rfl)) rfl hv hdg kk
theorem r_ast (hx : p.tables.exec = Jvm.exec) (hb : c.code = cc) (hC : Cx g lo n0 s) (hP : Ps g lo n0 u H) (hS : va_S (aA g) s.heap H locs) (k : Nat) (hk : lo ≤ k ∧ k < lo + n0) {z : Nat} (hs : shp k = (6, z)) {i x : Int32} (hi : vp_in i z) {u' : UU} (hu : u' = si u k i.toNatClampNeg x) (hdg : decode cc pc = .ok (.iastore, 1))
    (kk : ∀ (H1 : Heap) (locs1 : List Loc), Ps g lo n0 u' H1 → va_S (aA g) s.heap H1 locs1 → W p l e R s m args below meth c H1 locs1 cells slots Q (F0 m (pc + 1) ls rest)) : W p l e R s m args below meth c H locs cells slots Q (F0 m pc ls (.int x :: .int i :: .ref (aD g k) :: rest)) := by
  refine va_iast hx hb hC.1 hP (hC.2.1 u) hS (k - lo) 0 (cs_arr hk hs (Or.inl rfl)) rfl hi hdg (fun H1 locs1 hP1 _ hS1 => kk H1 locs1 ?_ hS1)
  rw [cs_set hk (u' := u') (by rw [hu, cellOf, hs, ui_si]; simp) (fun q hq => by rw [hu]; exact cell_ne (ui_si_ne hq) ul_si)] at hP1
  exact hP1
theorem r_bast (hx : p.tables.exec = Jvm.exec) (hb : c.code = cc) (hC : Cx g lo n0 s) (hP : Ps g lo n0 u H) (hS : va_S (aA g) s.heap H locs) (k : Nat) (hk : lo ≤ k ∧ k < lo + n0) {z : Nat} (hs : shp k = (7, z)) {i x : Int32} (hi : vp_in i z) {u' : UU} (hu : u' = si u k i.toNatClampNeg (vp_nar .byte x)) (hdg : decode cc pc = .ok (.bastore, 1))
    (kk : ∀ (H1 : Heap) (locs1 : List Loc), Ps g lo n0 u' H1 → va_S (aA g) s.heap H1 locs1 → W p l e R s m args below meth c H1 locs1 cells slots Q (F0 m (pc + 1) ls rest)) : W p l e R s m args below meth c H locs cells slots Q (F0 m pc ls (.int x :: .int i :: .ref (aD g k) :: rest)) := by
  refine va_bast hx hb hC.1 hP (hC.2.1 u) hS (k - lo) 1 (cs_arr hk hs (Or.inr rfl)) rfl hi hdg (fun H1 locs1 hP1 _ hS1 => kk H1 locs1 ?_ hS1)
  rw [cs_set hk (u' := u') (by rw [hu, cellOf, hs, ui_si]; simp) (fun q hq => by rw [hu]; exact cell_ne (ui_si_ne hq) ul_si)] at hP1
  exact hP1
end RW
