/-! the law: its two worlds, its rows -/
abbrev gC (D : va_G) (a1 : Nat → Nat) (cA : Nat → ClassId) (tO tC : Nat) : GG := (D, a1, cA, fun q => ∃ k, k < 55 ∧ q = a1 k, tO, tC)
abbrev gM (D : va_G) (a2 : Nat → Nat) (cA : Nat → ClassId) (tO tC : Nat) : GG := (D, a2, cA, fun q => ∃ k, k < 20 ∧ q = a2 (55 + k), tO, tC)
abbrev gL (D : va_G) (a1 : Nat → Nat) (cA : Nat → ClassId) (s : State) (tO tC : Nat) : GG := (D, a1, cA, fun q => s.heap.size ≤ q, tO, tC)
/-- what stands through the law -/
def LC (s : State) (D : va_G) (a1 a2 : Nat → Nat) (cA : Nat → ClassId) (tO tC : Nat) : Prop :=
  va_K D vwCl (tysG (gC D a1 cA tO tC)) s ∧ (∀ u, va_D (aA (gC D a1 cA tO tC)) (cs a1 cA 0 55 u)) ∧ (∀ u, va_D (aA (gM D a2 cA tO tC)) (cs a2 cA 55 20 u)) ∧ Cn s ∧ Cz (gL D a1 cA s tO tC) s s.heap ∧ (∀ k, k < 55 → s.heap.size ≤ a1 k) ∧ (∀ k, k < 20 → s.heap.size ≤ a2 (55 + k)) ∧ ∀ i j, i < 55 → j < 20 → a1 i ≠ a2 (55 + j)
section LC
variable {s : State} {D : va_G} {a1 a2 : Nat → Nat} {cA : Nat → ClassId} {tO tC : Nat}
theorem LC.subC (h : LC s D a1 a2 cA tO tC) (q : Nat) (hq : aA (gC D a1 cA tO tC) q) : s.heap.size ≤ q := by
  obtain ⟨k, hk, rfl⟩ := hq
  exact h.2.2.2.2.2.1 k hk
theorem LC.subM (h : LC s D a1 a2 cA tO tC) (q : Nat) (hq : aA (gM D a2 cA tO tC) q) : s.heap.size ≤ q := by
  obtain ⟨k, hk, rfl⟩ := hq
  exact h.2.2.2.2.2.2.1 k hk
theorem LC.cxC (h : LC s D a1 a2 cA tO tC) {H : Heap} {locs : List Loc} (hS : va_S (fun q => s.heap.size ≤ q) s.heap H locs) {U : State} (hU : U.heap = H) (hW : s.WarmedH U.vm) : Cx (gC D a1 cA tO tC) 0 55 U := by
  have hz : Cz (gL D a1 cA s tO tC) U U.heap := Cz.moved hW.alike (by rw [hU]; exact Cz.kept hS.2.1 h.2.2.2.2.1)
  exact ⟨va_K.moved hW.alike h.1, h.2.1, Cn.warm hW h.2.2.2.1, va_Z.narrow hz.1 h.subC, va_T.narrow hz.2.1 h.subC, va_Z.narrow hz.2.2.1 h.subC, va_T.narrow hz.2.2.2 h.subC⟩
theorem LC.cxM (h : LC s D a1 a2 cA tO tC) {H : Heap} {locs : List Loc} (hS : va_S (fun q => s.heap.size ≤ q) s.heap H locs) {U : State} (hU : U.heap = H) (hW : s.WarmedH U.vm) : Cx (gM D a2 cA tO tC) 55 20 U := by
  have hz : Cz (gL D a1 cA s tO tC) U U.heap := Cz.moved hW.alike (by rw [hU]; exact Cz.kept hS.2.1 h.2.2.2.2.1)
  exact ⟨va_K.moved hW.alike h.1, h.2.2.1, Cn.warm hW h.2.2.2.1, va_Z.narrow hz.1 h.subM, va_T.narrow hz.2.1 h.subM, va_Z.narrow hz.2.2.1 h.subM, va_T.narrow hz.2.2.2 h.subM⟩
theorem LC.keepM (h : LC s D a1 a2 cA tO tC) {H H1 : Heap} {v : UU} (hP : Ps (gM D a2 cA tO tC) 55 20 v H) (hk : ∀ q : Nat, q < H.size → ¬ aA (gC D a1 cA tO tC) q → H1[q]? = H[q]?) : Ps (gM D a2 cA tO tC) 55 20 v H1 :=
  va_P.kept hP (fun k x hx => hk x.1 ((hP k x hx).lt) (fun ⟨i, hi, e⟩ => by
    obtain ⟨hk2, rfl⟩ := cs_get hx
    exact h.2.2.2.2.2.2.2 i k hi hk2 e.symm))
theorem LC.keepC (h : LC s D a1 a2 cA tO tC) {H H1 : Heap} {u : UU} (hP : Ps (gC D a1 cA tO tC) 0 55 u H) (hk : ∀ q : Nat, q < H.size → ¬ aA (gM D a2 cA tO tC) q → H1[q]? = H[q]?) : Ps (gC D a1 cA tO tC) 0 55 u H1 :=
  va_P.kept hP (fun k x hx => hk x.1 ((hP k x hx).lt) (fun ⟨i, hi, e⟩ => by
    obtain ⟨hk2, rfl⟩ := cs_get hx
    have : a1 (0 + k) = a2 (55 + i) := e
    rw [Nat.zero_add] at this
    exact h.2.2.2.2.2.2.2 k i hk2 hi this))
end LC
section LR
variable {p : Program} {l : Launch} {e : Env} {R : Room} {s : State} {m : MethodId} {args : Array Value} {below : List Frame} {meth : Method} {c : Code} {H : Heap} {locs : List Loc} {cells slots : Nat} {Q : State → Prop}
variable {cc bytes : ByteArray} {pc nL maxL nA index f w : Nat} {ls : Array Slot} {rest st0 As : List Value} {u u' v v' : UU} {Ts ws : List Cond} {own : String} {y : MethodName} {ret : Option FieldType}
variable {D : va_G} {a1 a2 : Nat → Nat} {cA : Nat → ClassId} {tO tC : Nat}
theorem r_LCi {r : Int32} (X : CallFix p m c cc nL s args Ts own) (hL : LC s D a1 a2 cA tO tC) (hP : Ps (gC D a1 cA tO tC) 0 55 u H) (hP2 : Ps (gM D a2 cA tO tC) 55 20 v H) (hS : va_S (fun q => s.heap.size ≤ q) s.heap H locs) (hM : Ci l (gC D a1 cA tO tC) 0 55 y ws f w (.ref (a1 0) :: As) u r u') (cw : CallW R s args own RX5 index y bytes maxL ret ws (rmm f w) 0 0 nA) (hn : As.length = nA) (hsz : ls.size = nL) (hst : st0 = As.reverse ++ .ref (a1 0) :: rest) (hr : (rest.map fun v => v.category).sum ≤ 8) (hdg : decode cc pc = .ok (.invokevirtual index, 3)) (hf : cells + 0 ≤ R.cells ∧ slots + 0 ≤ R.slots)
    (kk : ∀ (H1 : Heap) (locs1 : List Loc), Ps (gC D a1 cA tO tC) 0 55 u' H1 → Ps (gM D a2 cA tO tC) 55 20 v H1 → va_S (fun q => s.heap.size ≤ q) s.heap H1 locs1 → W p l e R s m args below meth c H1 locs1 cells slots Q (F0 m (pc + 3) ls (.int r :: rest))) : W p l e R s m args below meth c H locs cells slots Q (F0 m pc ls st0) :=
  va_calli (va_runV X hM cw ⟨Pre.blind, va_recv hL.1 hP (show vwCl[4]? = some (RX5, TX5, 12) from rfl) (cs_obj (k := 0) (by decide) rfl (by decide)), fun U hU hW => ⟨rfl, by rw [hU]; exact hP, hL.cxC hS hU hW⟩⟩ rfl hn hsz hst (lv_room hr) hdg hf) hS (fun q _ h => hL.subC q h) (fun q h => hL.subC q h) (fun r2 u2 t H1 locs1 ht hvm hw hB _ hk1 hS1 => by
    obtain ⟨rfl, rfl⟩ := hw
    rw [ht] at hB
    exact kk H1 locs1 hB (hL.keepM hP2 hk1) hS1)
theorem r_LMi {r : Int32} (X : CallFix p m c cc nL s args Ts own) (hL : LC s D a1 a2 cA tO tC) (hP : Ps (gC D a1 cA tO tC) 0 55 u H) (hP2 : Ps (gM D a2 cA tO tC) 55 20 v H) (hS : va_S (fun q => s.heap.size ≤ q) s.heap H locs) (hM : Ci l (gM D a2 cA tO tC) 55 20 y ws f w (.ref (a2 55) :: As) v r v') (cw : CallW R s args own RX6 index y bytes maxL ret ws (rmm f w) 0 0 nA) (hn : As.length = nA) (hsz : ls.size = nL) (hst : st0 = As.reverse ++ .ref (a2 55) :: rest) (hr : (rest.map fun v => v.category).sum ≤ 8) (hdg : decode cc pc = .ok (.invokevirtual index, 3)) (hf : cells + 0 ≤ R.cells ∧ slots + 0 ≤ R.slots)
    (kk : ∀ (H1 : Heap) (locs1 : List Loc), Ps (gC D a1 cA tO tC) 0 55 u H1 → Ps (gM D a2 cA tO tC) 55 20 v' H1 → va_S (fun q => s.heap.size ≤ q) s.heap H1 locs1 → W p l e R s m args below meth c H1 locs1 cells slots Q (F0 m (pc + 3) ls (.int r :: rest))) : W p l e R s m args below meth c H locs cells slots Q (F0 m pc ls st0) :=
  va_calli (va_runV X hM cw ⟨Pre.blind, va_recv hL.1 hP2 (show vwCl[5]? = some (RX6, TX6, 34) from rfl) (cs_obj (k := 55) (by decide) rfl (by decide)), fun U hU hW => ⟨rfl, by rw [hU]; exact hP2, hL.cxM hS hU hW⟩⟩ rfl hn hsz hst (lv_room hr) hdg hf) hS (fun q _ h => hL.subM q h) (fun q h => hL.subM q h) (fun r2 u2 t H1 locs1 ht hvm hw hB _ hk1 hS1 => by
    obtain ⟨rfl, rfl⟩ := hw
    rw [ht] at hB
    exact kk H1 locs1 (hL.keepC hP hk1) hB hS1)
theorem r_LCl {r : Int64} (X : CallFix p m c cc nL s args Ts own) (hL : LC s D a1 a2 cA tO tC) (hP : Ps (gC D a1 cA tO tC) 0 55 u H) (hP2 : Ps (gM D a2 cA tO tC) 55 20 v H) (hS : va_S (fun q => s.heap.size ≤ q) s.heap H locs) (hM : Cl l (gC D a1 cA tO tC) 0 55 y ws f w (.ref (a1 0) :: As) u r u') (cw : CallW R s args own RX5 index y bytes maxL ret ws (rmm f w) 0 0 nA) (hn : As.length = nA) (hsz : ls.size = nL) (hst : st0 = As.reverse ++ .ref (a1 0) :: rest) (hr : (rest.map fun v => v.category).sum ≤ 8) (hdg : decode cc pc = .ok (.invokevirtual index, 3)) (hf : cells + 0 ≤ R.cells ∧ slots + 0 ≤ R.slots)
    (kk : ∀ (H1 : Heap) (locs1 : List Loc), Ps (gC D a1 cA tO tC) 0 55 u' H1 → Ps (gM D a2 cA tO tC) 55 20 v H1 → va_S (fun q => s.heap.size ≤ q) s.heap H1 locs1 → W p l e R s m args below meth c H1 locs1 cells slots Q (F0 m (pc + 3) ls (.long r :: rest))) : W p l e R s m args below meth c H locs cells slots Q (F0 m pc ls st0) :=
  va_calll (va_runV X hM cw ⟨Pre.blind, va_recv hL.1 hP (show vwCl[4]? = some (RX5, TX5, 12) from rfl) (cs_obj (k := 0) (by decide) rfl (by decide)), fun U hU hW => ⟨rfl, by rw [hU]; exact hP, hL.cxC hS hU hW⟩⟩ rfl hn hsz hst (lv_room hr) hdg hf) hS (fun q _ h => hL.subC q h) (fun q h => hL.subC q h) (fun r2 u2 t H1 locs1 ht hvm hw hB _ hk1 hS1 => by
    obtain ⟨rfl, rfl⟩ := hw
    rw [ht] at hB
    exact kk H1 locs1 hB (hL.keepM hP2 hk1) hS1)
theorem r_LMl {r : Int64} (X : CallFix p m c cc nL s args Ts own) (hL : LC s D a1 a2 cA tO tC) (hP : Ps (gC D a1 cA tO tC) 0 55 u H) (hP2 : Ps (gM D a2 cA tO tC) 55 20 v H) (hS : va_S (fun q => s.heap.size ≤ q) s.heap H locs) (hM : Cl l (gM D a2 cA tO tC) 55 20 y ws f w (.ref (a2 55) :: As) v r v') (cw : CallW R s args own RX6 index y bytes maxL ret ws (rmm f w) 0 0 nA) (hn : As.length = nA) (hsz : ls.size = nL) (hst : st0 = As.reverse ++ .ref (a2 55) :: rest) (hr : (rest.map fun v => v.category).sum ≤ 8) (hdg : decode cc pc = .ok (.invokevirtual index, 3)) (hf : cells + 0 ≤ R.cells ∧ slots + 0 ≤ R.slots)
    (kk : ∀ (H1 : Heap) (locs1 : List Loc), Ps (gC D a1 cA tO tC) 0 55 u H1 → Ps (gM D a2 cA tO tC) 55 20 v' H1 → va_S (fun q => s.heap.size ≤ q) s.heap H1 locs1 → W p l e R s m args below meth c H1 locs1 cells slots Q (F0 m (pc + 3) ls (.long r :: rest))) : W p l e R s m args below meth c H locs cells slots Q (F0 m pc ls st0) :=
  va_calll (va_runV X hM cw ⟨Pre.blind, va_recv hL.1 hP2 (show vwCl[5]? = some (RX6, TX6, 34) from rfl) (cs_obj (k := 55) (by decide) rfl (by decide)), fun U hU hW => ⟨rfl, by rw [hU]; exact hP2, hL.cxM hS hU hW⟩⟩ rfl hn hsz hst (lv_room hr) hdg hf) hS (fun q _ h => hL.subM q h) (fun q h => hL.subM q h) (fun r2 u2 t H1 locs1 ht hvm hw hB _ hk1 hS1 => by
    obtain ⟨rfl, rfl⟩ := hw
    rw [ht] at hB
    exact kk H1 locs1 (hL.keepC hP hk1) hB hS1)
end LR
/-! the start -/
theorem ini_inv {c m : UU} (hc : IniC c) (hm : IniM m) : Inv c m := by
  obtain ⟨c1, c2, c3, c4, c5, c6, c7⟩ := hc
  obtain ⟨m1, m2, m3, m4, m5, m6⟩ := hm
  refine ⟨⟨?_, fun j hj => ?_⟩, ⟨?_, ?_, ?_⟩, ⟨fun _ => none, c4, fun r hr => ⟨c2 r hr, fun l hl => by cases hl⟩, fun r hr => ⟨m2 r hr, fun l hl => by cases hl⟩⟩, ⟨fun _ => none, c5, fun r hr => ⟨c3 r hr, fun l hl => by cases hl⟩, fun r hr => ⟨m3 r hr, fun l hl => by cases hl⟩⟩, 0, fun _ => 0, fun _ => 0, fun _ => 0, 0, fun _ _ => 0, fun _ => none, ?_, ?_, ?_, ?_⟩
  · rw [c1 _ _ (by omega) (by omega), m1 _ _ (by omega)]
  · rw [c1 _ _ (by omega) (by omega), m1 _ _ (by omega)]
  · rw [c1 _ _ (by omega) (by omega), m1 _ _ (by omega)]
  · rw [c6 _ _ (by omega), m5 _ _ (by omega)]
  · rw [c7, m6]
  · exact ⟨by omega, fun i hi => by omega, fun _ => ⟨rfl, fun _ => rfl, fun _ => rfl⟩⟩
  · refine ⟨?_, ?_, ?_, ?_, fun d hd => ?_, fun i hi => by omega, by omega, fun k hk => ⟨Nat.zero_le _, fun d hd => Nat.zero_le _, fun i hi => by omega⟩, fun k hk => by omega⟩
    · exact c1 _ _ (by omega) (by omega)
    · exact c1 _ _ (by omega) (by omega)
    · exact c1 _ _ (by omega) (by omega)
    · rw [c1 _ _ (by omega) (by omega)]
      decide
    · exact c1 _ _ (by omega) (by omega)
  · refine ⟨m1 _ _ (by omega), m1 _ _ (by omega), fun i hi => by omega, fun j hj => m1 _ _ (by omega), fun k hk => by omega, fun k hk => ⟨fun _ => m4 k hk, fun dk wk q => by cases q⟩⟩
  · exact fun k hk => ⟨fun _ => c1 _ _ (by omega) (by omega), fun dk wk q => by cases q⟩
theorem and63 (x : Int32) : ∃ k, k < 64 ∧ x &&& (63 : Int32) = nI k := by
  have e : x = nI x.toBitVec.toNat := by
    apply Int32.toBitVec_inj.1
    show x.toBitVec = BitVec.ofNat 32 x.toBitVec.toNat
    simp
  refine ⟨x.toBitVec.toNat % 64, Nat.mod_lt _ (by omega), ?_⟩
  have h := fa_mask x.toBitVec.toNat 6
  rw [← e] at h
  exact h
theorem lw_in {i L k : Nat} (hi : i + 6 ≤ L) (hk : k ≤ 5) (hL : L ≤ 3072) : vp_in (nI i + nI k) L := by
  rw [nI_add]
  exact nI_in (by omega) (by omega)
