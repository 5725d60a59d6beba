theorem FB_lv {avs : List Value} {n : Nat} {m : MethodId} (h : (lg_sl avs).length ≤ n) : ∃ ls : Array Slot, lv_has ls n (lv_args 0 avs) ∧ entryFrame m avs.toArray n = F0 m 0 ls [] := ⟨_, lv_entry avs h, lg_entry_eq ..⟩
section CT
variable {l : Launch} {g : GG} {lo n0 : Nat} {y : MethodName} {ws ws' : List Cond} {f w : Nat} {avs : List Value} {u u' : UU} {cc : ByteArray} {maxL : Nat}
/-- what a method's walk has at its entry, and owes -/
def Bd (l : Launch) (g : GG) (lo n0 : Nat) (y : MethodName) (ws : List Cond) (f w : Nat) (avs : List Value) (u u' : UU) (cc : ByteArray) (maxL : Nat) (i : Instr) (st : List Value) (N : Prop) : Prop :=
  ∀ (p : Program) (e : Env) (s : State) (m : MethodId) (args : Array Value) (below : List Frame) (meth : Method) (c : Code) (R : Room) (Q : State → Prop) (ls : Array Slot),
    p.tables.exec = Jvm.exec → c.code = cc → c.maxLocals = maxL → s.vm.findClass y.cls = some m.cls → (∀ w ∈ ws, w.before args s = true) → Cx g lo n0 s → Ps g lo n0 u s.heap → lv_has ls maxL (lv_args 0 avs) → f ≤ R.frames → w ≤ R.locals →
    (∀ (pc : Nat) (H : Heap) (locs : List Loc) (ls : Array Slot), decode cc pc = .ok (i, 1) → Ps g lo n0 u' H → va_S (aA g) s.heap H locs → N → W p l e R s m args below meth c H locs 0 0 Q (F0 m pc ls st)) →
    va_S (aA g) s.heap s.heap [] → W p l e R s m args below meth c s.heap [] 0 0 Q (F0 m 0 ls [])
theorem ct_i {r : Int32} (hy : plainName y.cls = true) (hw : ws = .code y cc maxL (some .int) :: ws') (hlen : (lg_sl avs).length ≤ maxL) (body : Bd l g lo n0 y ws f w avs u u' cc maxL .ireturn [.int r] True) : Ci l g lo n0 y ws f w avs u r u' := by
  refine Met.ofW (cc := cc) (maxL := maxL) (ret := some .int) hy hw ?_
  intro p e s m args below meth c s₁ B hml hv
  obtain ⟨rfl, hP, hC⟩ := hv
  have hlocks := B.notSynchronized
  obtain ⟨ls, hl, he⟩ := FB_lv (m := m) hlen
  rw [he]
  refine body p e s m _ below meth c _ _ ls B.exec B.bytes hml (findClass_of_methodNamed B.named) (atoms_spec (ws := ws) B.pre) hC hP hl (Nat.le_refl _) (Nat.le_refl _) ?_ va_S.rf
  intro pc H locs ls hd hP hS _
  exact W.iret (v := r) B.exec B.bytes B.returns (fun t ht hW => ⟨⟨r, u', rfl, ⟨rfl, rfl⟩, (show Ps g lo n0 u' t.heap by rw [ht]; exact hP)⟩, hS.F ht⟩) hS.2.2 hd
theorem ct_z {r : Int32} (hy : plainName y.cls = true) (hw : ws = .code y cc maxL (some .boolean) :: ws') (hlen : (lg_sl avs).length ≤ maxL) (body : Bd l g lo n0 y ws f w avs u u' cc maxL .ireturn [.int r] (narrow .boolean (.int r) = .int r)) : Ci l g lo n0 y ws f w avs u r u' := by
  refine Met.ofW (cc := cc) (maxL := maxL) (ret := some .boolean) hy hw ?_
  intro p e s m args below meth c s₁ B hml hv
  obtain ⟨rfl, hP, hC⟩ := hv
  have hlocks := B.notSynchronized
  obtain ⟨ls, hl, he⟩ := FB_lv (m := m) hlen
  rw [he]
  refine body p e s m _ below meth c _ _ ls B.exec B.bytes hml (findClass_of_methodNamed B.named) (atoms_spec (ws := ws) B.pre) hC hP hl (Nat.le_refl _) (Nat.le_refl _) ?_ va_S.rf
  intro pc H locs ls hd hP hS hz
  exact W.zret (v := r) B.exec B.bytes B.returns hz (fun t ht hW => ⟨⟨r, u', rfl, ⟨rfl, rfl⟩, (show Ps g lo n0 u' t.heap by rw [ht]; exact hP)⟩, hS.F ht⟩) hS.2.2 hd
theorem ct_l {r : Int64} (hy : plainName y.cls = true) (hw : ws = .code y cc maxL (some .long) :: ws') (hlen : (lg_sl avs).length ≤ maxL) (body : Bd l g lo n0 y ws f w avs u u' cc maxL .lreturn [.long r] True) : Cl l g lo n0 y ws f w avs u r u' := by
  refine Met.ofW (cc := cc) (maxL := maxL) (ret := some .long) hy hw ?_
  intro p e s m args below meth c s₁ B hml hv
  obtain ⟨rfl, hP, hC⟩ := hv
  have hlocks := B.notSynchronized
  obtain ⟨ls, hl, he⟩ := FB_lv (m := m) hlen
  rw [he]
  refine body p e s m _ below meth c _ _ ls B.exec B.bytes hml (findClass_of_methodNamed B.named) (atoms_spec (ws := ws) B.pre) hC hP hl (Nat.le_refl _) (Nat.le_refl _) ?_ va_S.rf
  intro pc H locs ls hd hP hS _
  exact W.lret (v := r) B.exec B.bytes B.returns (fun t ht hW => ⟨⟨r, u', rfl, ⟨rfl, rfl⟩, (show Ps g lo n0 u' t.heap by rw [ht]; exact hP)⟩, hS.F ht⟩) hS.2.2 hd
theorem ct_v (hy : plainName y.cls = true) (hw : ws = .code y cc maxL none :: ws') (hlen : (lg_sl avs).length ≤ maxL) (body : Bd l g lo n0 y ws f w avs u u' cc maxL .return_ [] True) : Cv l g lo n0 y ws f w avs u u' := by
  refine Met.ofW (cc := cc) (maxL := maxL) (ret := none) hy hw ?_
  intro p e s m args below meth c s₁ B hml hv
  obtain ⟨rfl, hP, hC⟩ := hv
  have hlocks := B.notSynchronized
  obtain ⟨ls, hl, he⟩ := FB_lv (m := m) hlen
  rw [he]
  refine body p e s m _ below meth c _ _ ls B.exec B.bytes hml (findClass_of_methodNamed B.named) (atoms_spec (ws := ws) B.pre) hC hP hl (Nat.le_refl _) (Nat.le_refl _) ?_ va_S.rf
  intro pc H locs ls hd hP hS _
  exact W.vret B.exec B.bytes B.returns (fun t ht hW => ⟨⟨u', rfl, rfl, (show Ps g lo n0 u' t.heap by rw [ht]; exact hP)⟩, hS.F ht⟩) hS.2.2 hd
end CT
section CA
variable {p : Program} {l : Launch} {e : Env} {R : Room} {s : State} {m : MethodId} {args : Array Value} {below : List Frame} {meth : Method} {c : Code} {H : Heap} {locs : List Loc} {Q : State → Prop}
variable {cc bytes : ByteArray} {pc nL maxL nA index f w : Nat} {ls : Array Slot} {rest st0 As : List Value} {g : GG} {lo n0 : Nat} {u u' : UU} {Ts ws : List Cond} {own C : String} {y : MethodName} {ret : Option FieldType}
theorem r_pre (hC : Cx g lo n0 s) (hP : Ps g lo n0 u H) (hS : va_S (aA g) s.heap H locs) (avs : List Value) : PreS s H (Pre g lo n0 avs u) avs := ⟨Pre.blind, fun U hU hW => ⟨rfl, by rw [hU]; exact hP, hC.warm hS hU hW⟩⟩
theorem r_preV (hC : Cx g lo n0 s) (hP : Ps g lo n0 u H) (hS : va_S (aA g) s.heap H locs) {T : u_T} {N ci k : Nat} (hk : lo ≤ k ∧ k < lo + n0) (hs : shp k = (ci, 0)) (hci : ci < 6) (hc : vwCl[ci]? = some (C, T, N)) : PreV s H C (aD g k) (Pre g lo n0 (.ref (aD g k) :: As) u) As :=
  ⟨Pre.blind, va_recv hC.1 hP hc (cs_obj hk hs hci), fun U hU hW => ⟨rfl, by rw [hU]; exact hP, hC.warm hS hU hW⟩⟩
theorem r_Vi {r : Int32} (X : CallFix p m c cc nL s args Ts own) (hC : Cx g lo n0 s) (hP : Ps g lo n0 u H) (hS : va_S (aA g) s.heap H locs) {T : u_T} {N ci k : Nat} (hk : lo ≤ k ∧ k < lo + n0) (hs : shp k = (ci, 0)) (hci : ci < 6) (hc : vwCl[ci]? = some (C, T, N)) (hM : Ci l g lo n0 y ws f w (.ref (aD g k) :: As) u r u') (cw : CallW R s args own C index y bytes maxL ret ws (rmm f w) 0 0 nA) (hn : As.length = nA) (hsz : ls.size = nL) (hst : st0 = As.reverse ++ .ref (aD g k) :: rest) (hr : (rest.map fun v => v.category).sum ≤ 8) (hdg : decode cc pc = .ok (.invokevirtual index, 3))
    (kk : ∀ (H1 : Heap) (locs1 : List Loc), Ps g lo n0 u' H1 → va_S (aA g) s.heap H1 locs1 → W p l e R s m args below meth c H1 locs1 0 0 Q (F0 m (pc + 3) ls (.int r :: rest))) : W p l e R s m args below meth c H locs 0 0 Q (F0 m pc ls st0) :=
  va_calli (va_runV X hM cw (r_preV hC hP hS hk hs hci hc) rfl hn hsz hst (lv_room hr) hdg ⟨Nat.zero_le _, Nat.zero_le _⟩) hS (fun q _ h => h) (fun q h => h) (fun r2 u2 t H1 locs1 ht hvm hw hB _ _ hS1 => by
    obtain ⟨rfl, rfl⟩ := hw
    rw [ht] at hB
    exact kk H1 locs1 hB hS1)
theorem r_Vl {r : Int64} (X : CallFix p m c cc nL s args Ts own) (hC : Cx g lo n0 s) (hP : Ps g lo n0 u H) (hS : va_S (aA g) s.heap H locs) {T : u_T} {N ci k : Nat} (hk : lo ≤ k ∧ k < lo + n0) (hs : shp k = (ci, 0)) (hci : ci < 6) (hc : vwCl[ci]? = some (C, T, N)) (hM : Cl l g lo n0 y ws f w (.ref (aD g k) :: As) u r u') (cw : CallW R s args own C index y bytes maxL ret ws (rmm f w) 0 0 nA) (hn : As.length = nA) (hsz : ls.size = nL) (hst : st0 = As.reverse ++ .ref (aD g k) :: rest) (hr : (rest.map fun v => v.category).sum ≤ 8) (hdg : decode cc pc = .ok (.invokevirtual index, 3))
    (kk : ∀ (H1 : Heap) (locs1 : List Loc), Ps g lo n0 u' H1 → va_S (aA g) s.heap H1 locs1 → W p l e R s m args below meth c H1 locs1 0 0 Q (F0 m (pc + 3) ls (.long r :: rest))) : W p l e R s m args below meth c H locs 0 0 Q (F0 m pc ls st0) :=
  va_calll (va_runV X hM cw (r_preV hC hP hS hk hs hci hc) rfl hn hsz hst (lv_room hr) hdg ⟨Nat.zero_le _, Nat.zero_le _⟩) hS (fun q _ h => h) (fun q h => h) (fun r2 u2 t H1 locs1 ht hvm hw hB _ _ hS1 => by
    obtain ⟨rfl, rfl⟩ := hw
    rw [ht] at hB
    exact kk H1 locs1 hB hS1)
theorem r_Vv (X : CallFix p m c cc nL s args Ts own) (hC : Cx g lo n0 s) (hP : Ps g lo n0 u H) (hS : va_S (aA g) s.heap H locs) {T : u_T} {N ci k : Nat} (hk : lo ≤ k ∧ k < lo + n0) (hs : shp k = (ci, 0)) (hci : ci < 6) (hc : vwCl[ci]? = some (C, T, N)) (hM : Cv l g lo n0 y ws f w (.ref (aD g k) :: As) u u') (cw : CallW R s args own C index y bytes maxL ret ws (rmm f w) 0 0 nA) (hn : As.length = nA) (hsz : ls.size = nL) (hst : st0 = As.reverse ++ .ref (aD g k) :: rest) (hr : (rest.map fun v => v.category).sum ≤ 8) (hdg : decode cc pc = .ok (.invokevirtual index, 3))
    (kk : ∀ (H1 : Heap) (locs1 : List Loc), Ps g lo n0 u' H1 → va_S (aA g) s.heap H1 locs1 → W p l e R s m args below meth c H1 locs1 0 0 Q (F0 m (pc + 3) ls rest)) : W p l e R s m args below meth c H locs 0 0 Q (F0 m pc ls st0) :=
  va_callv (va_runV X hM cw (r_preV hC hP hS hk hs hci hc) rfl hn hsz hst (lv_room hr) hdg ⟨Nat.zero_le _, Nat.zero_le _⟩) hS (fun q _ h => h) (fun q h => h) (fun u2 t H1 locs1 ht hvm hw hB _ _ hS1 => by
    obtain rfl := hw
    rw [ht] at hB
    exact kk H1 locs1 hB hS1)
theorem r_Si {r : Int32} (X : CallFix p m c cc nL s args Ts own) (hC : Cx g lo n0 s) (hP : Ps g lo n0 u H) (hS : va_S (aA g) s.heap H locs) (hM : Ci l g lo n0 y ws f w As u r u') (cw : CallB R s args own index y bytes maxL ret ws (rmm f w) 0 0 nA ∧ (Cond.static y).before args s = true) (hn : As.length = nA) (hsz : ls.size = nL) (hst : st0 = As.reverse ++ rest) (hr : (rest.map fun v => v.category).sum ≤ 8) (hdg : decode cc pc = .ok (.invokestatic index, 3))
    (kk : ∀ (H1 : Heap) (locs1 : List Loc), Ps g lo n0 u' H1 → va_S (aA g) s.heap H1 locs1 → W p l e R s m args below meth c H1 locs1 0 0 Q (F0 m (pc + 3) ls (.int r :: rest))) : W p l e R s m args below meth c H locs 0 0 Q (F0 m pc ls st0) :=
  va_calli (va_runS X hM cw (r_pre hC hP hS As) rfl hn hsz hst (lv_room hr) hdg ⟨Nat.zero_le _, Nat.zero_le _⟩) hS (fun q _ h => h) (fun q h => h) (fun r2 u2 t H1 locs1 ht hvm hw hB _ _ hS1 => by
    obtain ⟨rfl, rfl⟩ := hw
    rw [ht] at hB
    exact kk H1 locs1 hB hS1)
theorem r_Sl {r : Int64} (X : CallFix p m c cc nL s args Ts own) (hC : Cx g lo n0 s) (hP : Ps g lo n0 u H) (hS : va_S (aA g) s.heap H locs) (hM : Cl l g lo n0 y ws f w As u r u') (cw : CallB R s args own index y bytes maxL ret ws (rmm f w) 0 0 nA ∧ (Cond.static y).before args s = true) (hn : As.length = nA) (hsz : ls.size = nL) (hst : st0 = As.reverse ++ rest) (hr : (rest.map fun v => v.category).sum ≤ 8) (hdg : decode cc pc = .ok (.invokestatic index, 3))
    (kk : ∀ (H1 : Heap) (locs1 : List Loc), Ps g lo n0 u' H1 → va_S (aA g) s.heap H1 locs1 → W p l e R s m args below meth c H1 locs1 0 0 Q (F0 m (pc + 3) ls (.long r :: rest))) : W p l e R s m args below meth c H locs 0 0 Q (F0 m pc ls st0) :=
  va_calll (va_runS X hM cw (r_pre hC hP hS As) rfl hn hsz hst (lv_room hr) hdg ⟨Nat.zero_le _, Nat.zero_le _⟩) hS (fun q _ h => h) (fun q h => h) (fun r2 u2 t H1 locs1 ht hvm hw hB _ _ hS1 => by
    obtain ⟨rfl, rfl⟩ := hw
    rw [ht] at hB
    exact kk H1 locs1 hB hS1)
theorem r_SNi {r : Int32} {host : String} (X : CallFix p m c cc nL s args Ts own) (hC : Cx g lo n0 s) (hP : Ps g lo n0 u H) (hS : va_S (aA g) s.heap H locs) (hM : Ci l g lo n0 y ws f w As u r u') (cw : va_CN R s args own index y host bytes maxL ret ws (rmm f w) 0 0 nA ∧ (Cond.static y).before args s = true ∧ True) (hn : As.length = nA) (hsz : ls.size = nL) (hst : st0 = As.reverse ++ rest) (hr : (rest.map fun v => v.category).sum ≤ 8) (hdg : decode cc pc = .ok (.invokestatic index, 3))
    (kk : ∀ (H1 : Heap) (locs1 : List Loc), Ps g lo n0 u' H1 → va_S (aA g) s.heap H1 locs1 → W p l e R s m args below meth c H1 locs1 0 0 Q (F0 m (pc + 3) ls (.int r :: rest))) : W p l e R s m args below meth c H locs 0 0 Q (F0 m pc ls st0) :=
  va_calli (va_runSN X hM cw (r_pre hC hP hS As) rfl hn hsz hst (lv_room hr) hdg ⟨Nat.zero_le _, Nat.zero_le _⟩) hS (fun q _ h => h) (fun q h => h) (fun r2 u2 t H1 locs1 ht hvm hw hB _ _ hS1 => by
    obtain ⟨rfl, rfl⟩ := hw
    rw [ht] at hB
    exact kk H1 locs1 hB hS1)
end CA
/-! switches -/
section SW
variable {p : Program} {l : Launch} {e : Env} {R : Room} {s : State} {m : MethodId} {args : Array Value} {below : List Frame} {meth : Method} {c : Code} {H : Heap} {locs : List Loc} {cells slots : Nat} {Q : State → Prop}
variable {cc : ByteArray} {pc : Nat} {ls : Array Slot} {rest : List Value}
theorem r_tin (hx : p.tables.exec = Jvm.exec) (hb : c.code = cc) {dflt lo hi : Int} {offs : Array Int} {len : Nat} {x : Int32} {tgt : Nat} (v : Int32) (off : Int) (h : x = v) (hdg : decode cc pc = .ok (.tableswitch dflt lo hi offs, len)) (hv : (¬ v.toInt < lo ∧ ¬ hi < v.toInt) ∧ offs[(v.toInt - lo).toNat]? = some off ∧ (pc : Int) + off = (tgt : Int))
    (k : W p l e R s m args below meth c H locs cells slots Q (F0 m tgt ls rest)) : W p l e R s m args below meth c H locs cells slots Q (F0 m pc ls (.int x :: rest)) := by
  subst h
  exact lv_tableIn hx hb hdg hv.1.1 hv.1.2 hv.2.1 hv.2.2 k
theorem tsw_out {x : Int32} (lo hi : Int) (n : Nat) (vs : List Int32) (hlo : -2147483648 ≤ lo ∧ lo + n ≤ 2147483647) (hh : hi + 1 = lo + n) (hv : (List.range n).map (fun (j : Nat) => Int32.ofInt (lo + (j : Int))) = vs) (h : ∀ v ∈ vs, ¬ x = v) : x.toInt < lo ∨ hi < x.toInt := by
  by_cases h1 : x.toInt < lo
  · exact Or.inl h1
  · by_cases h2 : hi < x.toInt
    · exact Or.inr h2
    · refine absurd ?_ (h (Int32.ofInt (lo + ((x.toInt - lo).toNat : Int))) ?_)
      · have e : lo + ((x.toInt - lo).toNat : Int) = x.toInt := by omega
        rw [e, Int32.ofInt_toInt]
      · rw [← hv]
        exact List.mem_map.mpr ⟨(x.toInt - lo).toNat, List.mem_range.mpr (by omega), rfl⟩
end SW
theorem ne_nle {x : Int32} (h : ¬ x ≤ 0) : ¬ x = 0 := fun e => h (by rw [e]; decide)
theorem ne_lt {x : Int32} (h : 0 < x) : ¬ x = 0 := fun e => absurd h (by rw [e]; decide)
/-! the shelves and the tables -/
def shf (b nr : Nat) : Prop := (b = 1 ∧ nr = 6) ∨ (b = 4 ∧ nr = 4)
theorem shf_rows : shf 1 6 := Or.inl ⟨rfl, rfl⟩
theorem shf_texts : shf 4 4 := Or.inr ⟨rfl, rfl⟩
theorem shf_o {b nr : Nat} (h : shf b nr) : shp b = (2, 0) := by rcases h with ⟨rfl, rfl⟩ | ⟨rfl, rfl⟩ <;> rfl
theorem shf_1 {b nr : Nat} (h : shf b nr) : shp (b + 1) = (6, nr) := by rcases h with ⟨rfl, rfl⟩ | ⟨rfl, rfl⟩ <;> rfl
theorem shf_2 {b nr : Nat} (h : shf b nr) : shp (b + 2) = (6, 240) := by rcases h with ⟨rfl, rfl⟩ | ⟨rfl, rfl⟩ <;> rfl
theorem shf_k0 {b nr : Nat} (h : shf b nr) : 0 ≤ b ∧ b < 0 + 55 := by rcases h with ⟨rfl, rfl⟩ | ⟨rfl, rfl⟩ <;> decide
theorem shf_k1 {b nr : Nat} (h : shf b nr) : 0 ≤ b + 1 ∧ b + 1 < 0 + 55 := by rcases h with ⟨rfl, rfl⟩ | ⟨rfl, rfl⟩ <;> decide
theorem shf_k2 {b nr : Nat} (h : shf b nr) : 0 ≤ b + 2 ∧ b + 2 < 0 + 55 := by rcases h with ⟨rfl, rfl⟩ | ⟨rfl, rfl⟩ <;> decide
def tab (b : Nat) : Prop := b = 11 ∨ b = 22 ∨ b = 32 ∨ b = 42
theorem tab_11 : tab 11 := Or.inl rfl
theorem tab_0 {b : Nat} (h : tab b) : shp b = (3, 0) := by rcases h with rfl | rfl | rfl | rfl <;> rfl
theorem tab_k0 {b : Nat} (h : tab b) : 0 ≤ b ∧ b < 0 + 55 := by rcases h with rfl | rfl | rfl | rfl <;> decide
theorem tab_1 {b : Nat} (h : tab b) : shp (b + 1) = (6, 17) := by rcases h with rfl | rfl | rfl | rfl <;> rfl
theorem tab_k1 {b : Nat} (h : tab b) : 0 ≤ b + 1 ∧ b + 1 < 0 + 55 := by rcases h with rfl | rfl | rfl | rfl <;> decide
theorem tab_2 {b : Nat} (h : tab b) : shp (b + 2) = (6, 7) := by rcases h with rfl | rfl | rfl | rfl <;> rfl
theorem tab_k2 {b : Nat} (h : tab b) : 0 ≤ b + 2 ∧ b + 2 < 0 + 55 := by rcases h with rfl | rfl | rfl | rfl <;> decide
theorem tab_3 {b : Nat} (h : tab b) : shp (b + 3) = (6, 7) := by rcases h with rfl | rfl | rfl | rfl <;> rfl
theorem tab_k3 {b : Nat} (h : tab b) : 0 ≤ b + 3 ∧ b + 3 < 0 + 55 := by rcases h with rfl | rfl | rfl | rfl <;> decide
theorem tab_4 {b : Nat} (h : tab b) : shp (b + 4) = (6, 7) := by rcases h with rfl | rfl | rfl | rfl <;> rfl
theorem tab_k4 {b : Nat} (h : tab b) : 0 ≤ b + 4 ∧ b + 4 < 0 + 55 := by rcases h with rfl | rfl | rfl | rfl <;> decide
theorem tab_5 {b : Nat} (h : tab b) : shp (b + 5) = (6, 7) := by rcases h with rfl | rfl | rfl | rfl <;> rfl
theorem tab_k5 {b : Nat} (h : tab b) : 0 ≤ b + 5 ∧ b + 5 < 0 + 55 := by rcases h with rfl | rfl | rfl | rfl <;> decide
theorem tab_6 {b : Nat} (h : tab b) : shp (b + 6) = (6, 7) := by rcases h with rfl | rfl | rfl | rfl <;> rfl
theorem tab_k6 {b : Nat} (h : tab b) : 0 ≤ b + 6 ∧ b + 6 < 0 + 55 := by rcases h with rfl | rfl | rfl | rfl <;> decide
theorem tab_7 {b : Nat} (h : tab b) : shp (b + 7) = (6, 40) := by rcases h with rfl | rfl | rfl | rfl <;> rfl
theorem tab_k7 {b : Nat} (h : tab b) : 0 ≤ b + 7 ∧ b + 7 < 0 + 55 := by rcases h with rfl | rfl | rfl | rfl <;> decide
theorem tab_8 {b : Nat} (h : tab b) : shp (b + 8) = (6, 40) := by rcases h with rfl | rfl | rfl | rfl <;> rfl
theorem tab_k8 {b : Nat} (h : tab b) : 0 ≤ b + 8 ∧ b + 8 < 0 + 55 := by rcases h with rfl | rfl | rfl | rfl <;> decide
theorem tab_9 {b : Nat} (h : tab b) : shp (b + 9) = (6, 40) := by rcases h with rfl | rfl | rfl | rfl <;> rfl
theorem tab_k9 {b : Nat} (h : tab b) : 0 ≤ b + 9 ∧ b + 9 < 0 + 55 := by rcases h with rfl | rfl | rfl | rfl <;> decide
theorem tab_kept {i : Int32} (h : vp_in i 3) : tab (22 + 10 * i.toNatClampNeg) := by
  have hlt : i.toNatClampNeg < 3 := Nat.not_le.mp fun q => h (Or.inr q)
  rcases (show i.toNatClampNeg = 0 ∨ i.toNatClampNeg = 1 ∨ i.toNatClampNeg = 2 by omega) with q | q | q <;> rw [q]
  · exact Or.inr (Or.inl rfl)
  · exact Or.inr (Or.inr (Or.inl rfl))
  · exact Or.inr (Or.inr (Or.inr rfl))
theorem ui_sc_ne {u : UU} {k0 sp k1 dp n a : Nat} (h : a ≠ k1) : ui (sc u k0 sp k1 dp n) a = ui u a := by
  funext b
  simp [ui, sc, h]
theorem ul_sc {u : UU} {k0 sp k1 dp n a : Nat} : ul (sc u k0 sp k1 dp n) a = ul u a := rfl
theorem ui_sc {u : UU} {k0 sp k1 dp n : Nat} : ui (sc u k0 sp k1 dp n) k1 = va_cpy (ui u k0) (ui u k1) sp dp n := by
  funext b
  simp [ui, sc, va_cpy]
theorem r_copy {p : Program} {l : Launch} {e : Env} {R : Room} {s : State} {m : MethodId} {args : Array Value} {below : List Frame} {meth : Method} {c : Code} {H : Heap} {locs : List Loc} {Q : State → Prop} {cc : ByteArray} {pc : Nat} {ls : Array Slot} {rest : List Value} {g : GG} {lo n0 : Nat} {u : UU} {own : String} {index : Nat} (hx : p.tables.exec = Jvm.exec) (hb : c.code = cc) (hml : c.maxLocals = ls.size) (hown : s.vm.findClass own = some m.cls) (hlink : (Cond.methodLink own index arraycopyName).before args s = true) (hnat : (Cond.native arraycopyName).before args s = true) (hstat : (Cond.static arraycopyName).before args s = true) (hini : (Cond.initialized "java/lang/System").before args s = true)
    (hC : Cx g lo n0 s) (hP : Ps g lo n0 u H) (hS : va_S (aA g) s.heap H locs) (k0 : Nat) (hk0 : lo ≤ k0 ∧ k0 < lo + n0) {z0 : Nat} (hs0 : shp k0 = (6, z0)) (k1 : Nat) (hk1 : lo ≤ k1 ∧ k1 < lo + n0) {z1 : Nat} (hs1 : shp k1 = (6, z1)) {sp dp n : Int32} (hk : ¬ sp < 0 ∧ ¬ dp < 0 ∧ ¬ n < 0 ∧ sp.toNatClampNeg + n.toNatClampNeg ≤ z0 ∧ dp.toNatClampNeg + n.toNatClampNeg ≤ z1) {u' : UU} (hu : u' = sc u k0 sp.toNatClampNeg k1 dp.toNatClampNeg n.toNatClampNeg) (hfr : 1 ≤ R.frames) (hlo : (rest.map fun v => v.category).sum + (nativeFrameWords "java/lang/System" "arraycopy" 5 + 11) ≤ R.locals) (hdg : decode cc pc = .ok (.invokestatic index, 3))
    (kk : ∀ (H1 : Heap) (locs1 : List Loc), Ps g lo n0 u' H1 → va_S (aA g) s.heap H1 locs1 → W p l e R s m args below meth c H1 locs1 0 0 Q (F0 m (pc + 3) ls rest)) : W p l e R s m args below meth c H locs 0 0 Q (F0 m pc ls (.int n :: .int dp :: .ref (aD g k1) :: .int sp :: .ref (aD g k0) :: rest)) := by
  refine va_copyi (ty := .int) hx hb hml hown hlink hnat hstat hini hC.1 hP (hC.2.1 u) hS (k0 - lo) (k1 - lo) 0 0 (cs_arr hk0 hs0 (Or.inl rfl)) (cs_arr hk1 hs1 (Or.inl rfl)) rfl rfl rfl hk.1 hk.2.1 hk.2.2.1 hk.2.2.2.1 hk.2.2.2.2 (fun _ _ => rfl) hfr hlo hdg (fun H1 locs1 hP1 _ hS1 => kk H1 locs1 ?_ hS1)
  rw [cs_set hk1 (u' := u') (by rw [hu, cellOf, hs1, ui_sc]; simp) (fun q hq => by rw [hu]; exact cell_ne (ui_sc_ne hq) ul_sc)] at hP1
  exact hP1
