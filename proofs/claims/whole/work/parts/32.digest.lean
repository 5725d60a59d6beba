section Digest
variable {n : Nat} {kd up lw : Nat → Nat} {dm : Nat} {w : Nat → Nat → Nat} {kp : KP} {c m : UU}
def runL (st : Nat → Int64 → Int64) : Nat → Nat → Int64 → Int64
  | 0, _, x => x
  | d + 1, i, x => runL st d (i + 1) (st i x)
theorem runL_ok {A : Type} {f : Nat → Int64 → Int32 → A} {e : Int64 → A} {N : Nat} {st : Nat → Int64 → Int64} (hf : ∀ n i x, i ≤ N → f (n + 1) x (nI i) = if N ≤ i then e x else f n (st i x) (nI (i + 1))) : ∀ (d i n : Nat) (x : Int64), i + d = N → d < n → f n x (nI i) = e (runL st d i x) := by
  intro d
  induction d with
  | zero =>
    intro i n x h1 h2
    obtain ⟨n, rfl⟩ : ∃ n0, n = n0 + 1 := ⟨n - 1, by omega⟩
    rw [hf n i x (by omega), if_pos (by omega)]
    rfl
  | succ d ih =>
    intro i n x h1 h2
    obtain ⟨n, rfl⟩ : ∃ n0, n = n0 + 1 := ⟨n - 1, by omega⟩
    rw [hf n i x (by omega), if_neg (by omega), ih (i + 1) n _ (by omega) (by omega)]
    rfl
theorem sl_sl {u : UU} {k j : Nat} {v v' : Int64} : sl (sl u k j v) k j v' = sl u k j v' := by
  refine Prod.ext rfl ?_
  funext a b
  show (if a = k ∧ b = j then v' else if a = k ∧ b = j then v else u.2 a b) = if a = k ∧ b = j then v' else u.2 a b
  by_cases q : a = k ∧ b = j
  · rw [if_pos q, if_pos q]
  · rw [if_neg q, if_neg q, if_neg q]
theorem adds {v x : Int64} : f_X6_adds x (sl m 55 33 v) = some (sl m 55 33 (31 * v + x)) := by
  unfold f_X6_adds
  rw [lt_eq, ul_sl_r, if_pos ⟨rfl, rfl⟩, sl_sl]
def ln (o : Option (List Int32)) : Nat := (o.getD []).length
def cl (o : Option (List Int32)) (i : Nat) : Int32 := (o.getD []).getD i 0
theorem szI_ln {o : Option (List Int32)} {i : Nat} {α : Type} {a b : α} (h : ∀ l, o = some l → l.length ≤ 100) (hi : i ≤ 100) : (if szI o ≤ nI i then a else b) = if ln o ≤ i then a else b := by
  cases o with
  | none => rw [if_pos (show szI none ≤ nI i from i_le.mpr (by rw [nI_toInt (by omega)]; show (-1 : Int) ≤ _; omega)), if_pos (show ln none ≤ i from Nat.zero_le _)]
  | some l => exact ifl (N := l.length) (by have := h l rfl; omega) (by omega) rfl
def stS (S : Nat → Option (List Int32)) (j : Nat) (v : Int64) : Int64 := runL (fun i v => 31 * v + (cl (S j) i).toInt64) (ln (S j)) 0 (31 * v + (szI (S j)).toInt64)
theorem ln_le {S : Nat → Option (List Int32)} {sz ce : Nat → Int32} {pl nr j : Nat} (h : shR sz ce pl nr S) (hj : j < nr) (hp : pl ≤ 100) : (∀ l, S j = some l → l.length ≤ 100) ∧ ln (S j) ≤ pl ∧ ∀ i, i < ln (S j) → szI (S j) = nI (ln (S j)) ∧ ce (pl * j + i) = cl (S j) i := by
  have h2 := (h j hj).2
  cases hS : S j with
  | none => exact ⟨(fun l q => by cases q), Nat.zero_le _, fun i hi => absurd hi (Nat.not_lt_zero _)⟩
  | some l => exact ⟨(fun l' q => by cases q; have := (h2 l hS).1; omega), (h2 l hS).1, fun i hi => ⟨rfl, (h2 l hS).2 i hi⟩⟩
theorem c_addTo {b nr pl : Nat} {S : Nat → Option (List Int32)} (hnr : nr ≤ 6) (hp : pl ≤ 100) (hc : nr * pl ≤ 240) (h0 : ui c b 0 = nI pl) (h : shR (ui c (b + 1)) (ui c (b + 2)) pl nr S) (v : Int64) : f_X3_addTo b nr v c = some (runL (stS S) nr 0 v) := by
  refine runL_ok (f := fun k x i => f_X3_addTo_5 b nr k x i c) (N := nr) (st := stS S) (e := fun x => some x) (fun k j x hj => ?_) nr 0 fu v (by omega) (by unfold fu; omega)
  show f_X3_addTo_5 b nr (k + 1) x (nI j) c = _
  rw [f_X3_addTo_5, ifl (N := nr) (x := Int32.ofNat nr) (by omega) (by omega) rfl]
  refine if_to fun q => ?_
  have hj' : j < nr := by omega
  obtain ⟨l1, l2, l3⟩ := ln_le h hj' hp
  rw [ix_n hj' (by omega), nI_clamp (by omega), lt_eq, (h j hj').1]
  refine runL_ok (f := fun F y i => f_X3_addTo_33 b nr (f_X3_addTo_5 b nr k) F y (nI j) i c) (N := ln (S j)) (st := fun i v => 31 * v + (cl (S j) i).toInt64) (e := fun y => f_X3_addTo_5 b nr k y (nI (j + 1)) c) (fun F i y hi => ?_) (ln (S j)) 0 fu _ (by omega) (by unfold fu; omega)
  show f_X3_addTo_33 b nr (f_X3_addTo_5 b nr k) (F + 1) y (nI j) (nI i) c = _
  rw [f_X3_addTo_33, ix_n hj' (by omega), nI_clamp (by omega), (h j hj').1, szI_ln l1 (by omega), lt_eq, nI_1]
  refine if_to fun q => ?_
  obtain ⟨e1, e2⟩ := l3 i (by omega)
  rw [s_read (pl := pl) hj' (by omega) hc l2 hp h0 ((h j hj').1.trans e1) (by omega), bd_some, lt_eq, lt_eq, nI_1, e2]
theorem m_text {S : Nat → Option (List Int32)} (h : shR (ui m 60) (ui m 61) 60 4 S) (v : Int64) : f_X6_digest_179 fu 0 (sl m 55 33 v) = some (runL (stS S) 4 0 v, sl m 55 33 (runL (stS S) 4 0 v)) := by
  refine runL_ok (f := fun k x i => f_X6_digest_179 k i (sl m 55 33 x)) (N := 4) (st := stS S) (e := fun x => some (x, sl m 55 33 x)) (fun k j x hj => ?_) 4 0 fu v (by omega) (by unfold fu; omega)
  show f_X6_digest_179 (k + 1) (nI j) (sl m 55 33 x) = _
  rw [f_X6_digest_179, ifl (N := 4) (x := (4 : Int32)) (by omega) (by omega) rfl, show ul (sl m 55 33 x) 55 33 = x by simp [ul_sl_r]]
  refine if_to fun q => ?_
  have hj' : j < 4 := by omega
  obtain ⟨l1, l2, l3⟩ := ln_le h hj' (by omega)
  rw [ix_n hj' (by omega), nI_clamp (by omega), ui_sl_r, (h j hj').1, adds, bd_some]
  refine runL_ok (f := fun F y i => f_X6_digest_197 (f_X6_digest_179 k) F (nI j) i (sl m 55 33 y)) (N := ln (S j)) (st := fun i v => 31 * v + (cl (S j) i).toInt64) (e := fun y => f_X6_digest_179 k (nI (j + 1)) (sl m 55 33 y)) (fun F i y hi => ?_) (ln (S j)) 0 fu _ (by omega) (by unfold fu; omega)
  show f_X6_digest_197 (f_X6_digest_179 k) (F + 1) (nI j) (nI i) (sl m 55 33 y) = _
  rw [f_X6_digest_197, ix_n hj' (by omega), nI_clamp (by omega), ui_sl_r, (h j hj').1, szI_ln l1 (by omega), lt_eq, nI_1]
  refine if_to fun q => ?_
  obtain ⟨e1, e2⟩ := l3 i (by omega)
  rw [show (60 : Int32) * nI j + nI i = nI (60 * j + i) from nI_mulB, ix_n (by omega) (by omega), nI_clamp (by omega), ui_sl_r, adds, bd_some, lt_eq, nI_1, e2]
theorem m_rows {S : Nat → Option (List Int32)} (h : shR (ui m 57) (ui m 58) 40 6 S) (v : Int64) : f_X6_digest_125 fu 0 (sl m 55 33 v) = f_X6_digest_179 fu 0 (sl m 55 33 (runL (stS S) 6 0 v)) := by
  refine runL_ok (f := fun k x i => f_X6_digest_125 k i (sl m 55 33 x)) (N := 6) (st := stS S) (e := fun x => f_X6_digest_179 fu 0 (sl m 55 33 x)) (fun k j x hj => ?_) 6 0 fu v (by omega) (by unfold fu; omega)
  show f_X6_digest_125 (k + 1) (nI j) (sl m 55 33 x) = _
  rw [f_X6_digest_125, ifl (N := 6) (x := (6 : Int32)) (by omega) (by omega) rfl]
  refine if_to fun q => ?_
  have hj' : j < 6 := by omega
  obtain ⟨l1, l2, l3⟩ := ln_le h hj' (by omega)
  rw [ix_n hj' (by omega), nI_clamp (by omega), ui_sl_r, (h j hj').1, adds, bd_some]
  refine runL_ok (f := fun F y i => f_X6_digest_144 (f_X6_digest_125 k) F (nI j) i (sl m 55 33 y)) (N := ln (S j)) (st := fun i v => 31 * v + (cl (S j) i).toInt64) (e := fun y => f_X6_digest_125 k (nI (j + 1)) (sl m 55 33 y)) (fun F i y hi => ?_) (ln (S j)) 0 fu _ (by omega) (by unfold fu; omega)
  show f_X6_digest_144 (f_X6_digest_125 k) (F + 1) (nI j) (nI i) (sl m 55 33 y) = _
  rw [f_X6_digest_144, ix_n hj' (by omega), nI_clamp (by omega), ui_sl_r, (h j hj').1, szI_ln l1 (by omega), lt_eq, nI_1]
  refine if_to fun q => ?_
  obtain ⟨e1, e2⟩ := l3 i (by omega)
  rw [m_rowAt hj' (by omega), bd_some, ui_sl_r, adds, bd_some, lt_eq, nI_1, e2]
def stK (kp : KP) (j : Nat) (v : Int64) : Int64 := 31 * v + (match kp j with | none => (-1 : Int32) | some q => nI q.1).toInt64
theorem c_kept (h : TB n kd up lw dm w kp c m) (v : Int64) : f_X5_digest_117 fu v 0 c = (f_X3_addTo 1 6 (runL (stK kp) 3 0 v) c).bind (fun (q_5 : Int64) => (f_X3_addTo 4 4 q_5 c).bind (fun (q_6 : Int64) => (some q_6))) := by
  have h7 := h.1.1
  refine runL_ok (f := fun k x i => f_X5_digest_117 k x i c) (N := 3) (st := stK kp) (e := fun x => (f_X3_addTo 1 6 x c).bind (fun (q_5 : Int64) => (f_X3_addTo 4 4 q_5 c).bind (fun (q_6 : Int64) => (some q_6)))) (fun k j x hj => ?_) 3 0 fu v (by omega) (by unfold fu; omega)
  show f_X5_digest_117 (k + 1) x (nI j) c = _
  rw [f_X5_digest_117, ifl (N := 3) (x := (3 : Int32)) (by omega) (by omega) rfl]
  refine if_to fun q => ?_
  rw [ix_n (by omega) (by omega), ix_n (by omega) (by omega), nI_clamp (by omega)]
  unfold f_X5_digest_152 stK
  rcases kept h (show j < 3 by omega) with ⟨a, b, e⟩ | ⟨dk, wk, e, a, h0, h1, h2, b⟩
  · rw [a, if_pos rfl, lt_eq, lt_eq, nI_1, e]
  · rw [a, if_neg (nI_ne0 (by omega) (by omega)), lt_eq, lt_eq, nI_1, h2, e]
theorem m_kept (h : TB n kd up lw dm w kp c m) (v : Int64) : f_X6_digest_101 fu 0 (sl m 55 33 v) = f_X6_digest_125 fu 0 (sl m 55 33 (runL (stK kp) 3 0 v)) := by
  refine runL_ok (f := fun k x i => f_X6_digest_101 k i (sl m 55 33 x)) (N := 3) (st := stK kp) (e := fun x => f_X6_digest_125 fu 0 (sl m 55 33 x)) (fun k j x hj => ?_) 3 0 fu v (by omega) (by unfold fu; omega)
  show f_X6_digest_101 (k + 1) (nI j) (sl m 55 33 x) = _
  rw [f_X6_digest_101, ifl (N := 3) (x := (3 : Int32)) (by omega) (by omega) rfl]
  refine if_to fun q => ?_
  rw [ix_n (by omega) (by omega), nI_clamp (by omega), ui_sl_r, adds, bd_some, lt_eq, nI_1]
  unfold stK
  rcases kept h (show j < 3 by omega) with ⟨a, b, e⟩ | ⟨dk, wk, e, a, h0, h1, h2, b⟩
  · rw [b, e]
  · rw [b, e]
def stL (v : Nat → Nat) (j : Nat) (x : Int64) : Int64 := 31 * x + (nI (v (1 + j))).toInt64
theorem c_lie (h : TB n kd up lw dm w kp c m) (v : Int64) : f_X5_digest_86 fu v 2 c = f_X5_digest_117 fu (runL (stL (w dm)) 15 2 v) 0 c := by
  refine runL_ok (f := fun k x i => f_X5_digest_86 k x i c) (N := 17) (st := stL (w dm)) (e := fun x => f_X5_digest_117 fu x 0 c) (fun k j x hj => ?_) 15 2 fu v (by omega) (by unfold fu; omega)
  show f_X5_digest_86 (k + 1) x (nI j) c = _
  rw [f_X5_digest_86, if16 (by omega)]
  refine if_to fun q => ?_
  rw [ix_n (by omega) (by omega), nI_clamp (by omega), lt_eq, lt_eq, nI_1, show ui c 12 j = _ from h.2.1.2.2.2.2.1 j (by omega)]
  rfl
theorem m_lie (h : TB n kd up lw dm w kp c m) (v : Int64) : f_X6_digest_74 fu 2 (sl m 55 33 v) = f_X6_digest_101 fu 0 (sl m 55 33 (runL (stL (w dm)) 15 2 v)) := by
  refine runL_ok (f := fun k x i => f_X6_digest_74 k i (sl m 55 33 x)) (N := 17) (st := stL (w dm)) (e := fun x => f_X6_digest_101 fu 0 (sl m 55 33 x)) (fun k j x hj => ?_) 15 2 fu v (by omega) (by unfold fu; omega)
  show f_X6_digest_74 (k + 1) (nI j) (sl m 55 33 x) = _
  rw [f_X6_digest_74, if16 (by omega)]
  refine if_to fun q => ?_
  rw [n1p, ix_n (by omega) (by omega), nI_clamp (by omega), ui_sl_r, adds, bd_some, lt_eq, nI_1, m_now h (by omega)]
  rfl
def stF (c : UU) (j : Nat) (x : Int64) : Int64 := runL (fun k v => 31 * v + ((f_X4_factOf (nI j) (nI k) c).getD 0).toInt64) 6 0 x
theorem c_facts (h : TB n kd up lw dm w kp c m) (v : Int64) : f_X5_digest_33 fu v 0 c = f_X5_digest_86 fu (runL (stF c) n 0 v) 2 c := by
  have h7 := h.1.1
  refine runL_ok (f := fun k x i => f_X5_digest_33 k x i c) (N := n) (st := stF c) (e := fun x => f_X5_digest_86 fu x 2 c) (fun k j x hj => ?_) n 0 fu v (by omega) (by unfold fu; omega)
  show f_X5_digest_33 (k + 1) x (nI j) c = _
  rw [f_X5_digest_33, ifl (by omega) (by omega) h.2.1.1]
  refine if_to fun q => ?_
  refine runL_ok (f := fun F y i => f_X5_digest_47 (f_X5_digest_33 k) F y (nI j) i c) (N := 6) (st := fun k v => 31 * v + ((f_X4_factOf (nI j) (nI k) c).getD 0).toInt64) (e := fun y => f_X5_digest_33 k y (nI (j + 1)) c) (fun F i y hi => ?_) 6 0 fu _ (by omega) (by unfold fu; omega)
  show f_X5_digest_47 (f_X5_digest_33 k) (F + 1) y (nI j) (nI i) c = _
  rw [f_X5_digest_47, ifl (N := 6) (x := (6 : Int32)) (by omega) (by omega) rfl, lt_eq, nI_1]
  refine if_to fun q => ?_
  obtain ⟨e1, a, e2⟩ := c_fact h (show j < n by omega) i (by omega)
  rw [e2, bd_some, lt_eq, lt_eq, nI_1]
  rfl
theorem m_facts (h : TB n kd up lw dm w kp c m) (v : Int64) : f_X6_digest_33 fu 0 (sl m 55 33 v) = f_X6_digest_74 fu 2 (sl m 55 33 (runL (stF c) n 0 v)) := by
  have h7 := h.1.1
  refine runL_ok (f := fun k x i => f_X6_digest_33 k i (sl m 55 33 x)) (N := n) (st := stF c) (e := fun x => f_X6_digest_74 fu 2 (sl m 55 33 x)) (fun k j x hj => ?_) n 0 fu v (by omega) (by unfold fu; omega)
  show f_X6_digest_33 (k + 1) (nI j) (sl m 55 33 x) = _
  rw [f_X6_digest_33, ui_sl_r, ifl (by omega) (by omega) h.2.2.1.1]
  refine if_to fun q => ?_
  refine runL_ok (f := fun F y i => f_X6_digest_43 (f_X6_digest_33 k) F (nI j) i (sl m 55 33 y)) (N := 6) (st := fun k v => 31 * v + ((f_X4_factOf (nI j) (nI k) c).getD 0).toInt64) (e := fun y => f_X6_digest_33 k (nI (j + 1)) (sl m 55 33 y)) (fun F i y hi => ?_) 6 0 fu _ (by omega) (by unfold fu; omega)
  show f_X6_digest_43 (f_X6_digest_33 k) (F + 1) (nI j) (nI i) (sl m 55 33 y) = _
  rw [f_X6_digest_43, ifl (N := 6) (x := (6 : Int32)) (by omega) (by omega) rfl, lt_eq, nI_1]
  refine if_to fun q => ?_
  obtain ⟨e1, a, e2⟩ := c_fact (m := sl m 55 33 y) h (show j < n by omega) i (by omega)
  rw [← e1, e2, bd_some, adds, bd_some, lt_eq, nI_1]
  rfl
def stC (c : UU) (j : Nat) (x : Int64) : Int64 := 31 * x + ((f_X5_count (nI j) c).getD 0).toInt64
theorem Inv.fol (h : Inv c m) (v : Int64) : Inv c (sl m 55 33 v) := h.fs Fs.rf (Fs.sl (by unfold PM; omega))
theorem op_digest (h : Inv c m) : ∃ v m', f_X5_digest c = some v ∧ f_X6_digest m = some (v, m') ∧ Inv c m' := by
  have e1 : f_X5_digest c = f_X5_digest_33 fu (runL (stC c) 12 0 17) 0 c := by
    refine runL_ok (f := fun k x i => f_X5_digest_6 k x i c) (N := 12) (st := stC c) (e := fun x => f_X5_digest_33 fu x 0 c) (fun k j x hj => ?_) 12 0 fu 17 (by omega) (by unfold fu; omega)
    show f_X5_digest_6 (k + 1) x (nI j) c = _
    rw [f_X5_digest_6, ifl (N := 12) (x := (12 : Int32)) (by omega) (by omega) rfl]
    refine if_to fun q => ?_
    obtain ⟨a, e1, e2⟩ := counted h (show j < 12 by omega)
    unfold stC
    rw [e1, bd_some, lt_eq, lt_eq, nI_1]
    rfl
  have e2 : f_X6_digest m = f_X6_digest_33 fu 0 (sl m 55 33 (runL (stC c) 12 0 17)) := by
    refine runL_ok (f := fun k x i => f_X6_digest_9 k i (sl m 55 33 x)) (N := 12) (st := stC c) (e := fun x => f_X6_digest_33 fu 0 (sl m 55 33 x)) (fun k j x hj => ?_) 12 0 fu 17 (by omega) (by unfold fu; omega)
    show f_X6_digest_9 (k + 1) (nI j) (sl m 55 33 x) = _
    have i11 : ∀ (a b : Option (Int64 × UU)), (if (11 : Int32) < nI j then a else b) = if 12 ≤ j then a else b := by
      intro a b
      by_cases q : 12 ≤ j
      · rw [if_pos q, if_pos (show (11 : Int32) < nI j from nI_lt (a := 11) (by omega) (by omega))]
      · rw [if_neg q, if_neg (show ¬ (11 : Int32) < nI j from fun z => by have := i_lt.mp z; rw [nI_toInt (by omega), show (11 : Int32).toInt = 11 from rfl] at this; omega)]
    rw [f_X6_digest_9, i11]
    refine if_to fun q => ?_
    obtain ⟨a, e1, e2⟩ := counted (h.fol x) (show j < 12 by omega)
    unfold stC
    rw [e1, e2, bd_some, adds, bd_some, lt_eq, nI_1]
    rfl
  obtain ⟨-, -, ⟨S, r0, r1, r2⟩, ⟨S', x0, x1, x2⟩, n, kd, up, lw, dm, w, kp, hB⟩ := id h
  rw [e1, e2, c_facts hB, m_facts hB, c_lie hB, m_lie hB, c_kept hB, m_kept hB, m_rows r2, m_text x2, c_addTo (pl := 40) (S := S) (by omega) (by omega) (by omega) r0 r1, bd_some, c_addTo (pl := 60) (S := S') (by omega) (by omega) (by omega) x0 x1, bd_some]
  exact ⟨_, _, rfl, rfl, h.fol _⟩
end Digest
