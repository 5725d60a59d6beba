section Count
variable {n : Nat} {kd up lw : Nat → Nat} {dm : Nat} {w : Nat → Nat → Nat} {kp : KP} {c m : UU}
def run (st : Nat → Int32 → Int32) : Nat → Nat → Int32 → Int32
  | 0, _, x => x
  | d + 1, i, x => run st d (i + 1) (st i x)
theorem run_ok {f : Nat → Int32 → Int32 → Option Int32} {N : Nat} {st : Nat → Int32 → Int32} (hf : ∀ n i x, i ≤ N → f (n + 1) x (nI i) = if N ≤ i then some x else f n (st i x) (nI (i + 1))) : ∀ (d i n : Nat) (x : Int32), i + d = N → d < n → f n x (nI i) = some (run st d i x) := by
  intro d
  induction d with
  | zero =>
    intro i n x h1 h2
    obtain ⟨n, rfl⟩ : ∃ n0, n = n0 + 1 := ⟨n - 1, by omega⟩
    rw [hf n i x (by omega), if_pos (by omega)]
    rfl
  | succ d ih =>
    intro i n x h1 h2
    obtain ⟨n, rfl⟩ : ∃ n0, n = n0 + 1 := ⟨n - 1, by omega⟩
    rw [hf n i x (by omega), if_neg (by omega), ih (i + 1) n _ (by omega) (by omega)]
    rfl
theorem run_oc {f g : Nat → Int32 → Int32 → Option Int32} {N : Nat} {st : Nat → Int32 → Int32} (hf : ∀ n i x, i ≤ N → f (n + 1) x (nI i) = if N ≤ i then some x else f n (st i x) (nI (i + 1))) (hg : ∀ n i x, i ≤ N → g (n + 1) x (nI i) = if N ≤ i then some x else g n (st i x) (nI (i + 1))) {i : Nat} {x : Int32} (h1 : i ≤ N) (h2 : N < 1000) : Oc (f fu x (nI i)) (g fu x (nI i)) :=
  ⟨_, run_ok hf (N - i) i fu x (by omega) (by unfold fu; omega), run_ok hg (N - i) i fu x (by omega) (by unfold fu; omega)⟩
theorem ifl {α : Type} {N i : Nat} {x : Int32} {a b : α} (hN : N < 1000) (hi : i < 1000) (e : x = nI N) : (if x ≤ nI i then a else b) = if N ≤ i then a else b := by
  subst e
  by_cases q : N ≤ i
  · rw [if_pos q, if_pos (nI_le q (by omega))]
  · rw [if_neg q, if_neg (nI_ge (by omega) (by omega))]
theorem if16 {α : Type} {i : Nat} {a b : α} (hi : i < 1000) : (if (16 : Int32) < nI i then a else b) = if 17 ≤ i then a else b := by
  by_cases q : 17 ≤ i
  · rw [if_pos q, if_pos (show (16 : Int32) < nI i from nI_lt (a := 16) (by omega) (by omega))]
  · rw [if_neg q, if_neg (show ¬ (16 : Int32) < nI i from fun z => by have := i_lt.mp z; rw [nI_toInt (by omega), show (16 : Int32).toInt = 16 from rfl] at this; omega)]
theorem if_to {α : Type} {p : Prop} [Decidable p] {a b b' : α} (h : ¬ p → b = b') : (if p then a else b) = if p then a else b' := by
  by_cases q : p
  · rw [if_pos q, if_pos q]
  · rw [if_neg q, if_neg q, h q]
theorem ct3 (h : TB n kd up lw dm w kp c m) : Oc (f_X4_lyingInAll c) (f_X6_counted_75 fu 0 2 m) := by
  refine run_oc (f := fun k x i => f_X4_lyingInAll_4 k x i c) (g := fun k x i => f_X6_counted_75 k x i m) (N := 17) (st := fun i x => x + nI (w dm (1 + i))) (fun k i x hi => ?_) (fun k i x hi => ?_) (i := 2) (by omega) (by omega)
  · show f_X4_lyingInAll_4 (k + 1) x (nI i) c = _
    rw [f_X4_lyingInAll_4, if16 (by omega)]
    refine if_to fun q => ?_
    rw [ix_n (by omega) (by omega), nI_clamp (by omega), lt_eq, lt_eq, nI_1, show ui c 12 i = _ from h.2.1.2.2.2.2.1 i (by omega)]
  · show f_X6_counted_75 (k + 1) x (nI i) m = _
    rw [f_X6_counted_75, if16 (by omega)]
    refine if_to fun q => ?_
    rw [n1p, ix_n (by omega) (by omega), nI_clamp (by omega), lt_eq, lt_eq, nI_1, m_now h (by omega)]
theorem ct4 (h : TB n kd up lw dm w kp c m) : Oc (f_X4_hadInAll c) (f_X6_counted_102 fu 0 0 m) := by
  have h7 := h.1.1
  refine run_oc (f := fun k x i => f_X4_hadInAll_4 k x i c) (g := fun k x i => f_X6_counted_102 k x i m) (N := n) (st := fun i x => x + nI (pc (w dm (18 + i)))) (fun k i x hi => ?_) (fun k i x hi => ?_) (i := 0) (by omega) (by omega)
  · show f_X4_hadInAll_4 (k + 1) x (nI i) c = _
    rw [f_X4_hadInAll_4, ifl (by omega) (by omega) h.2.1.1]
    refine if_to fun q => ?_
    rw [ix_n (by omega) (by omega), nI_clamp (by omega), lt_eq, lt_eq, nI_1, show ui c 16 i = _ from (h.2.1.2.2.2.2.2.1 i (by omega)).2.2.2.1, bitCount_eq ((wf_now h).2.2 i (by omega)).1]
  · show f_X6_counted_102 (k + 1) x (nI i) m = _
    rw [f_X6_counted_102, ifl (by omega) (by omega) h.2.2.1.1]
    refine if_to fun q => ?_
    rw [n18, ix_n (by omega) (by omega), nI_clamp (by omega), m_now h (by omega), bits_eq ((wf_now h).2.2 i (by omega)).1, bd_some, lt_eq, lt_eq, nI_1]
theorem ct5 (h : TB n kd up lw dm w kp c m) : Oc (f_X4_paidSet c) (f_X6_counted_135 fu 0 0 m) := by
  have h7 := h.1.1
  refine run_oc (f := fun k x i => f_X4_paidSet_4 k x i c) (g := fun k x i => f_X6_counted_135 k x i m) (N := n) (st := fun i x => if nI (due up lw i - Sm (w dm (18 + i))) = 0 then x ||| ((1 : Int32) <<< (nI i &&& (31 : Int32))) else x ||| 0) (fun k i x hi => ?_) (fun k i x hi => ?_) (i := 0) (by omega) (by omega)
  · show f_X4_paidSet_4 (k + 1) x (nI i) c = _
    rw [f_X4_paidSet_4, ifl (by omega) (by omega) h.2.1.1]
    refine if_to fun q => ?_
    rw [ix_n (by omega) (by omega), nI_clamp (by omega), show ui c 17 i = _ from (h.2.1.2.2.2.2.2.1 i (by omega)).2.2.2.2]
    try dsimp only
    unfold f_X4_paidSet_29
    split <;> rw [lt_eq, lt_eq, nI_1]
  · show f_X6_counted_135 (k + 1) x (nI i) m = _
    rw [f_X6_counted_135, ifl (by omega) (by omega) h.2.2.1.1]
    refine if_to fun q => ?_
    rw [m_lack h (by omega), bd_some]
    try dsimp only
    unfold f_X6_counted_159
    split <;> rw [lt_eq, lt_eq, nI_1]
theorem szI_lt {o : Option (List Int32)} (h : ∀ l, o = some l → l.length ≤ 100) : (szI o < 0) ↔ szI o = -1 := by
  cases o with
  | none => exact ⟨fun _ => rfl, fun _ => by show (-1 : Int32) < 0; decide⟩
  | some l => exact ⟨fun q => absurd q (nI_pos (by have := h l rfl; omega)), fun q => absurd q (szI_neg (h l rfl))⟩
theorem ct7 {S : Nat → Option (List Int32)} (h : RO S c m) : Oc (f_X3_howMany 1 6 c) (f_X6_counted_176 fu 0 0 m) := by
  refine run_oc (f := fun k x i => f_X3_howMany_4 1 6 k x i c) (g := fun k x i => f_X6_counted_176 k x i m) (N := 6) (st := fun i x => if szI (S i) = -1 then x + 0 else x + 1) (fun k i x hi => ?_) (fun k i x hi => ?_) (i := 0) (by omega) (by omega)
  · show f_X3_howMany_4 1 6 (k + 1) x (nI i) c = _
    rw [f_X3_howMany_4, ifl (N := 6) (x := Int32.ofNat 6) (by omega) (by omega) rfl]
    refine if_to fun q => ?_
    rw [s_there_in (by omega) (by omega), show ui c (1 + 1) i = _ from (h.2.1 i (by omega)).1, bd_some]
    try dsimp only
    unfold f_X3_howMany_27
    by_cases z : szI (S i) = -1
    · rw [if_pos z, if_pos z, if_pos t00, lt_eq, lt_eq, nI_1]
    · rw [if_neg z, if_neg z, if_neg n10, lt_eq, lt_eq, nI_1]
  · show f_X6_counted_176 (k + 1) x (nI i) m = _
    rw [f_X6_counted_176, ifl (N := 6) (x := (6 : Int32)) (by omega) (by omega) rfl]
    refine if_to fun q => ?_
    have hz := szI_lt (o := S i) (fun l hl => by have := ((h.2.2 i (by omega)).2 l hl).1; omega)
    rw [ix_n (by omega) (by omega), nI_clamp (by omega), (h.2.2 i (by omega)).1]
    try dsimp only
    unfold f_X6_counted_197
    by_cases z : szI (S i) = -1
    · rw [if_pos z, if_pos (hz.mpr z), lt_eq, lt_eq, nI_1]
    · rw [if_neg z, if_neg (fun q => z (hz.mp q)), lt_eq, lt_eq, nI_1]
theorem ct8 {S : Nat → Option (List Int32)} (h : TX S c m) : Oc (f_X3_howMany 4 4 c) (f_X6_counted_209 fu 0 0 m) := by
  refine run_oc (f := fun k x i => f_X3_howMany_4 4 4 k x i c) (g := fun k x i => f_X6_counted_209 k x i m) (N := 4) (st := fun i x => if szI (S i) = -1 then x + 0 else x + 1) (fun k i x hi => ?_) (fun k i x hi => ?_) (i := 0) (by omega) (by omega)
  · show f_X3_howMany_4 4 4 (k + 1) x (nI i) c = _
    rw [f_X3_howMany_4, ifl (N := 4) (x := Int32.ofNat 4) (by omega) (by omega) rfl]
    refine if_to fun q => ?_
    rw [s_there_in (by omega) (by omega), show ui c (4 + 1) i = _ from (h.2.1 i (by omega)).1, bd_some]
    try dsimp only
    unfold f_X3_howMany_27
    by_cases z : szI (S i) = -1
    · rw [if_pos z, if_pos z, if_pos t00, lt_eq, lt_eq, nI_1]
    · rw [if_neg z, if_neg z, if_neg n10, lt_eq, lt_eq, nI_1]
  · show f_X6_counted_209 (k + 1) x (nI i) m = _
    rw [f_X6_counted_209, ifl (N := 4) (x := (4 : Int32)) (by omega) (by omega) rfl]
    refine if_to fun q => ?_
    have hz := szI_lt (o := S i) (fun l hl => by have := ((h.2.2 i (by omega)).2 l hl).1; omega)
    rw [ix_n (by omega) (by omega), nI_clamp (by omega), (h.2.2 i (by omega)).1]
    try dsimp only
    unfold f_X6_counted_229
    by_cases z : szI (S i) = -1
    · rw [if_pos z, if_pos (hz.mpr z), lt_eq, lt_eq, nI_1]
    · rw [if_neg z, if_neg (fun q => z (hz.mp q)), lt_eq, lt_eq, nI_1]
theorem kept (h : TB n kd up lw dm w kp c m) {i : Nat} (hi : i < 3) : (ui c (22 + 10 * i) 0 = 0 ∧ ui m 70 i = -1 ∧ kp i = none) ∨ ∃ dk wk, kp i = some (dk, wk) ∧ ui c (22 + 10 * i) 0 = nI n ∧ 0 < n ∧ dk ≤ 40 ∧ ui c (22 + 10 * i) 2 = nI dk ∧ ui m 70 i = nI dk := by
  cases hk : kp i with
  | none => exact Or.inl ⟨(h.2.2.2 i hi).1 hk, (h.2.2.1.2.2.2.2.2 i hi).1 hk, rfl⟩
  | some q =>
    obtain ⟨dk, wk⟩ := q
    obtain ⟨h0, hT⟩ := (h.2.2.2 i hi).2 dk wk hk
    exact Or.inr ⟨dk, wk, rfl, hT.1, h0, hT.2.2.2.2.2.2.1, hT.2.2.1, ((h.2.2.1.2.2.2.2.2 i hi).2 dk wk hk).1⟩
theorem ct9 (h : TB n kd up lw dm w kp c m) : Oc (f_X5_keptTables c) (f_X6_counted_241 fu 0 0 m) := by
  have h7 := h.1.1
  refine run_oc (f := fun k x i => f_X5_keptTables_4 k x i c) (g := fun k x i => f_X6_counted_241 k x i m) (N := 3) (st := fun i x => if kp i = none then x + 0 else x + 1) (fun k i x hi => ?_) (fun k i x hi => ?_) (i := 0) (by omega) (by omega)
  · show f_X5_keptTables_4 (k + 1) x (nI i) c = _
    rw [f_X5_keptTables_4, ifl (N := 3) (x := (3 : Int32)) (by omega) (by omega) rfl]
    refine if_to fun q => ?_
    rw [ix_n (by omega) (by omega), nI_clamp (by omega)]
    try dsimp only
    unfold f_X5_keptTables_27
    rcases kept h (show i < 3 by omega) with ⟨a, b, e⟩ | ⟨dk, wk, e, a, h0, -⟩
    · rw [a, if_pos (by decide), if_pos e, lt_eq, lt_eq, nI_1]
    · rw [a, if_neg (nI_nle (by omega) (by omega)), e, if_neg (by intro z; cases z), lt_eq, lt_eq, nI_1]
  · show f_X6_counted_241 (k + 1) x (nI i) m = _
    rw [f_X6_counted_241, ifl (N := 3) (x := (3 : Int32)) (by omega) (by omega) rfl]
    refine if_to fun q => ?_
    rw [ix_n (by omega) (by omega), nI_clamp (by omega)]
    try dsimp only
    unfold f_X6_counted_261
    rcases kept h (show i < 3 by omega) with ⟨a, b, e⟩ | ⟨dk, wk, e, a, h0, h1, h2, b⟩
    · rw [b, if_pos (by decide), if_pos e, lt_eq, lt_eq, nI_1]
    · rw [b, if_neg (nI_pos (by omega)), e, if_neg (by intro z; cases z), lt_eq, lt_eq, nI_1]
theorem isOf_13 : ∀ k, k < 6 → (f_X0_isOf (nI k) 1 = f_X6_isOf (nI k) 1) ∧ f_X0_isOf (nI k) 3 = f_X6_isOf (nI k) 3 := by decide
theorem ct10 (h : TB n kd up lw dm w kp c m) {z y : Int32} (hz : (z = 1 ∧ y = 10) ∨ (z = 3 ∧ y = 11)) : Oc (f_X4_howManyOf z c) (f_X6_counted_273 fu y 0 0 m) := by
  have h7 := h.1.1
  refine run_oc (f := fun k x i => f_X4_howManyOf_4 k z x i c) (g := fun k x i => f_X6_counted_273 k y x i m) (N := n) (st := fun i x => if f_X0_isOf (nI (kd i)) z = 0 then x + 0 else x + 1) (fun k i x hi => ?_) (fun k i x hi => ?_) (i := 0) (by omega) (by omega)
  · show f_X4_howManyOf_4 (k + 1) z x (nI i) c = _
    rw [f_X4_howManyOf_4, ifl (by omega) (by omega) h.2.1.1]
    refine if_to fun q => ?_
    rw [ix_n (by omega) (by omega), nI_clamp (by omega), show ui c 13 i = _ from (h.2.1.2.2.2.2.2.1 i (by omega)).1]
    try dsimp only
    unfold f_X4_howManyOf_31
    split <;> rw [lt_eq, lt_eq, nI_1]
  · show f_X6_counted_273 (k + 1) y x (nI i) m = _
    rw [f_X6_counted_273, ifl (by omega) (by omega) h.2.2.1.1]
    refine if_to fun q => ?_
    have hk := (h.1.2.1 i (by omega)).1
    rw [ix_n (by omega) (by omega), nI_clamp (by omega), (h.2.2.1.2.2.1 i (by omega)).1]
    try dsimp only
    unfold f_X6_counted_299 f_X6_counted_310
    rcases hz with ⟨rfl, rfl⟩ | ⟨rfl, rfl⟩
    · rw [if_pos rfl, (isOf_13 _ hk).1]
      split <;> rw [lt_eq, lt_eq, nI_1]
    · rw [if_neg (by decide), (isOf_13 _ hk).2]
      split <;> rw [lt_eq, lt_eq, nI_1]
theorem oc_bind {x y : Option Int32} (h : Oc x y) : Oc (x.bind fun q => some q) (y.bind fun q => some q) := by
  obtain ⟨a, rfl, rfl⟩ := h
  exact ⟨a, rfl, rfl⟩
theorem oc_l {x y : Option Int32} (h : Oc x y) : Oc (x.bind fun q => some q) y := by
  obtain ⟨a, rfl, rfl⟩ := h
  exact ⟨a, rfl, rfl⟩
theorem counted (h : Inv c m) {k : Nat} (hk : k < 12) : Oc (f_X5_count (nI k) c) (f_X6_counted (nI k) m) := by
  obtain ⟨-, -, ⟨S, hS⟩, ⟨S', hX⟩, n, kd, up, lw, dm, w, kp, hB⟩ := h
  have i0 : ∀ x : Option Int32, ix (0 : Int32) 25 x = x := fun x => ix_n (j := 0) (by omega) (by omega)
  have hk' : k = 0 ∨ k = 1 ∨ k = 2 ∨ k = 3 ∨ k = 4 ∨ k = 5 ∨ k = 6 ∨ k = 7 ∨ k = 8 ∨ k = 9 ∨ k = 10 ∨ k = 11 := by omega
  unfold f_X5_count f_X6_counted
  rcases hk' with rfl | rfl | rfl | rfl | rfl | rfl | rfl | rfl | rfl | rfl | rfl | rfl
  · rw [if_pos (show nI 0 = (0 : Int32) from rfl), if_pos (show nI 0 = (0 : Int32) from rfl)]
    exact ⟨_, congrArg some hB.2.1.1, congrArg some hB.2.2.1.1⟩
  · rw [if_neg (show ¬ nI 1 = (0 : Int32) by decide), if_pos (show nI 1 = (1 : Int32) from rfl), if_neg (show ¬ nI 1 = (0 : Int32) by decide), if_pos (show nI 1 = (1 : Int32) from rfl)]
    rw [i0]
    exact ⟨_, congrArg some hB.2.1.2.1, congrArg some (show ui m 68 0 = _ from m_now hB (by omega))⟩
  · rw [if_neg (show ¬ nI 2 = (0 : Int32) by decide), if_neg (show ¬ nI 2 = (1 : Int32) by decide), if_pos (show nI 2 = (2 : Int32) from rfl), if_neg (show ¬ nI 2 = (0 : Int32) by decide), if_neg (show ¬ nI 2 = (1 : Int32) by decide), if_pos (show nI 2 = (2 : Int32) from rfl)]
    exact ⟨_, congrArg some hB.2.1.2.2.1, congrArg some hB.2.2.1.2.1⟩
  · rw [if_neg (show ¬ nI 3 = (0 : Int32) by decide), if_neg (show ¬ nI 3 = (1 : Int32) by decide), if_neg (show ¬ nI 3 = (2 : Int32) by decide), if_pos (show nI 3 = (3 : Int32) from rfl), if_neg (show ¬ nI 3 = (0 : Int32) by decide), if_neg (show ¬ nI 3 = (1 : Int32) by decide), if_neg (show ¬ nI 3 = (2 : Int32) by decide), if_pos (show nI 3 = (3 : Int32) from rfl)]
    exact oc_l (ct3 hB)
  · rw [if_neg (show ¬ nI 4 = (0 : Int32) by decide), if_neg (show ¬ nI 4 = (1 : Int32) by decide), if_neg (show ¬ nI 4 = (2 : Int32) by decide), if_neg (show ¬ nI 4 = (3 : Int32) by decide), if_pos (show nI 4 = (4 : Int32) from rfl), if_neg (show ¬ nI 4 = (0 : Int32) by decide), if_neg (show ¬ nI 4 = (1 : Int32) by decide), if_neg (show ¬ nI 4 = (2 : Int32) by decide), if_neg (show ¬ nI 4 = (3 : Int32) by decide), if_pos (show nI 4 = (4 : Int32) from rfl)]
    exact oc_l (ct4 hB)
  · rw [if_neg (show ¬ nI 5 = (0 : Int32) by decide), if_neg (show ¬ nI 5 = (1 : Int32) by decide), if_neg (show ¬ nI 5 = (2 : Int32) by decide), if_neg (show ¬ nI 5 = (3 : Int32) by decide), if_neg (show ¬ nI 5 = (4 : Int32) by decide), if_pos (show nI 5 = (5 : Int32) from rfl), if_neg (show ¬ nI 5 = (0 : Int32) by decide), if_neg (show ¬ nI 5 = (1 : Int32) by decide), if_neg (show ¬ nI 5 = (2 : Int32) by decide), if_neg (show ¬ nI 5 = (3 : Int32) by decide), if_neg (show ¬ nI 5 = (4 : Int32) by decide), if_pos (show nI 5 = (5 : Int32) from rfl)]
    exact oc_l (ct5 hB)
  · rw [if_neg (show ¬ nI 6 = (0 : Int32) by decide), if_neg (show ¬ nI 6 = (1 : Int32) by decide), if_neg (show ¬ nI 6 = (2 : Int32) by decide), if_neg (show ¬ nI 6 = (3 : Int32) by decide), if_neg (show ¬ nI 6 = (4 : Int32) by decide), if_neg (show ¬ nI 6 = (5 : Int32) by decide), if_pos (show nI 6 = (6 : Int32) from rfl), if_neg (show ¬ nI 6 = (0 : Int32) by decide), if_neg (show ¬ nI 6 = (1 : Int32) by decide), if_neg (show ¬ nI 6 = (2 : Int32) by decide), if_neg (show ¬ nI 6 = (3 : Int32) by decide), if_neg (show ¬ nI 6 = (4 : Int32) by decide), if_neg (show ¬ nI 6 = (5 : Int32) by decide), if_pos (show nI 6 = (6 : Int32) from rfl)]
    rw [m_lying hB]
    exact ⟨_, congrArg some hB.2.1.2.2.2.1, rfl⟩
  · rw [if_neg (show ¬ nI 7 = (0 : Int32) by decide), if_neg (show ¬ nI 7 = (1 : Int32) by decide), if_neg (show ¬ nI 7 = (2 : Int32) by decide), if_neg (show ¬ nI 7 = (3 : Int32) by decide), if_neg (show ¬ nI 7 = (4 : Int32) by decide), if_neg (show ¬ nI 7 = (5 : Int32) by decide), if_neg (show ¬ nI 7 = (6 : Int32) by decide), if_pos (show nI 7 = (7 : Int32) from rfl), if_neg (show ¬ nI 7 = (0 : Int32) by decide), if_neg (show ¬ nI 7 = (1 : Int32) by decide), if_neg (show ¬ nI 7 = (2 : Int32) by decide), if_neg (show ¬ nI 7 = (3 : Int32) by decide), if_neg (show ¬ nI 7 = (4 : Int32) by decide), if_neg (show ¬ nI 7 = (5 : Int32) by decide), if_neg (show ¬ nI 7 = (6 : Int32) by decide), if_pos (show nI 7 = (7 : Int32) from rfl)]
    exact oc_l (ct7 hS)
  · rw [if_neg (show ¬ nI 8 = (0 : Int32) by decide), if_neg (show ¬ nI 8 = (1 : Int32) by decide), if_neg (show ¬ nI 8 = (2 : Int32) by decide), if_neg (show ¬ nI 8 = (3 : Int32) by decide), if_neg (show ¬ nI 8 = (4 : Int32) by decide), if_neg (show ¬ nI 8 = (5 : Int32) by decide), if_neg (show ¬ nI 8 = (6 : Int32) by decide), if_neg (show ¬ nI 8 = (7 : Int32) by decide), if_pos (show nI 8 = (8 : Int32) from rfl), if_neg (show ¬ nI 8 = (0 : Int32) by decide), if_neg (show ¬ nI 8 = (1 : Int32) by decide), if_neg (show ¬ nI 8 = (2 : Int32) by decide), if_neg (show ¬ nI 8 = (3 : Int32) by decide), if_neg (show ¬ nI 8 = (4 : Int32) by decide), if_neg (show ¬ nI 8 = (5 : Int32) by decide), if_neg (show ¬ nI 8 = (6 : Int32) by decide), if_neg (show ¬ nI 8 = (7 : Int32) by decide), if_pos (show nI 8 = (8 : Int32) from rfl)]
    exact oc_l (ct8 hX)
  · rw [if_neg (show ¬ nI 9 = (0 : Int32) by decide), if_neg (show ¬ nI 9 = (1 : Int32) by decide), if_neg (show ¬ nI 9 = (2 : Int32) by decide), if_neg (show ¬ nI 9 = (3 : Int32) by decide), if_neg (show ¬ nI 9 = (4 : Int32) by decide), if_neg (show ¬ nI 9 = (5 : Int32) by decide), if_neg (show ¬ nI 9 = (6 : Int32) by decide), if_neg (show ¬ nI 9 = (7 : Int32) by decide), if_neg (show ¬ nI 9 = (8 : Int32) by decide), if_pos (show nI 9 = (9 : Int32) from rfl), if_neg (show ¬ nI 9 = (0 : Int32) by decide), if_neg (show ¬ nI 9 = (1 : Int32) by decide), if_neg (show ¬ nI 9 = (2 : Int32) by decide), if_neg (show ¬ nI 9 = (3 : Int32) by decide), if_neg (show ¬ nI 9 = (4 : Int32) by decide), if_neg (show ¬ nI 9 = (5 : Int32) by decide), if_neg (show ¬ nI 9 = (6 : Int32) by decide), if_neg (show ¬ nI 9 = (7 : Int32) by decide), if_neg (show ¬ nI 9 = (8 : Int32) by decide), if_pos (show nI 9 = (9 : Int32) from rfl)]
    exact oc_l (ct9 hB)
  · rw [if_neg (show ¬ nI 10 = (0 : Int32) by decide), if_neg (show ¬ nI 10 = (1 : Int32) by decide), if_neg (show ¬ nI 10 = (2 : Int32) by decide), if_neg (show ¬ nI 10 = (3 : Int32) by decide), if_neg (show ¬ nI 10 = (4 : Int32) by decide), if_neg (show ¬ nI 10 = (5 : Int32) by decide), if_neg (show ¬ nI 10 = (6 : Int32) by decide), if_neg (show ¬ nI 10 = (7 : Int32) by decide), if_neg (show ¬ nI 10 = (8 : Int32) by decide), if_neg (show ¬ nI 10 = (9 : Int32) by decide), if_pos (show nI 10 = (10 : Int32) from rfl), if_neg (show ¬ nI 10 = (0 : Int32) by decide), if_neg (show ¬ nI 10 = (1 : Int32) by decide), if_neg (show ¬ nI 10 = (2 : Int32) by decide), if_neg (show ¬ nI 10 = (3 : Int32) by decide), if_neg (show ¬ nI 10 = (4 : Int32) by decide), if_neg (show ¬ nI 10 = (5 : Int32) by decide), if_neg (show ¬ nI 10 = (6 : Int32) by decide), if_neg (show ¬ nI 10 = (7 : Int32) by decide), if_neg (show ¬ nI 10 = (8 : Int32) by decide), if_neg (show ¬ nI 10 = (9 : Int32) by decide)]
    exact oc_l (ct10 hB (Or.inl ⟨rfl, rfl⟩))
  · rw [if_neg (show ¬ nI 11 = (0 : Int32) by decide), if_neg (show ¬ nI 11 = (1 : Int32) by decide), if_neg (show ¬ nI 11 = (2 : Int32) by decide), if_neg (show ¬ nI 11 = (3 : Int32) by decide), if_neg (show ¬ nI 11 = (4 : Int32) by decide), if_neg (show ¬ nI 11 = (5 : Int32) by decide), if_neg (show ¬ nI 11 = (6 : Int32) by decide), if_neg (show ¬ nI 11 = (7 : Int32) by decide), if_neg (show ¬ nI 11 = (8 : Int32) by decide), if_neg (show ¬ nI 11 = (9 : Int32) by decide), if_neg (show ¬ nI 11 = (10 : Int32) by decide), if_pos (show nI 11 = (11 : Int32) from rfl), if_neg (show ¬ nI 11 = (0 : Int32) by decide), if_neg (show ¬ nI 11 = (1 : Int32) by decide), if_neg (show ¬ nI 11 = (2 : Int32) by decide), if_neg (show ¬ nI 11 = (3 : Int32) by decide), if_neg (show ¬ nI 11 = (4 : Int32) by decide), if_neg (show ¬ nI 11 = (5 : Int32) by decide), if_neg (show ¬ nI 11 = (6 : Int32) by decide), if_neg (show ¬ nI 11 = (7 : Int32) by decide), if_neg (show ¬ nI 11 = (8 : Int32) by decide), if_neg (show ¬ nI 11 = (9 : Int32) by decide)]
    exact oc_l (ct10 hB (Or.inr ⟨rfl, rfl⟩))
theorem op_count (h : Inv c m) (x : Int32) : Oc (f_X5_count x c) (f_X6_count x m) := by
  unfold f_X6_count
  rcases i_cases x (n := 12) (by omega) with hx | ⟨k, hk, rfl⟩
  · rw [show f_X6_in x 0 11 = 0 from in_out (n := 11) (by omega) hx, if_pos t00]
    have ne : ∀ j : Nat, j < 12 → ¬ x = nI j := fun j hj e => by
      subst e
      rcases hx with hx | hx
      · exact nI_pos (by omega) hx
      · exact nI_ge (by omega) (by omega) hx
    unfold f_X5_count
    rw [if_neg (show ¬ x = 0 from ne 0 (by omega)), if_neg (show ¬ x = 1 from ne 1 (by omega)), if_neg (show ¬ x = 2 from ne 2 (by omega)), if_neg (show ¬ x = 3 from ne 3 (by omega)), if_neg (show ¬ x = 4 from ne 4 (by omega)), if_neg (show ¬ x = 5 from ne 5 (by omega)), if_neg (show ¬ x = 6 from ne 6 (by omega)), if_neg (show ¬ x = 7 from ne 7 (by omega)), if_neg (show ¬ x = 8 from ne 8 (by omega)), if_neg (show ¬ x = 9 from ne 9 (by omega)), if_neg (show ¬ x = 10 from ne 10 (by omega)), if_neg (show ¬ x = 11 from ne 11 (by omega))]
    exact ⟨_, rfl, rfl⟩
  · rw [show f_X6_in (nI k) 0 11 = 1 from in_in (n := 11) (by omega) (by omega), if_neg n10]
    obtain ⟨a, e1, e2⟩ := counted h hk
    exact ⟨a, e1, by rw [e2]; rfl⟩
end Count
