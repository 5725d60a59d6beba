def mk0 (p : Nat → Bool) : Nat → Nat
  | 0 => 0
  | n + 1 => mk0 p n + if p n = true then 2 ^ n else 0
theorem mk0_lt (p : Nat → Bool) : ∀ n, mk0 p n < 2 ^ n := by
  intro n
  induction n with
  | zero => show 0 < 1; omega
  | succ n ih =>
    show mk0 p n + (if p n = true then 2 ^ n else 0) < 2 ^ (n + 1)
    rw [Nat.pow_succ]
    split <;> omega
theorem mk0_or (p : Nat → Bool) {n : Nat} : nI (mk0 p n) ||| nI (2 ^ n) = nI (mk0 p n + 2 ^ n) := by
  rw [fa_or, pw_add (Nat.testBit_lt_two_pow (mk0_lt p n))]
theorem mk0_self : ∀ s, s < 64 → mk0 (fun k => s.testBit k) 6 = s := by decide
theorem mk0_congr {p q : Nat → Bool} : ∀ n, (∀ k, k < n → p k = q k) → mk0 p n = mk0 q n := by
  intro n
  induction n with
  | zero => intro _; rfl
  | succ n ih =>
    intro h
    show mk0 p n + _ = mk0 q n + _
    rw [ih (fun k hk => h k (by omega)), h n (by omega)]
theorem mk0_bit {p : Nat → Bool} {k : Nat} (hk : k < 6) : (mk0 p 6).testBit k = p k := by
  have h : ∀ b0 b1 b2 b3 b4 b5 : Bool, ∀ k, k < 6 → (mk0 (fun k => [b0, b1, b2, b3, b4, b5].getD k false) 6).testBit k = [b0, b1, b2, b3, b4, b5].getD k false := by decide
  have e : mk0 p 6 = mk0 (fun k => [p 0, p 1, p 2, p 3, p 4, p 5].getD k false) 6 := rfl
  rw [e, h _ _ _ _ _ _ k hk]
  have : k = 0 ∨ k = 1 ∨ k = 2 ∨ k = 3 ∨ k = 4 ∨ k = 5 := by omega
  rcases this with rfl | rfl | rfl | rfl | rfl | rfl <;> rfl
def bI (a : Bool) : Int32 := if a = true then 1 else 0
theorem al_l {s d : Nat} (hs : s < 64) (hd : d ≤ 16) (a : Bool) (u : UU) (P : Nat → Bool) (hP : ∀ k, P k = (s.testBit k && ((KM k).testBit d == a))) : ∀ (e j F : Nat), j + e = 6 → e < F → f_X0_answeringAlike_5 F (nI s) (nI d) (bI a) (nI (mk0 P j)) (nI j) u = some (nI (mk0 P 6)) := by
  intro e
  induction e with
  | zero =>
    intro j F h1 h2
    obtain ⟨F, rfl⟩ : ∃ F0, F = F0 + 1 := ⟨F - 1, by omega⟩
    obtain rfl : j = 6 := by omega
    rw [f_X0_answeringAlike_5, if_pos (show (6 : Int32) ≤ nI 6 by decide)]
  | succ e ih =>
    intro j F h1 h2
    obtain ⟨F, rfl⟩ : ∃ F0, F = F0 + 1 := ⟨F - 1, by omega⟩
    rw [f_X0_answeringAlike_5, if_neg (show ¬ (6 : Int32) ≤ nI j from nI_ge (b := 6) (by omega) (by omega)), holds_eq (by omega) (by omega), partsOf_eq j (by omega), holds_eq (by have := KM_lt j (by omega); omega) (by omega), shl1 (by omega)]
    unfold f_X0_answeringAlike_41
    simp only [lt_eq, nI_1]
    have nxt := ih (j + 1) F (by omega) (by omega)
    have st : mk0 P (j + 1) = mk0 P j + if P j = true then 2 ^ j else 0 := rfl
    by_cases b : s.testBit j = true
    · rw [if_pos b, if_neg n10]
      by_cases q : (KM j).testBit d = a
      · have hp : P j = true := by rw [hP, b, q]; simp
        rw [if_pos, mk0_or P]
        · rw [st, hp, if_pos rfl] at nxt
          exact nxt
        · rw [q]; rfl
      · have hp : P j = false := by rw [hP, b]; simpa using q
        rw [if_neg]
        · rw [st, hp, if_neg (by decide), Nat.add_zero] at nxt
          exact nxt
        · unfold bI
          revert q
          cases (KM j).testBit d <;> cases a <;> decide
    · have hp : P j = false := by rw [hP]; simp [b]
      rw [if_neg b, if_pos rfl]
      rw [st, hp, if_neg (by decide), Nat.add_zero] at nxt
      exact nxt
theorem al_eq {s d : Nat} (hs : s < 64) (hd : d ≤ 16) (a : Bool) (u : UU) : f_X0_answeringAlike (nI s) (nI d) (bI a) u = some (nI (mk0 (fun k => s.testBit k && ((KM k).testBit d == a)) 6)) := al_l hs hd a u _ (fun _ => rfl) 6 0 fu (by omega) (by unfold fu; omega)
/-! the pairs -/
def dP (l : List Int32) (p : Nat) : Nat := (l.getD (2 * p) 0).toNatClampNeg
def aP (l : List Int32) (p : Nat) : Bool := decide (l.getD (2 * p + 1) 0 = 1)
def PQ (l : List Int32) (p : Nat) : Prop := 2 ≤ dP l p ∧ dP l p ≤ 16 ∧ l.getD (2 * p) 0 = nI (dP l p) ∧ (l.getD (2 * p + 1) 0 = 0 ∨ l.getD (2 * p + 1) 0 = 1)
theorem in01 (x : Int32) : (f_X6_in x 0 1 = 0 ∧ (x < 0 ∨ ¬ x ≤ 1)) ∨ (f_X6_in x 0 1 = 1 ∧ ¬ x < 0 ∧ x ≤ 1 ∧ (x = 0 ∨ x = 1)) := by
  rcases i_cases x (n := 2) (by omega) with h | ⟨j, hj, rfl⟩
  · refine Or.inl ⟨in_out (n := 1) (by omega) h, ?_⟩
    rcases h with h | h
    · exact Or.inl h
    · refine Or.inr fun q => ?_
      have h1 := i_le.mp h
      have h2 := i_le.mp q
      rw [nI_toInt (by omega)] at h1
      rw [show (1 : Int32).toInt = 1 from rfl] at h2
      omega
  · refine Or.inr ⟨in_in (n := 1) (by omega) (by omega), nI_pos (by omega), nI_le (b := 1) (by omega) (by omega), ?_⟩
    have : j = 0 ∨ j = 1 := by omega
    rcases this with rfl | rfl
    · exact Or.inl rfl
    · exact Or.inr rfl
theorem np_bad {m : UU} {t : Nat} {l : List Int32} (ht : t < 6) (hm : GM t l m) {N : Nat} (hN : l.length = 2 * N) : ∀ (d p G : Nat), p + d = N → d < G → f_X6_needPairs_45 G (nI t) 0 (nI (2 * p)) m = some (-3, foM m 3) := by
  have h40 := hm.1
  intro d
  induction d with
  | zero =>
    intro p G h1 h2
    obtain ⟨G, rfl⟩ : ∃ G0, G = G0 + 1 := ⟨G - 1, by omega⟩
    rw [f_X6_needPairs_45, ix_n ht (by omega), nI_clamp (by omega), hm.2.1, if_pos (nI_le (by omega) (by omega)), if_pos t00, show f_X6_meets (3 : Int32) m = _ from f_meets (f := 3) (by omega)]
    rfl
  | succ d ih =>
    intro p G h1 h2
    obtain ⟨G, rfl⟩ : ∃ G0, G = G0 + 1 := ⟨G - 1, by omega⟩
    rw [f_X6_needPairs_45, ix_n ht (by omega), nI_clamp (by omega), hm.2.1, if_neg (nI_ge (by omega) (by omega)), if_pos t00]
    unfold f_X6_needPairs_91 f_X6_needPairs_92
    rw [lt_eq, show nI (2 * p) + (2 : Int32) = nI (2 * (p + 1)) from nI_add (2 * p) 2]
    exact ih (p + 1) G (by omega) (by omega)
theorem np_l {c m : UU} {t : Nat} {l : List Int32} (ht : t < 6) (hc : GC t l c) (hm : GM t l m) {N : Nat} (hN : l.length = 2 * N) : ∀ (d p F G : Nat), p + d = N → d < F → d < G → (f_X5_refusePairs_40 F (nI t) (nI l.length) (nI (2 * p)) c = some (0, c) ∧ f_X6_needPairs_45 G (nI t) 1 (nI (2 * p)) m = some (0, m) ∧ ∀ q, p ≤ q → q < N → PQ l q) ∨ (f_X5_refusePairs_40 F (nI t) (nI l.length) (nI (2 * p)) c = some (-3, foC c 3) ∧ f_X6_needPairs_45 G (nI t) 1 (nI (2 * p)) m = some (-3, foM m 3)) := by
  have h40 := hc.1
  have bad : f_X5_refusePairs_87 c = some (-3, foC c 3) := by
    unfold f_X5_refusePairs_87
    rw [show f_X5_found (3 : Int32) c = _ from f_found (f := 3) (by omega)]
    rfl
  intro d
  induction d with
  | zero =>
    intro p F G h1 h2 h3
    obtain ⟨F, rfl⟩ : ∃ F0, F = F0 + 1 := ⟨F - 1, by omega⟩
    obtain ⟨G, rfl⟩ : ∃ G0, G = G0 + 1 := ⟨G - 1, by omega⟩
    rw [f_X5_refusePairs_40, if_pos (nI_le (by omega) (by omega)), f_X6_needPairs_45, ix_n ht (by omega), nI_clamp (by omega), hm.2.1, if_pos (nI_le (by omega) (by omega)), if_neg n10]
    exact Or.inl ⟨rfl, rfl, fun q h1 h2 => absurd h1 (by omega)⟩
  | succ d ih =>
    intro p F G h1 h2 h3
    obtain ⟨F, rfl⟩ : ∃ F0, F = F0 + 1 := ⟨F - 1, by omega⟩
    obtain ⟨G, rfl⟩ : ∃ G0, G = G0 + 1 := ⟨G - 1, by omega⟩
    rw [f_X5_refusePairs_40, if_neg (nI_ge (by omega) (by omega)), nI_1, g_rd hc ht (by omega), bd_some, g_rd hc ht (by omega), bd_some, f_X6_needPairs_45, ix_n ht (by omega), nI_clamp (by omega), hm.2.1, if_neg (nI_ge (by omega) (by omega)), if_neg n10, gm_rd hm ht (by omega), bd_some, nI_1, gm_rd hm ht (by omega), bd_some, bad]
    unfold f_X6_needPairs_91 f_X6_needPairs_92
    rw [lt_eq, lt_eq, lt_eq, show nI (2 * p) + (2 : Int32) = nI (2 * (p + 1)) from nI_add (2 * p) 2]
    have nb := np_bad ht hm hN d (p + 1) G (by omega) (by omega)
    rcases part_cases (l.getD (2 * p) 0) with ⟨p1, p2⟩ | ⟨k, k1, k2, ek, p1, p2⟩
    · rw [p1, p2, if_pos t00, if_pos t00, nb]
      exact Or.inr ⟨rfl, rfl⟩
    · rw [p1, p2, if_neg n10, if_neg n10]
      rcases in01 (l.getD (2 * p + 1) 0) with ⟨q1, q2⟩ | ⟨q1, q2, q3, q4⟩
      · rw [q1, if_pos t00, nb]
        right
        refine ⟨?_, rfl⟩
        by_cases z : l.getD (2 * p + 1) 0 < 0
        · rw [if_pos z]
        · rw [if_neg z, if_neg (q2.resolve_left z)]
      · rw [q1, if_neg n10, if_neg q2, if_pos q3]
        rcases ih (p + 1) F G (by omega) (by omega) (by omega) with ⟨e1, e2, e3⟩ | ⟨e1, e2⟩
        · refine Or.inl ⟨e1, e2, fun q h1 h2 => ?_⟩
          by_cases z : q = p
          · subst z
            have hd : dP l q = k := by
              unfold dP
              rw [ek, nI_clamp (by omega)]
            exact ⟨by omega, by omega, by rw [hd]; exact ek, q4⟩
          · exact e3 q (by omega) h2
        · exact Or.inr ⟨e1, e2⟩
def okP (l : List Int32) (p k : Nat) : Bool := (KM k).testBit (dP l p) == aP l p
def allo (l : List Int32) : Nat → Nat → Nat → Bool
  | 0, _, _ => true
  | d + 1, p, k => okP l p k && allo l d (p + 1) k
theorem kc_l {c : UU} {t : Nat} {l : List Int32} (ht : t < 6) (hc : GC t l c) {N : Nat} (hN : l.length = 2 * N) (hP : ∀ q, q < N → PQ l q) : ∀ (d p F s : Nat), p + d = N → d < F → s < 64 → f_X5_kindsByPairs_5 F (nI t) (nI s) (nI (2 * p)) c = some (nI (mk0 (fun k => s.testBit k && allo l d p k) 6)) := by
  have h40 := hc.1
  intro d
  induction d with
  | zero =>
    intro p F s h1 h2 h3
    obtain ⟨F, rfl⟩ : ∃ F0, F = F0 + 1 := ⟨F - 1, by omega⟩
    rw [f_X5_kindsByPairs_5, s_size_in ht (by omega), bd_some, show ui c (1 + 1) t = _ from hc.2.2.1, if_pos (nI_le (by omega) (by omega))]
    rw [mk0_congr 6 (q := fun k => s.testBit k) (fun k hk => by show (s.testBit k && true) = _; simp), mk0_self s h3]
  | succ d ih =>
    intro p F s h1 h2 h3
    obtain ⟨F, rfl⟩ : ∃ F0, F = F0 + 1 := ⟨F - 1, by omega⟩
    obtain ⟨p1, p2, p3, p4⟩ := hP p (by omega)
    rw [f_X5_kindsByPairs_5, s_size_in ht (by omega), bd_some, show ui c (1 + 1) t = _ from hc.2.2.1, if_neg (nI_ge (by omega) (by omega)), g_rd hc ht (by omega), bd_some, nI_1, g_rd hc ht (by omega), bd_some, p3]
    unfold f_X5_kindsByPairs_47
    have e : ∀ a : Bool, ((f_X0_answeringAlike (nI s) (nI (dP l p)) (bI a) c).bind fun q_6 => lt (nI (2 * p) + 2) fun x3_7 => f_X5_kindsByPairs_5 F (nI t) q_6 x3_7 c) = some (nI (mk0 (fun k => (mk0 (fun k => s.testBit k && ((KM k).testBit (dP l p) == a)) 6).testBit k && allo l d (p + 1) k) 6)) := by
      intro a
      rw [al_eq h3 p2 a c, bd_some, lt_eq, show nI (2 * p) + (2 : Int32) = nI (2 * (p + 1)) from nI_add (2 * p) 2]
      exact ih (p + 1) F _ (by omega) (by omega) (mk0_lt _ 6)
    have e2 : ∀ a : Bool, a = aP l p → mk0 (fun k => (mk0 (fun k => s.testBit k && ((KM k).testBit (dP l p) == a)) 6).testBit k && allo l d (p + 1) k) 6 = mk0 (fun k => s.testBit k && allo l (d + 1) p k) 6 := by
      intro a ha
      refine mk0_congr 6 fun k hk => ?_
      show ((mk0 (fun k => s.testBit k && ((KM k).testBit (dP l p) == a)) 6).testBit k && allo l d (p + 1) k) = (s.testBit k && (okP l p k && allo l d (p + 1) k))
      rw [mk0_bit hk, ha]
      unfold okP
      rw [Bool.and_assoc]
    by_cases z : l.getD (2 * p + 1) 0 = 1
    · rw [if_pos z, ← e2 true (by unfold aP; rw [z]; rfl)]
      exact e true
    · rw [if_neg z, ← e2 false (by unfold aP; exact (decide_eq_false z).symm)]
      exact e false
theorem km_in {m : UU} {t : Nat} {l : List Int32} (ht : t < 6) (hm : GM t l m) {N : Nat} (hN : l.length = 2 * N) (hP : ∀ q, q < N → PQ l q) {k : Nat} (hk : k < 6) {K : Int32 → Int32 → Int32 → UU → Option Int32} {x : Int32} : ∀ (d p G : Nat) (b : Bool), p + d = N → d < G → f_X6_kindsBy_16 K G (nI t) x (nI k) (bI b) (nI (2 * p)) m = K (nI t) (x ||| (if (b && allo l d p k) = true then nI (2 ^ k) else 0)) (nI (k + 1)) m := by
  have h40 := hm.1
  intro d
  induction d with
  | zero =>
    intro p G b h1 h2
    obtain ⟨G, rfl⟩ : ∃ G0, G = G0 + 1 := ⟨G - 1, by omega⟩
    rw [f_X6_kindsBy_16, ix_n ht (by omega), nI_clamp (by omega), hm.2.1, if_pos (nI_le (by omega) (by omega)), shl1 (by omega)]
    unfold f_X6_kindsBy_90
    simp only [lt_eq, nI_1]
    show _ = K (nI t) (x ||| (if (b && true) = true then nI (2 ^ k) else 0)) (nI (k + 1)) m
    cases b
    · rfl
    · rfl
  | succ d ih =>
    intro p G b h1 h2
    obtain ⟨G, rfl⟩ : ∃ G0, G = G0 + 1 := ⟨G - 1, by omega⟩
    obtain ⟨p1, p2, p3, p4⟩ := hP p (by omega)
    rw [f_X6_kindsBy_16, ix_n ht (by omega), nI_clamp (by omega), hm.2.1, if_neg (nI_ge (by omega) (by omega)), gm_rd hm ht (by omega), bd_some, nI_1, gm_rd hm ht (by omega), p3, takesAs_eq hk (by omega) p1, bd_some, bd_some]
    unfold f_X6_kindsBy_61 f_X6_kindsBy_68 f_X6_kindsBy_69
    simp only [lt_eq]
    rw [show nI (2 * p) + (2 : Int32) = nI (2 * (p + 1)) from nI_add (2 * p) 2]
    have i0 := ih (p + 1) G false (by omega) (by omega)
    have i1 := ih (p + 1) G true (by omega) (by omega)
    show _ = K (nI t) (x ||| (if (b && (okP l p k && allo l d (p + 1) k)) = true then nI (2 ^ k) else 0)) (nI (k + 1)) m
    rw [show bI false = 0 from rfl, Bool.false_and] at i0
    rw [show bI true = 1 from rfl, Bool.true_and] at i1
    cases b
    · rw [show bI false = 0 from rfl, if_pos rfl, i0, Bool.false_and]
    · rw [show bI true = 1 from rfl, if_neg n10, i0, i1, Bool.true_and]
      unfold okP aP
      by_cases z : l.getD (2 * p + 1) 0 = 1
      · rw [if_pos z, z]
        cases (KM k).testBit (dP l p)
        · rfl
        · rfl
      · rw [if_neg z]
        have z' : decide (l.getD (2 * p + 1) 0 = 1) = false := decide_eq_false z
        rw [z']
        cases (KM k).testBit (dP l p)
        · rfl
        · rfl
theorem km_l {m : UU} {t : Nat} {l : List Int32} (ht : t < 6) (hm : GM t l m) {N : Nat} (hN : l.length = 2 * N) (hP : ∀ q, q < N → PQ l q) : ∀ (d k G : Nat), k + d = 6 → d < G → f_X6_kindsBy_4 G (nI t) (nI (mk0 (fun k => allo l N 0 k) k)) (nI k) m = some (nI (mk0 (fun k => allo l N 0 k) 6)) := by
  intro d
  induction d with
  | zero =>
    intro k G h1 h2
    obtain ⟨G, rfl⟩ : ∃ G0, G = G0 + 1 := ⟨G - 1, by omega⟩
    obtain rfl : k = 6 := by omega
    rw [f_X6_kindsBy_4, if_pos (show (6 : Int32) ≤ nI 6 by decide)]
  | succ d ih =>
    intro k G h1 h2
    obtain ⟨G, rfl⟩ : ∃ G0, G = G0 + 1 := ⟨G - 1, by omega⟩
    have := hm.1
    rw [f_X6_kindsBy_4, if_neg (show ¬ (6 : Int32) ≤ nI k from nI_ge (b := 6) (by omega) (by omega)), show (1 : Int32) = bI true from rfl, show (0 : Int32) = nI (2 * 0) from rfl, km_in ht hm hN hP (by omega) N 0 fu true (by omega) (by unfold fu; omega), Bool.true_and]
    have nxt := ih (k + 1) G (by omega) (by omega)
    rw [show mk0 (fun k => allo l N 0 k) (k + 1) = mk0 (fun k => allo l N 0 k) k + if allo l N 0 k = true then 2 ^ k else 0 from rfl] at nxt
    by_cases z : allo l N 0 k = true
    · rw [if_pos z, mk0_or]
      rw [if_pos z] at nxt
      exact nxt
    · rw [if_neg z] at nxt
      rw [if_neg z, show nI (mk0 (fun k => allo l N 0 k) k) ||| (0 : Int32) = nI (mk0 (fun k => allo l N 0 k) k ||| 0) from fa_or _ 0, Nat.or_zero]
      exact nxt
/-- what comes before kinds and test -/
theorem pairs {c m : UU} (h : Inv c m) (r : Int32) : (∃ a c' m', f_X5_refusePairs r c = some (a, c') ∧ f_X6_needPairs r m = some (a, m') ∧ a < 0 ∧ ¬ a = 0 ∧ Inv c' m') ∨ ∃ s, s < 64 ∧ f_X5_refusePairs r c = some (0, c) ∧ f_X6_needPairs r m = some (0, m) ∧ f_X5_kindsByPairs r c = some (nI s) ∧ f_X6_kindsBy r m = some (nI s) := by
  unfold f_X5_refusePairs f_X6_needPairs
  rcases i_cases r (n := 6) (by omega) with hr | ⟨j, hj, rfl⟩
  · rw [s_miss_out hr, row_out hr, bp_neg nm1, if_pos t00]
    exact Or.inl ⟨_, _, _, rfl, rfl, by decide, by decide, h⟩
  · rw [row_in hj, if_neg n10, ix_n hj (by omega), nI_clamp (by omega)]
    rcases rw_get h hj with ⟨a, b⟩ | ⟨l, hc, hm⟩
    · rw [s_miss_none hj (by omega) a, bp_neg nm3, b, if_neg m1_neg, show f_X6_meets (1 : Int32) m = _ from f_meets (f := 1) (by omega)]
      exact Or.inl ⟨_, _, _, rfl, rfl, by decide, by decide, h.found (by omega)⟩
    · have h40 := hc.1
      rw [s_miss_some hj (by omega) (show l.length ≤ 100 by omega) hc.2.2.1, bp_zero, hm.2.1, if_pos (nI_ge0 (by omega)), ix_n hj (by omega)]
      dsimp only
      rw [s_size_in hj (by omega), bd_some, show ui c (1 + 1) j = _ from hc.2.2.1]
      have e2 : nI l.length - nI l.length / (2 : Int32) * (2 : Int32) = nI (l.length % 2) := by
        rw [show nI l.length / (2 : Int32) = nI (l.length / 2) from pk_div (d := 2) (by omega) (by omega) (by omega), show nI (l.length / 2) * (2 : Int32) = nI (l.length / 2 * 2) from pk_mul _ 2, pk_sub (by omega)]
        congr 1
        omega
      rw [e2]
      by_cases z : l.length % 2 = 0
      · have hN : l.length = 2 * (l.length / 2) := by omega
        rw [z, if_pos (show nI 0 = 0 from rfl), if_pos (show nI 0 = 0 from rfl)]
        rcases np_l hj hc hm hN (l.length / 2) 0 fu fu (by omega) (by unfold fu; omega) (by unfold fu; omega) with ⟨g1, g2, g3⟩ | ⟨g1, g2⟩
        · refine Or.inr ⟨mk0 (fun k => allo l (l.length / 2) 0 k) 6, mk0_lt _ 6, g1, g2, ?_, ?_⟩
          · have := kc_l hj hc hN (fun q hq => g3 q (by omega) hq) (l.length / 2) 0 fu 63 (by omega) (by unfold fu; omega) (by omega)
            refine (show f_X5_kindsByPairs (nI j) c = _ from this).trans ?_
            rw [mk0_congr 6 (q := fun k => allo l (l.length / 2) 0 k) (fun k hk => by
              have e63 : ∀ k, k < 6 → (63 : Nat).testBit k = true := by decide
              show ((63 : Nat).testBit k && _) = _
              rw [e63 k hk, Bool.true_and])]
          · exact km_l hj hm hN (fun q hq => g3 q (by omega) hq) 6 0 fu (by omega) (by unfold fu; omega)
        · exact Or.inl ⟨_, _, _, g1, g2, by decide, by decide, h.found (by omega)⟩
      · rw [show l.length % 2 = 1 by omega, if_neg (show ¬ nI 1 = 0 by decide), if_neg (show ¬ nI 1 = 0 by decide), show f_X5_found (5 : Int32) c = _ from f_found (f := 5) (by omega), show f_X6_meets (5 : Int32) m = _ from f_meets (f := 5) (by omega)]
        exact Or.inl ⟨-3, _, _, rfl, rfl, by decide, by decide, h.found (by omega)⟩
theorem op_kinds {c m : UU} (h : Inv c m) (r : Int32) : Ok (f_X5_kinds r c) (f_X6_kinds r m) := by
  unfold f_X5_kinds f_X6_kinds
  rcases pairs h r with ⟨a, c', m', e1, e2, e3, e4, e5⟩ | ⟨s, hs, e1, e2, e3, e4⟩
  · rw [e1, e2, bd_some, bd_some]
    dsimp only
    rw [if_neg e4, if_neg (fun q => absurd (i_le.mp q) (by have := i_lt.mp e3; omega))]
    exact ⟨_, _, _, rfl, rfl, e5⟩
  · rw [e1, e2, bd_some, bd_some]
    dsimp only
    rw [if_pos t00, if_pos (show (0 : Int32) ≤ 0 by decide), e3, e4]
    exact Ok.same h _

def cn0 (p : Nat → Bool) : Nat → Nat
  | 0 => 0
  | n + 1 => cn0 p n + if p n = true then 1 else 0
theorem cn0_le (p : Nat → Bool) : ∀ n, cn0 p n ≤ n := by
  intro n
  induction n with
  | zero => exact Nat.le_refl _
  | succ n ih =>
    show cn0 p n + (if p n = true then 1 else 0) ≤ n + 1
    split <;> omega
theorem pc_mk0 (p : Nat → Bool) : pc (mk0 p 6) = cn0 p 6 := by
  have h : ∀ b0 b1 b2 b3 b4 b5 : Bool, pc (mk0 (fun k => [b0, b1, b2, b3, b4, b5].getD k false) 6) = cn0 (fun k => [b0, b1, b2, b3, b4, b5].getD k false) 6 := by decide
  exact h (p 0) (p 1) (p 2) (p 3) (p 4) (p 5)
theorem cn0_mono {p q : Nat → Bool} (h : ∀ k, p k = true → q k = true) : ∀ n, cn0 p n ≤ cn0 q n := by
  intro n
  induction n with
  | zero => exact Nat.le_refl _
  | succ n ih =>
    show cn0 p n + (if p n = true then 1 else 0) ≤ cn0 q n + (if q n = true then 1 else 0)
    by_cases z : p n = true
    · rw [if_pos z, if_pos (h n z)]; omega
    · rw [if_neg z]; omega
abbrev tkP (s d : Nat) : Nat → Bool := fun k => s.testBit k && ((KM k).testBit d == true)
theorem tk_in {m : UU} {s d : Nat} (hs : s < 64) (h2 : 2 ≤ d) (hd : d ≤ 16) {K : Int32 → Int32 → Int32 → Int32 → UU → Option (Int32 × UU)} {x4 x5 : Int32} : ∀ (e k G : Nat), k + e = 6 → e < G → f_X6_test_48 K G (nI s) x4 x5 (nI d) (nI (cn0 (tkP s d) k)) (nI k) m = f_X6_test_48 K (G - e) (nI s) x4 x5 (nI d) (nI (cn0 (tkP s d) 6)) (nI 6) m := by
  intro e
  induction e with
  | zero =>
    intro k G h1 h3
    obtain rfl : k = 6 := by omega
    rfl
  | succ e ih =>
    intro k G h1 h3
    obtain ⟨G, rfl⟩ : ∃ G0, G = G0 + 1 := ⟨G - 1, by omega⟩
    rw [f_X6_test_48, if_neg (show ¬ (6 : Int32) ≤ nI k from nI_ge (b := 6) (by omega) (by omega)), has_eq (by omega) (by omega), takesAs_eq (by omega) (by omega) h2, bd_some]
    unfold f_X6_test_80 f_X6_test_81
    simp only [lt_eq, nI_1]
    have nxt := ih (k + 1) G (by omega) (by omega)
    rw [show G + 1 - (e + 1) = G - e by omega, ← nxt, show cn0 (tkP s d) (k + 1) = cn0 (tkP s d) k + if tkP s d k = true then 1 else 0 from rfl]
    have a0 : nI (cn0 (tkP s d) k) + (0 : Int32) = nI (cn0 (tkP s d) k + 0) := nI_add _ 0
    unfold tkP
    by_cases b : s.testBit k = true
    · rw [if_pos b, if_neg n10, b]
      cases (KM k).testBit d
      · rw [if_pos (show (if false = true then (1 : Int32) else 0) = 0 from rfl)]; exact congrArg (fun z => f_X6_test_48 K G (nI s) x4 x5 (nI d) z (nI (k + 1)) m) a0
      · rw [if_neg (show ¬ (if true = true then (1 : Int32) else 0) = 0 by decide), if_pos (show (true && true == true) = true from rfl)]
    · rw [if_neg b, if_pos rfl, if_neg (by simp [b])]; exact congrArg (fun z => f_X6_test_48 K G (nI s) x4 x5 (nI d) z (nI (k + 1)) m) a0
theorem ifl2 {α : Type} {B M : Nat} {a b : α} (hB : B < 1000) (hM : M < 1000) : (if nI B ≤ nI M then a else b) = if B ≤ M then a else b := by
  by_cases z : B ≤ M
  · rw [if_pos z, if_pos (nI_le z (by omega))]
  · rw [if_neg z, if_neg (nI_ge (by omega) (by omega))]
def mx (b n : Nat) : Nat := if b < n - b then n - b else b
theorem ct_st {c : UU} {s d F B : Nat} {x6 : Int32} (hs : s < 64) (hd : d ≤ 16) (hB : B < 1000) : f_X5_test_43 (F + 1) (nI s) (nI (pc s)) (nI B) x6 (nI d) c = if B ≤ mx (cn0 (tkP s d) 6) (pc s) then f_X5_test_43 F (nI s) (nI (pc s)) (nI B) x6 (nI (d + 1)) c else f_X5_test_43 F (nI s) (nI (pc s)) (nI (mx (cn0 (tkP s d) 6) (pc s))) (nI d) (nI (d + 1)) c := by
  have h1 : cn0 (tkP s d) 6 ≤ pc s := by
    rw [← mk0_self s hs, pc_mk0]
    refine cn0_mono (fun k hk => ?_) 6
    rw [mk0_self s hs] at hk
    simp only [tkP, Bool.and_eq_true] at hk
    exact hk.1
  have h2 := cn0_le (tkP s d) 6
  have h3 : pc s ≤ 6 := by
    rw [← mk0_self s hs, pc_mk0]
    exact cn0_le _ 6
  have hb : f_J6_bitCount_0f7a4 (nI (mk0 (tkP s d) 6)) = nI (cn0 (tkP s d) 6) := by
    rw [bitCount_eq (by have := mk0_lt (tkP s d) 6; omega), pc_mk0]
  rw [f_X5_test_43, if16 (by omega), if_neg (show ¬ 17 ≤ d by omega), show (1 : Int32) = bI true from rfl, al_eq hs hd true c, bd_some, lt_eq, hb, pk_sub h1, lt_eq]
  unfold f_X5_test_89
  simp only [lt_eq]
  rw [nI_1, show (if nI (cn0 (tkP s d) 6) < nI (pc s - cn0 (tkP s d) 6) then nI (pc s - cn0 (tkP s d) 6) else nI (cn0 (tkP s d) 6)) = nI (mx (cn0 (tkP s d) 6) (pc s)) by
    unfold mx
    by_cases z : cn0 (tkP s d) 6 < pc s - cn0 (tkP s d) 6
    · rw [if_pos z, if_pos (nI_lt z (by omega))]
    · rw [if_neg z, if_neg (nI_nlt (by omega) (by omega))]]
  exact ifl2 (by omega) (by unfold mx; split <;> omega)
theorem mt_st {m : UU} {s d G B : Nat} {x4 : Int32} (hs : s < 64) (h2 : 2 ≤ d) (hd : d ≤ 16) (hB : B < 1000) : f_X6_test_35 (G + 1) (nI s) x4 (nI B) (nI d) m = if B ≤ mx (cn0 (tkP s d) 6) (pc s) then f_X6_test_35 G (nI s) x4 (nI B) (nI (d + 1)) m else f_X6_test_35 G (nI s) (nI d) (nI (mx (cn0 (tkP s d) 6) (pc s))) (nI (d + 1)) m := by
  have h1 : cn0 (tkP s d) 6 ≤ pc s := by
    rw [← mk0_self s hs, pc_mk0]
    refine cn0_mono (fun k hk => ?_) 6
    rw [mk0_self s hs] at hk
    simp only [tkP, Bool.and_eq_true] at hk
    exact hk.1
  have h4 := cn0_le (tkP s d) 6
  have h3 : pc s ≤ 6 := by
    rw [← mk0_self s hs, pc_mk0]
    exact cn0_le _ 6
  have t0 := tk_in (m := m) hs h2 hd (K := f_X6_test_35 G) (x4 := x4) (x5 := nI B) 6 0 fu (by omega) (by unfold fu; omega)
  rw [f_X6_test_35, if16 (by omega), if_neg (show ¬ 17 ≤ d by omega)]
  refine (show f_X6_test_48 (f_X6_test_35 G) fu (nI s) x4 (nI B) (nI d) 0 0 m = _ from t0).trans ?_
  rw [show fu - 6 = 99993 + 1 from rfl, f_X6_test_48, if_pos (show (6 : Int32) ≤ nI 6 by decide), bits_eq (by omega), bd_some, bd_some, pk_sub h1]
  unfold f_X6_test_114 f_X6_test_130 f_X6_test_146
  simp only [lt_eq, nI_1]
  generalize hM : mx (cn0 (tkP s d) 6) (pc s) = M
  have hM2 : M ≤ 6 := by rw [← hM]; unfold mx; split <;> omega
  have key : ∀ X : Nat, X = M → (if nI B ≤ nI X then (if nI B ≤ nI X then f_X6_test_35 G (nI s) x4 (nI B) (nI (d + 1)) m else f_X6_test_35 G (nI s) x4 (nI X) (nI (d + 1)) m) else (if nI B ≤ nI X then f_X6_test_35 G (nI s) (nI d) (nI B) (nI (d + 1)) m else f_X6_test_35 G (nI s) (nI d) (nI X) (nI (d + 1)) m)) = if B ≤ M then f_X6_test_35 G (nI s) x4 (nI B) (nI (d + 1)) m else f_X6_test_35 G (nI s) (nI d) (nI M) (nI (d + 1)) m := by
    intro X hX
    subst hX
    by_cases z : B ≤ X
    · rw [if_pos z, if_pos (nI_le z (by omega)), if_pos (nI_le z (by omega))]
    · rw [if_neg z, if_neg (nI_ge (by omega) (by omega)), if_neg (nI_ge (by omega) (by omega))]
  by_cases y : cn0 (tkP s d) 6 ≤ pc s - cn0 (tkP s d) 6
  · rw [if_pos (nI_le y (by omega))]
    exact key _ (by rw [← hM]; unfold mx; split <;> omega)
  · rw [if_neg (nI_ge (by omega) (by omega))]
    exact key _ (by rw [← hM]; unfold mx; split <;> omega)
theorem tt_l {c m : UU} (h : Inv c m) {s : Nat} (hs : s < 64) : ∀ (e d F G B : Nat) (x : Int32), d + e = 17 → 2 ≤ d → e < F → e < G → B < 1000 → Ok (f_X5_test_43 F (nI s) (nI (pc s)) (nI B) x (nI d) c) (f_X6_test_35 G (nI s) x (nI B) (nI d) m) := by
  have h3 : pc s ≤ 6 := by
    rw [← mk0_self s hs, pc_mk0]
    exact cn0_le _ 6
  intro e
  induction e with
  | zero =>
    intro d F G B x h1 h2 h4 h5 h6
    obtain ⟨F, rfl⟩ : ∃ F0, F = F0 + 1 := ⟨F - 1, by omega⟩
    obtain ⟨G, rfl⟩ : ∃ G0, G = G0 + 1 := ⟨G - 1, by omega⟩
    rw [f_X5_test_43, f_X6_test_35, if16 (by omega), if16 (by omega), if_pos (show 17 ≤ d by omega), if_pos (show 17 ≤ d by omega), lt_eq, m_tells]
    exact Ok.told h _ _
  | succ e ih =>
    intro d F G B x h1 h2 h4 h5 h6
    obtain ⟨F, rfl⟩ : ∃ F0, F = F0 + 1 := ⟨F - 1, by omega⟩
    obtain ⟨G, rfl⟩ : ∃ G0, G = G0 + 1 := ⟨G - 1, by omega⟩
    have hl := cn0_le (tkP s d) 6
    rw [ct_st hs (by omega) h6, mt_st hs h2 (by omega) h6]
    by_cases z : B ≤ mx (cn0 (tkP s d) 6) (pc s)
    · rw [if_pos z, if_pos z]
      exact ih (d + 1) F G B x (by omega) (by omega) (by omega) (by omega) h6
    · rw [if_neg z, if_neg z]
      exact ih (d + 1) F G _ _ (by omega) (by omega) (by omega) (by omega) (by unfold mx; split <;> omega)
theorem op_test {c m : UU} (h : Inv c m) (r : Int32) : Ok (f_X5_test r c) (f_X6_test r m) := by
  unfold f_X5_test f_X6_test
  rcases pairs h r with ⟨a, c', m', e1, e2, e3, e4, e5⟩ | ⟨s, hs, e1, e2, e3, e4⟩
  · rw [e1, e2, bd_some, bd_some]
    dsimp only
    rw [if_neg e4, if_neg (fun q => absurd (i_le.mp q) (by have := i_lt.mp e3; omega))]
    exact ⟨_, _, _, rfl, rfl, e5⟩
  · rw [e1, e2, bd_some, bd_some]
    dsimp only
    rw [if_pos t00, if_pos (show (0 : Int32) ≤ 0 by decide), e3, e4, bd_some, bd_some]
    by_cases z : s = 0
    · rw [if_pos (by rw [z]; rfl), if_pos (by rw [z]; rfl)]
      exact Ok.same h _
    · have h3 : pc s ≤ 6 := by
        rw [← mk0_self s hs, pc_mk0]
        exact cn0_le _ 6
      have hl := cn0_le (tkP s 2) 6
      have hmx : mx (cn0 (tkP s 2) 6) (pc s) ≤ 6 := by unfold mx; split <;> omega
      have hmx2 : mx (cn0 (tkP s 2) 6) (pc s) ≤ pc s := by
        have h1 : cn0 (tkP s 2) 6 ≤ pc s := by
          rw [← mk0_self s hs, pc_mk0]
          refine cn0_mono (fun k hk => ?_) 6
          rw [mk0_self s hs] at hk
          simp only [tkP, Bool.and_eq_true] at hk
          exact hk.1
        unfold mx; split <;> omega
      rw [if_neg (nI_ne0 (by omega) (by omega)), if_neg (nI_ne0 (by omega) (by omega)), bitCount_eq (by omega), lt_eq, lt_eq, nI_1, show fu = 99999 + 1 from rfl, show (2 : Int32) = nI 2 from rfl, ct_st hs (by omega) (by omega), if_neg (by omega), show (7 : Int32) = nI 7 from rfl, mt_st hs (by omega) (by omega) (by omega), if_neg (by omega)]
      exact tt_l h hs 14 3 _ _ _ _ (by omega) (by omega) (by omega) (by omega) (by omega)
