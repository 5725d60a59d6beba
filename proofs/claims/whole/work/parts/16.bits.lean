theorem xorI (a b : Nat) : nI a ^^^ nI b = nI (a ^^^ b) := by
  apply Int32.toBitVec.inj
  show BitVec.ofNat 32 a ^^^ BitVec.ofNat 32 b = BitVec.ofNat 32 (a ^^^ b)
  apply BitVec.eq_of_getLsbD_eq
  intro i hi
  simp [BitVec.getLsbD_xor, BitVec.getLsbD_ofNat, Nat.testBit_xor, hi]
theorem sh31 : ∀ d, d < 32 → ((nI d &&& 31).toBitVec.smod 32).toNat = d := by decide
theorem pw31 {d : Nat} (h : d < 31) : 2 ^ d < 2 ^ 31 := Nat.pow_lt_pow_right (by omega) h
theorem shl1 {d : Nat} (h : d < 31) : (1 : Int32) <<< (nI d &&& (31 : Int32)) = nI (2 ^ d) := by
  have := pw31 h
  have := pk_shlN (n := 1) (nI d &&& 31) d (sh31 d (by omega)) (by omega)
  rw [Nat.one_mul] at this
  exact this
theorem shr31 {s d : Nat} (hs : s < 2 ^ 31) (hd : d < 32) : nI s >>> (nI d &&& (31 : Int32)) = nI (s / 2 ^ d) := pk_shrN hs _ d (sh31 d hd)
theorem and1 (a : Nat) : nI a &&& (1 : Int32) = nI (a % 2) := fa_mask a 1
theorem tb_dm (s d : Nat) : s.testBit d = decide (s / 2 ^ d % 2 = 1) := Nat.testBit_eq_decide_div_mod_eq
theorem holds_eq {s d : Nat} (hs : s < 2 ^ 31) (hd : d < 31) : f_X5_holds (nI s) (nI d) = if s.testBit d = true then 1 else 0 := by
  unfold f_X5_holds
  rw [shr31 hs (by omega), and1, tb_dm]
  rcases (show s / 2 ^ d % 2 = 0 ∨ s / 2 ^ d % 2 = 1 by omega) with e | e <;> rw [e] <;> decide
theorem has_eq {s d : Nat} (hs : s < 2 ^ 31) (hd : d < 31) : f_X6_has (nI s) (nI d) = if s.testBit d = true then 1 else 0 := by
  unfold f_X6_has
  rw [shr31 hs (by omega), and1, tb_dm]
  rcases (show s / 2 ^ d % 2 = 0 ∨ s / 2 ^ d % 2 = 1 by omega) with e | e <;> rw [e] <;> decide
theorem b01 {b : Bool} : ((if b = true then (1 : Int32) else 0) = 0) ↔ b = false := by cases b <;> decide
def andN (a b : Nat) : Nat := a &&& (b ^^^ 4294967295)
theorem andN_eq (a b : Nat) : nI a &&& (nI b ^^^ (-1 : Int32)) = nI (andN a b) := by
  rw [show (-1 : Int32) = nI 4294967295 from rfl, xorI, fa_and]
  rfl
theorem ones_bit {i : Nat} (h : i < 32) : (4294967295 : Nat).testBit i = true := by
  rw [show (4294967295 : Nat) = 2 ^ 32 - 1 from rfl, Nat.testBit_two_pow_sub_one]
  simpa using h
theorem andN_bit {a b i : Nat} (h : i < 32) : (andN a b).testBit i = (a.testBit i && !b.testBit i) := by
  unfold andN
  rw [Nat.testBit_and, Nat.testBit_xor, ones_bit h]
  cases b.testBit i <;> simp
theorem tb_big {a i : Nat} (h : a < 2 ^ 17) (hi : 17 ≤ i) : a.testBit i = false := Nat.testBit_lt_two_pow (Nat.lt_of_lt_of_le h (Nat.pow_le_pow_right (by omega) hi))
theorem bits_ext {a b : Nat} (ha : a < 2 ^ 17) (hb : b < 2 ^ 17) (h : ∀ i, i < 17 → a.testBit i = b.testBit i) : a = b := by
  apply Nat.eq_of_testBit_eq
  intro i
  by_cases hi : i < 17
  · exact h i hi
  · rw [tb_big ha (by omega), tb_big hb (by omega)]
theorem and_lt17 {a b : Nat} (ha : a < 2 ^ 17) : a &&& b < 2 ^ 17 := Nat.lt_of_le_of_lt Nat.and_le_left ha
theorem andN_lt17 {a b : Nat} (ha : a < 2 ^ 17) : andN a b < 2 ^ 17 := and_lt17 ha
theorem mkn_lt (p : Nat → Bool) : ∀ n, mkn p n < 2 ^ n
  | 0 => by simp [mkn]
  | n + 1 => by
    have := mkn_lt p n
    rw [mkn, Nat.pow_succ]
    split <;> omega
theorem mkn_bit (p : Nat → Bool) (d : Nat) : ∀ n, (mkn p n).testBit d = (decide (d < n) && decide (2 ≤ d) && p d)
  | 0 => by simp [mkn]
  | n + 1 => by
    have ih := mkn_bit p d n
    have hl := mkn_lt p n
    rw [mkn]
    by_cases h : 2 ≤ n ∧ p n = true
    · rw [if_pos h, Nat.add_comm]
      by_cases e : d = n
      · subst e
        rw [Nat.testBit_two_pow_add_eq, Nat.testBit_lt_two_pow hl]
        simp [h.1, h.2]
      · by_cases e2 : d < n
        · rw [Nat.testBit_two_pow_add_gt e2, ih]
          simp [e2, Nat.lt_succ_of_lt e2]
        · rw [Nat.testBit_lt_two_pow (Nat.lt_of_lt_of_le (show 2 ^ n + mkn p n < 2 ^ (n + 1) by rw [Nat.pow_succ]; omega) (Nat.pow_le_pow_right (by omega) (show n + 1 ≤ d by omega)))]
          have : ¬ d < n + 1 := by omega
          simp [this]
    · rw [if_neg h, Nat.add_zero, ih]
      by_cases e : d = n
      · subst e
        have : (decide (2 ≤ d) && p d) = false := by
          cases hp : p d <;> simp [hp] at h ⊢
          omega
        simp [this]
      · have : decide (d < n + 1) = decide (d < n) := by
          apply decide_eq_decide.mpr
          omega
        rw [this]
theorem mkn_or {p : Nat → Bool} {n : Nat} : nI (mkn p n) ||| nI (2 ^ n) = nI (mkn p n + 2 ^ n) := by
  rw [fa_or]
  congr 1
  have := Nat.two_pow_add_eq_or_of_lt (mkn_lt p n) 1
  rw [Nat.mul_one] at this
  rw [Nat.or_comm, ← this, Nat.add_comm]
/-! kinds -/
def KM (k : Nat) : Nat := [131068, 65812, 43688, 131056, 69980, 87376].getD k 131068
theorem KM_lt : ∀ k, k < 6 → KM k < 2 ^ 17 := by decide
theorem KM_low : ∀ k, k < 6 → (KM k).testBit 0 = false ∧ (KM k).testBit 1 = false := by decide
theorem partsOf_eq : ∀ k, k < 6 → f_X0_partsOf (nI k) = nI (KM k) := by decide
def u00 : UU := (fun _ _ => 0, fun _ _ => 0)
theorem takesAs_u (x y : Int32) (u : UU) : f_X6_takesAs x y u = f_X6_takesAs x y u00 := rfl
theorem takesAs_0 : ∀ k, k < 6 → ∀ d, d < 17 → 2 ≤ d → f_X6_takesAs (nI k) (nI d) u00 = some (if (KM k).testBit d = true then 1 else 0) := by decide +kernel
theorem takesAs_eq {k d : Nat} (hk : k < 6) (hd : d < 17) (h2 : 2 ≤ d) (u : UU) : f_X6_takesAs (nI k) (nI d) u = some (if (KM k).testBit d = true then 1 else 0) := by rw [takesAs_u]; exact takesAs_0 k hk d hd h2
theorem or0 (x : Int32) : x ||| 0 = x := by simp
theorem addz (x : Int32) : x + 0 = x := by simp
theorem gt16 {d : Nat} (h : d ≤ 17) : ((16 : Int32) < nI d) ↔ d = 17 := by
  rw [i_lt, nI_toInt (by omega)]
  show (16 : Int) < d ↔ _
  omega
theorem allOf_loop {k : Nat} (hk : k < 6) (u : UU) : ∀ (n d : Nat), 2 ≤ d → d ≤ 17 → 18 ≤ d + n → f_X6_allOf_4 n (nI k) (nI (mkn (fun i => (KM k).testBit i) d)) (nI d) u = some (nI (mkn (fun i => (KM k).testBit i) 17)) := by
  intro n
  induction n with
  | zero => intro d h1 h2 h3; omega
  | succ n ih =>
    intro d h1 h2 h3
    rw [f_X6_allOf_4]
    by_cases e : d = 17
    · rw [if_pos ((gt16 h2).mpr e), e]
    · rw [if_neg (fun q => e ((gt16 h2).mp q)), takesAs_eq hk (by omega) h1, bd_some]
      unfold f_X6_allOf_26
      rw [lt_eq, lt_eq, lt_eq, lt_eq, nI_1, shl1 (by omega), mkn_or, or0]
      have := ih (d + 1) (by omega) (by omega) (by omega)
      rw [mkn] at this
      by_cases q : (KM k).testBit d = true
      · rw [if_neg (by rw [if_pos q]; decide)]
        rwa [if_pos ⟨h1, q⟩] at this
      · rw [if_pos (by rw [if_neg q])]
        rwa [if_neg (fun z => q z.2), Nat.add_zero] at this
theorem KM_mk : ∀ k, k < 6 → mkn (fun i => (KM k).testBit i) 17 = KM k := by decide
theorem allOf_eq {k : Nat} (hk : k < 6) (u : UU) : f_X6_allOf (nI k) u = some (nI (KM k)) := by
  unfold f_X6_allOf
  have := allOf_loop hk u fu 2 (by omega) (by omega) (by unfold fu; omega)
  rw [KM_mk k hk] at this
  exact this
theorem ps_div {d : Nat} (h : 1 ≤ d) (h2 : d ≤ 16) : (720720 : Int32) / nI d = nI (720720 / d) := pk_div (a := 720720) (by omega) (by omega) (by omega)
theorem nz_n {α : Type} {d : Nat} {x : Option α} (h : 1 ≤ d) (h2 : d < 2 ^ 31) : nz (nI d) x = x := nz_ok (nI_ne0 h h2)
theorem sumOf_loop {s : Nat} (hs : s < 2 ^ 17) (u : UU) : ∀ (n d : Nat), 2 ≤ d → d ≤ 17 → 18 ≤ d + n → f_X6_sumOf_4 n (nI s) (nI (smn s d)) (nI d) u = some (nI (smn s 17)) := by
  intro n
  induction n with
  | zero => intro d h1 h2 h3; omega
  | succ n ih =>
    intro d h1 h2 h3
    rw [f_X6_sumOf_4]
    by_cases e : d = 17
    · rw [if_pos ((gt16 h2).mpr e), e]
    · rw [if_neg (fun q => e ((gt16 h2).mp q)), has_eq (by omega) (by omega), nz_n (by omega) (by omega), ps_div (by omega) (by omega)]
      unfold f_X6_sumOf_27
      rw [lt_eq, lt_eq, lt_eq, lt_eq, nI_1, nI_add, addz]
      have := ih (d + 1) (by omega) (by omega) (by omega)
      rw [smn] at this
      by_cases q : s.testBit d = true
      · rw [if_neg (by rw [if_pos q]; decide)]
        rwa [if_pos ⟨h1, q⟩] at this
      · rw [if_pos (by rw [if_neg q])]
        rwa [if_neg (fun z => q z.2), Nat.add_zero] at this
theorem sumOf_eq {s : Nat} (hs : s < 2 ^ 17) (u : UU) : f_X6_sumOf (nI s) u = some (nI (Sm s)) := sumOf_loop hs u fu 2 (by omega) (by omega) (by unfold fu; omega)
