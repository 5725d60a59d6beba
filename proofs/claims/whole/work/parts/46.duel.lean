/-! duel: the lowest bit of a mask -/
theorem tz_dec : ∀ k, k < 17 → f_J6_numberOfTrailingZeros_0f7a4_34 (nI (2 ^ k - 1)) 1 = nI k ∨ k = 0 := by decide +kernel
theorem low_and : ∀ (n d x : Nat), x < 2 ^ n → x.testBit d = true → (∀ j, j < d → x.testBit j = false) → ((2 ^ n - 1 - x) &&& (x - 1)) = 2 ^ d - 1 := by
  intro n
  induction n with
  | zero =>
    intro d x h1 h2 h3
    have : x = 0 := by omega
    subst this
    simp at h2
  | succ n ih =>
    intro d x h1 h2 h3
    have hp : 2 ^ (n + 1) = 2 * 2 ^ n := by rw [Nat.pow_succ]; omega
    rw [and_half]
    cases d with
    | zero =>
      have x1 : x % 2 = 1 := tb0.mp h2
      have e1 : (2 ^ (n + 1) - 1 - x) / 2 = 2 ^ n - 1 - x / 2 := by omega
      have e2 : (x - 1) / 2 = x / 2 := by omega
      rw [e1, e2, show (2 ^ (n + 1) - 1 - x) % 2 = 0 by omega]
      have c : ∀ (n y : Nat), y < 2 ^ n → (2 ^ n - 1 - y) &&& y = 0 := by
        intro n
        induction n with
        | zero => intro y hy; have : y = 0 := by omega
                  subst this; rfl
        | succ n ih2 =>
          intro y hy
          have hp : 2 ^ (n + 1) = 2 * 2 ^ n := by rw [Nat.pow_succ]; omega
          rw [and_half, show (2 ^ (n + 1) - 1 - y) / 2 = 2 ^ n - 1 - y / 2 by omega, ih2 (y / 2) (by omega)]
          rcases Nat.mod_two_eq_zero_or_one y with p | p
          · rw [p, Nat.mul_zero, Nat.mul_zero]
          · rw [show (2 ^ (n + 1) - 1 - y) % 2 = 0 by omega, Nat.zero_mul]
      rw [c n (x / 2) (by omega)]
      simp
    | succ d =>
      have x0 : x % 2 = 0 := by
        have := h3 0 (by omega)
        rcases Nat.mod_two_eq_zero_or_one x with p | p
        · exact p
        · rw [tb0.mpr p] at this; cases this
      have i := ih d (x / 2) (by omega) (by rw [← Nat.testBit_succ]; exact h2) (fun j hj => by rw [← Nat.testBit_succ]; exact h3 (j + 1) (by omega))
      have xp : 0 < x := by
        refine Nat.pos_of_ne_zero fun q => ?_
        subst q
        simp at h2
      have pd : 0 < 2 ^ d := Nat.two_pow_pos d
      have hp2 : 2 ^ (d + 1) = 2 * 2 ^ d := by rw [Nat.pow_succ]; omega
      rw [show (2 ^ (n + 1) - 1 - x) / 2 = 2 ^ n - 1 - x / 2 by omega, show (x - 1) / 2 = x / 2 - 1 by omega, i, show (2 ^ (n + 1) - 1 - x) % 2 = 1 by omega, show (x - 1) % 2 = 1 by omega, hp2]
      omega
theorem tz_eq {x d : Nat} (hx : x < 2 ^ 17) (h : x.testBit d = true) (hl : ∀ j, j < d → x.testBit j = false) (h1 : 1 ≤ d) : f_J6_numberOfTrailingZeros_0f7a4 (nI x) = nI d := by
  have hd : d < 17 := by
    refine Nat.lt_of_not_le fun q => ?_
    rw [tb_big hx q] at h
    cases h
  have xp : 0 < x := by
    refine Nat.pos_of_ne_zero fun q => ?_
    subst q
    simp at h
  have e : (nI x ^^^ (-1 : Int32)) &&& (nI x - (1 : Int32)) = nI (2 ^ d - 1) := by
    have e1 : nI x ^^^ (-1 : Int32) = nI (4294967295 - x) := by
      have := andN_eq 4294967295 x
      rw [show nI 4294967295 = (-1 : Int32) from rfl] at this
      have a : (-1 : Int32) &&& (nI x ^^^ (-1 : Int32)) = nI x ^^^ (-1 : Int32) := by
        apply Int32.toBitVec_inj.1
        show (-1 : BitVec 32) &&& _ = _
        exact BitVec.allOnes_and
      rw [← a, this]
      congr 1
      unfold andN
      refine Nat.eq_of_testBit_eq fun i => ?_
      have hsub : 4294967295 - x = 2 ^ 32 - (x + 1) := by omega
      rw [hsub, Nat.testBit_two_pow_sub_succ (by omega), Nat.testBit_and, Nat.testBit_xor, show (4294967295 : Nat) = 2 ^ 32 - 1 from rfl, Nat.testBit_two_pow_sub_one]
      by_cases q : i < 32 <;> simp [q]
    rw [e1, show nI x - (1 : Int32) = nI (x - 1) from pk_sub (b := 1) (by omega), fa_and, show 4294967295 - x = 2 ^ 32 - 1 - x from rfl, low_and 32 d x (by omega) h hl]
  unfold f_J6_numberOfTrailingZeros_0f7a4
  have pd : 2 ≤ 2 ^ d := Nat.le_trans (by omega) (Nat.pow_le_pow_right (by omega) h1)
  have pd2 : 2 ^ d ≤ 65536 := Nat.le_trans (Nat.pow_le_pow_right (by omega) (show d ≤ 16 by omega)) (by decide)
  rw [e, lt_eq, if_pos (show (0 : Int32) < nI (2 ^ d - 1) from nI_lt (a := 0) (by omega) (by omega)), if_pos (show nI (2 ^ d - 1) ≤ 65536 from nI_le (b := 65536) (by omega) (by omega))]
  exact (tz_dec d hd).resolve_right (by omega)
