/-! odds: the class's recursion as one function of numbers -/
def Wo (H k : Nat) : Nat → Nat → Int → Nat
  | 0, _, T => if T ≤ 0 then 1 else 0
  | e + 1, d, T => if H.testBit d = true then k * Wo H k e (d + 1) T + (12 - k) * Wo H k e (d + 1) (T - 2 * ((720720 / d : Nat) : Int)) else Wo H k e (d + 1) T
theorem Wo_pos {H k : Nat} (hk : k ≤ 12) : ∀ (e d : Nat) (T : Int), T ≤ 0 → Wo H k e d T * 12 ^ pcn H d = 12 ^ pcn H (d + e) := by
  intro e
  induction e with
  | zero =>
    intro d T h
    rw [Wo, if_pos h, Nat.one_mul]
    rfl
  | succ e ih =>
    intro d T h
    have st : pcn H (d + 1) = pcn H d + if H.testBit d = true then 1 else 0 := rfl
    rw [Wo, show d + (e + 1) = d + 1 + e by omega]
    by_cases b : H.testBit d = true
    · have hs : T - 2 * ((720720 / d : Nat) : Int) ≤ 0 := by
        have : (0 : Int) ≤ ((720720 / d : Nat) : Int) := Int.natCast_nonneg _
        omega
      have i1 := ih (d + 1) T h
      have i2 := ih (d + 1) _ hs
      rw [if_pos b] at st
      rw [if_pos b]
      have e1 : 12 ^ pcn H (d + 1) = 12 * 12 ^ pcn H d := by rw [st, Nat.pow_succ, Nat.mul_comm]
      rw [e1] at i1 i2
      generalize Wo H k e (d + 1) T = x at *
      generalize Wo H k e (d + 1) (T - 2 * ((720720 / d : Nat) : Int)) = y at *
      generalize 12 ^ pcn H d = p at *
      have hp : 12 * (x * p) = 12 ^ pcn H (d + 1 + e) := by rw [← i1]; rw [Nat.mul_left_comm]
      have hp2 : 12 * (y * p) = 12 ^ pcn H (d + 1 + e) := by rw [← i2]; rw [Nat.mul_left_comm]
      have hxy : x * p = y * p := by omega
      rw [Nat.add_mul, Nat.mul_assoc, Nat.mul_assoc, ← hxy, ← Nat.add_mul, show k + (12 - k) = 12 by omega]
      exact hp
    · rw [if_neg b] at st
      rw [if_neg b, show pcn H d = pcn H (d + 1) from st.symm]
      exact ih (d + 1) T h
theorem Wo_zero {H k : Nat} : ∀ (e d : Nat) (T : Int), 2 ≤ d → 0 < T → 2 * ((smn H (d + e) : Nat) : Int) < T + 2 * ((smn H d : Nat) : Int) → Wo H k e d T = 0 := by
  intro e
  induction e with
  | zero =>
    intro d T h2 h h1
    rw [Wo, if_neg (by omega)]
  | succ e ih =>
    intro d T h2 h h1
    have st : smn H (d + 1) = smn H d + if 2 ≤ d ∧ H.testBit d = true then 720720 / d else 0 := rfl
    have mono : smn H (d + 1) ≤ smn H (d + 1 + e) := by
      clear ih h1
      induction e with
      | zero => exact Nat.le_refl _
      | succ e ih2 =>
        show smn H (d + 1) ≤ smn H (d + 1 + e) + _
        omega
    rw [show d + (e + 1) = d + 1 + e by omega] at h1
    rw [Wo]
    by_cases b : H.testBit d = true
    · rw [if_pos ⟨h2, b⟩] at st
      rw [if_pos b]
      generalize 720720 / d = q at *
      rw [ih (d + 1) T (by omega) h (by omega), ih (d + 1) (T - 2 * (q : Int)) (by omega) (by omega) (by omega)]
      rfl
    · rw [if_neg (fun q => b q.2)] at st
      rw [if_neg b]
      exact ih (d + 1) T (by omega) h (by omega)
theorem pcn_add {h d : Nat} (hb : h.testBit d = false) : ∀ n, pcn (h + 2 ^ d) n = pcn h n + if d < n then 1 else 0
  | 0 => rfl
  | n + 1 => by
    rw [pcn, pcn, pcn_add hb n, pw_bit hb]
    by_cases e : n = d
    · subst e
      rw [hb]
      simp
    · have : decide (n = d) = false := by simpa using e
      rw [this, Bool.or_false]
      by_cases q : d < n
      · rw [if_pos q, if_pos (show d < n + 1 by omega)]; omega
      · rw [if_neg q, if_neg (show ¬ d < n + 1 by omega)]; omega
theorem pow12 {u : UU} {k : Nat} (hk : k ≤ 17) : ∀ (e i F : Nat), i + e = k → e < F → f_X5_powerOfCrumbles_4 F (nI k) (lN (12 ^ i)) (nI i) u = some (lN (12 ^ k)) := by
  intro e
  induction e with
  | zero =>
    intro i F h1 h2
    obtain ⟨F, rfl⟩ : ∃ F0, F = F0 + 1 := ⟨F - 1, by omega⟩
    obtain rfl : i = k := by omega
    rw [f_X5_powerOfCrumbles_4, if_pos (nI_le (Nat.le_refl _) (by omega))]
  | succ e ih =>
    intro i F h1 h2
    obtain ⟨F, rfl⟩ : ∃ F0, F = F0 + 1 := ⟨F - 1, by omega⟩
    rw [f_X5_powerOfCrumbles_4, if_neg (nI_ge (by omega) (by omega)), lt_eq, lt_eq, nI_1, show lN (12 ^ i) * (12 : Int64) = lN (12 ^ i * 12) from lN_mul _ 12, ← Nat.pow_succ]
    exact ih (i + 1) F (by omega) (by omega)
theorem c_pow {u : UU} {k : Nat} (hk : k ≤ 17) : f_X5_powerOfCrumbles (nI k) u = some (lN (12 ^ k)) := pow12 hk k 0 fu (by omega) (by unfold fu; omega)
