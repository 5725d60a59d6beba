theorem pcn_s (s : Nat) : ∀ n, pcn s (n + 1) = s % 2 + pcn (s / 2) n
  | 0 => by
    simp only [pcn, Nat.testBit_zero]
    by_cases h : s % 2 = 1 <;> simp [h] <;> omega
  | n + 1 => by
    rw [pcn, pcn_s s n, pcn, Nat.testBit_succ]
    omega
theorem bc_pc : ∀ n, n ≤ 17 → ∀ s, s < 2 ^ n → bcN s = pcn s n
  | 0, _, s, h => by
    have : s = 0 := by simpa using h
    subst this
    rfl
  | n + 1, hn, s, h => by
    have h2 : s / 2 < 2 ^ n := by rw [Nat.pow_succ] at h; omega
    have h3 : 2 ^ n ≤ 2 ^ 16 := Nat.pow_le_pow_right (by omega) (by omega)
    have := bcP_all (s := s / 2) (by omega)
    rw [bcP, Bool.and_eq_true] at this
    have e1 := Nat.eq_of_beq_eq_true this.1
    have e2 := Nat.eq_of_beq_eq_true this.2
    rw [pcn_s, ← bc_pc n (by omega) _ h2]
    rcases (show s % 2 = 0 ∨ s % 2 = 1 by omega) with q | q
    · rw [q, Nat.zero_add, ← e1]
      congr 1
      omega
    · rw [q, Nat.add_comm, ← e2]
      congr 1
      omega
theorem ush {n : Nat} (hn : n < 2 ^ 32) (x : Int32) (k : Nat) (hs : ((x.toUInt32 &&& Int32.toUInt32 31).toBitVec % 32).toNat = k) : ((nI n).toUInt32 >>> (x.toUInt32 &&& Int32.toUInt32 31)).toInt32 = nI (n / 2 ^ k) := pk_ushrN hn x k hs
theorem bitCount_eq {s : Nat} (h : s < 2 ^ 17) : f_J6_bitCount_0f7a4 (nI s) = nI (pc s) := by
  show _ = nI (pcn s 17)
  rw [← bc_pc 17 (by omega) s h]
  unfold f_J6_bitCount_0f7a4 bcN
  have h1 : Nat.land (s / 2) 1431655765 ≤ s / 2 := Nat.and_le_left
  rw [lt_eq, ush (by omega) 1 1 (by decide), show (1431655765 : Int32) = nI 1431655765 from rfl, fa_and, pk_sub (show s / 2 ^ 1 &&& 1431655765 ≤ s from Nat.le_trans Nat.and_le_left (by omega))]
  show lt _ _ = nI ((fun b => _) _)
  have e0 : s - (s / 2 ^ 1 &&& 1431655765) = s - Nat.land (s / 2) 1431655765 := rfl
  rw [e0]
  generalize ha : s - Nat.land (s / 2) 1431655765 = a
  have hal : a < 2 ^ 17 := by omega
  rw [lt_eq, ush (by omega) 2 2 (by decide), show (858993459 : Int32) = nI 858993459 from rfl, fa_and, fa_and, nI_add]
  have e1 : (a &&& 858993459) + (a / 2 ^ 2 &&& 858993459) = Nat.land a 858993459 + Nat.land (a / 4) 858993459 := rfl
  rw [e1]
  have hb1 : Nat.land a 858993459 ≤ a := Nat.and_le_left
  have hb2 : Nat.land (a / 4) 858993459 ≤ a / 4 := Nat.and_le_left
  generalize hb : Nat.land a 858993459 + Nat.land (a / 4) 858993459 = b
  have hbl : b < 2 ^ 18 := by omega
  rw [lt_eq, ush (by omega) 4 4 (by decide), nI_add, show (252645135 : Int32) = nI 252645135 from rfl, fa_and]
  have e2 : (b + b / 2 ^ 4) &&& 252645135 = Nat.land (b + b / 16) 252645135 := rfl
  rw [e2]
  have hc1 : Nat.land (b + b / 16) 252645135 ≤ b + b / 16 := Nat.and_le_left
  generalize hc : Nat.land (b + b / 16) 252645135 = cc
  have hcl : cc < 2 ^ 19 := by omega
  rw [lt_eq, ush (by omega) 8 8 (by decide), nI_add]
  have e3 : cc + cc / 2 ^ 8 = cc + cc / 256 := rfl
  rw [e3]
  generalize hd : cc + cc / 256 = dd
  have hdl : dd < 2 ^ 20 := by omega
  rw [lt_eq, ush (by omega) 16 16 (by decide), nI_add, show (63 : Int32) = nI 63 from rfl, fa_and]
  rfl
theorem and_pred_odd {t : Nat} : (2 * t + 1) &&& (2 * t + 1 - 1) = 2 * t := by
  apply Nat.eq_of_testBit_eq
  intro i
  rw [Nat.testBit_and, Nat.add_sub_cancel]
  cases i with
  | zero => simp
  | succ i =>
    rw [Nat.testBit_succ, Nat.testBit_succ]
    have e1 : (2 * t + 1) / 2 = t := by omega
    have e2 : 2 * t / 2 = t := by omega
    rw [e1, e2]
    simp
theorem and_pred_even {t : Nat} (h : 0 < t) : (2 * t) &&& (2 * t - 1) = 2 * (t &&& (t - 1)) := by
  apply Nat.eq_of_testBit_eq
  intro i
  rw [Nat.testBit_and]
  cases i with
  | zero => simp
  | succ i =>
    rw [Nat.testBit_succ, Nat.testBit_succ, Nat.testBit_succ]
    have e1 : (2 * t - 1) / 2 = t - 1 := by omega
    have e2 : 2 * t / 2 = t := by omega
    have e3 : 2 * (t &&& (t - 1)) / 2 = t &&& (t - 1) := by omega
    rw [e1, e2, e3, Nat.testBit_and]
theorem pc_pred : ∀ n s, s < 2 ^ n → 0 < s → pcn (s &&& (s - 1)) n + 1 = pcn s n ∧ (s &&& (s - 1)) < s
  | 0, s, h, h0 => by
    have : s = 0 := by simpa using h
    omega
  | n + 1, s, h, h0 => by
    rw [pcn_s, pcn_s]
    have hs : s / 2 < 2 ^ n := by rw [Nat.pow_succ] at h; omega
    rcases (show s % 2 = 0 ∨ s % 2 = 1 by omega) with q | q
    · obtain ⟨t, rfl⟩ : ∃ t, s = 2 * t := ⟨s / 2, by omega⟩
      have e2 : 2 * t / 2 = t := by omega
      rw [and_pred_even (by omega), e2]
      rw [e2] at hs
      have e3 : 2 * (t &&& (t - 1)) / 2 = t &&& (t - 1) := by omega
      obtain ⟨g1, g2⟩ := pc_pred n t hs (by omega)
      rw [e3]
      omega
    · obtain ⟨t, rfl⟩ : ∃ t, s = 2 * t + 1 := ⟨s / 2, by omega⟩
      rw [and_pred_odd]
      have e1 : (2 * t + 1) / 2 = t := by omega
      have e2 : 2 * t / 2 = t := by omega
      rw [e1, e2]
      omega
theorem pcn_le (s : Nat) : ∀ n, pcn s n ≤ n
  | 0 => Nat.le_refl _
  | n + 1 => by
    have := pcn_le s n
    rw [pcn]
    split <;> omega
theorem pcn_z : ∀ n, pcn 0 n = 0
  | 0 => rfl
  | n + 1 => by rw [pcn, pcn_z n]; simp
theorem bits_loop (u : UU) : ∀ (f s k : Nat), s < 2 ^ 17 → pc s + 1 ≤ f → f_X6_bits_4 f (nI k) (nI s) u = some (nI (k + pc s))
  | 0, s, k, _, h => by omega
  | f + 1, s, k, hs, h => by
    rw [f_X6_bits_4]
    by_cases h0 : s = 0
    · subst h0
      rw [if_pos (show nI 0 = 0 from rfl)]
      show _ = some (nI (k + pcn 0 17))
      rw [pcn_z]
      rfl
    · obtain ⟨g1, g2⟩ := pc_pred 17 s hs (by omega)
      rw [if_neg (nI_ne0 (by omega) (by omega)), lt_eq, lt_eq, nI_1, show nI s - (1 : Int32) = nI (s - 1) from pk_sub (b := 1) (by omega), fa_and, bits_loop u f _ _ (by omega) (by unfold pc at *; omega)]
      congr 2
      unfold pc
      omega
theorem bits_eq {s : Nat} (h : s < 2 ^ 17) (u : UU) : f_X6_bits (nI s) u = some (nI (pc s)) := by
  have := bits_loop u fu s 0 h (by have := pcn_le s 17; unfold fu pc; omega)
  rw [Nat.zero_add] at this
  exact this
