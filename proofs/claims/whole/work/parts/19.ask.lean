theorem part_cases (x : Int32) : (f_X5_isPart x = 0 ∧ f_X6_isPart x = 0) ∨ ∃ d, 2 ≤ d ∧ d ≤ 16 ∧ x = nI d ∧ f_X5_isPart x = 1 ∧ f_X6_isPart x = 1 := by
  by_cases h1 : x < 2
  · left
    exact ⟨by unfold f_X5_isPart; rw [if_pos h1], in_0 (Or.inl h1)⟩
  · by_cases h2 : (16 : Int32) < x
    · left
      exact ⟨by unfold f_X5_isPart; rw [if_neg h1, if_pos h2], in_0 (Or.inr h2)⟩
    · right
      have a1 : ¬ x.toInt < 2 := fun q => h1 (i_lt.mpr q)
      have a2 : ¬ 16 < x.toInt := fun q => h2 (i_lt.mpr q)
      obtain ⟨d, hd, rfl⟩ := le_cases (x := x) (n := 16) (by omega) (i_le.mpr (show 0 ≤ x.toInt by omega)) (i_le.mpr (show x.toInt ≤ 16 by omega))
      rw [nI_toInt (by omega)] at a1
      exact ⟨d, by omega, hd, rfl, by unfold f_X5_isPart; rw [if_neg h1, if_neg h2], in_1 h1 h2⟩
section AK
variable {n : Nat} {kd up lw : Nat → Nat} {dm : Nat} {w : Nat → Nat → Nat} {kp : KP} {c m : UU}
theorem c_fact {i : Nat} (h : TB n kd up lw dm w kp c m) (hi : i < n) (k : Nat) (hk : k < 6) : f_X4_factOf (nI i) (nI k) c = f_X6_workerTells (nI i) (nI k) m ∧ ∃ a, f_X4_factOf (nI i) (nI k) c = some a := by
  have h7 := h.1.1
  obtain ⟨k1, k2, k3, k4, k5⟩ := h.1.2.1 i hi
  have hdu := due_lt (up := up) k4 k3
  obtain ⟨q1, q2, q3, q4, q5⟩ := h.2.1.2.2.2.2.2.1 i hi
  obtain ⟨p1, p2, p3⟩ := h.2.2.1.2.2.1 i hi
  unfold f_X4_factOf f_X6_workerTells
  simp only [ix_n (show i < 7 by omega) (show 7 < 2 ^ 31 by omega), nI_clamp (show i < 2 ^ 31 by omega), n18, ix_n (show 18 + i < 25 by omega) (show 25 < 2 ^ 31 by omega), nI_clamp (show 18 + i < 2 ^ 31 by omega), c_fit h hi, m_fits h hi, m_lack h hi, bd_some, m_now h (show 18 + i < 25 by omega), p1, p2, p3, show ui c 13 i = _ from q1, show ui c 14 i = _ from q2, show ui c 15 i = _ from q3, show ui c 16 i = _ from q4, show ui c 17 i = _ from q5]
  refine ⟨trivial, ?_⟩
  by_cases a0 : nI k = (0 : Int32)
  · rw [if_pos a0]; exact ⟨_, rfl⟩
  rw [if_neg a0]
  by_cases a1 : nI k = (1 : Int32)
  · rw [if_pos a1]; exact ⟨_, rfl⟩
  rw [if_neg a1]
  by_cases a2 : nI k = (2 : Int32)
  · rw [if_pos a2]; exact ⟨_, rfl⟩
  rw [if_neg a2]
  by_cases a3 : nI k = (3 : Int32)
  · rw [if_pos a3]; exact ⟨_, rfl⟩
  rw [if_neg a3]
  by_cases a4 : nI k = (4 : Int32)
  · rw [if_pos a4]; exact ⟨_, rfl⟩
  rw [if_neg a4]
  split
  · exact ⟨_, rfl⟩
  · exact ⟨_, rfl⟩
end AK
theorem op_worker {c m : UU} (h : Inv c m) (x y : Int32) : Ok (f_X5_worker x y c) (f_X6_worker x y m) := by
  obtain ⟨n, kd, up, lw, dm, w, kp, hB⟩ := h.2.2.2.2
  have h7 := hB.1.1
  unfold f_X5_worker f_X6_worker
  rcases i_cases x (n := n) (by omega) with hx | ⟨i, hi, rfl⟩
  · rw [c_isW_out hB hx, m_isW_out hB hx, bd_some, bd_some, if_pos t00, if_pos t00]
    exact Ok.same h _
  rw [c_isW_in hB hi, m_isW_in hB hi, bd_some, bd_some, if_neg n10, if_neg n10]
  rcases i_cases y (n := 6) (by omega) with hy | ⟨k, hk, rfl⟩
  · rw [show f_X6_in y 0 5 = 0 from in_out (n := 5) (by omega) hy, if_pos t00]
    by_cases h1 : y < 0
    · rw [if_pos h1]
      exact Ok.same h _
    · have h2 : ¬ y < 6 := fun q => absurd (i_lt.mp q) (by have := i_le.mp (hy.resolve_left h1); rw [nI_toInt (by omega)] at this; show ¬ y.toInt < 6; omega)
      rw [if_neg h1, if_neg h2]
      exact Ok.same h _
  · rw [show f_X6_in (nI k) 0 5 = 1 from in_in (n := 5) (by omega) (by omega), if_neg n10, if_neg (nI_pos (by omega)), if_pos (show nI k < 6 from nI_lt (b := 6) hk (by omega))]
    obtain ⟨e1, a, e2⟩ := c_fact hB hi k hk
    rw [← e1, e2, bd_some, bd_some, lt_eq, m_tells, bd_some]
    exact Ok.told h _ _
theorem op_takes {c m : UU} (h : Inv c m) (x y : Int32) : Oc (f_X5_takes x y c) (f_X6_takes x y m) := by
  obtain ⟨n, kd, up, lw, dm, w, kp, hB⟩ := h.2.2.2.2
  have h7 := hB.1.1
  unfold f_X5_takes f_X6_takes
  rcases i_cases x (n := n) (by omega) with hx | ⟨i, hi, rfl⟩
  · rw [c_isW_out hB hx, m_isW_out hB hx, bd_some, bd_some, if_pos t00, if_pos t00]
    exact ⟨_, rfl, rfl⟩
  rw [c_isW_in hB hi, m_isW_in hB hi, bd_some, bd_some, if_neg n10, if_neg n10]
  rcases part_cases y with ⟨e1, e2⟩ | ⟨d, hd, hd2, rfl, e1, e2⟩
  · rw [e1, e2, if_pos t00, if_pos t00]
    exact ⟨_, rfl, rfl⟩
  · obtain ⟨k1, -⟩ := hB.1.2.1 i hi
    have hKM := KM_lt _ k1
    rw [e1, e2, if_neg n10, if_neg n10, ix_n (show i < 7 by omega) (by omega), ix_n (show i < 7 by omega) (by omega), nI_clamp (by omega), show ui c 13 i = _ from (hB.2.1.2.2.2.2.2.1 i hi).1, (hB.2.2.1.2.2.1 i hi).1, partsOf_eq _ k1, takesAs_eq k1 (by omega) hd, holds_eq (by omega) (by omega), bd_some]
    split
    · exact ⟨_, rfl, rfl⟩
    · exact ⟨_, rfl, rfl⟩
theorem isOf_eq : ∀ k, k < 6 → ∀ a, a < 6 → 1 ≤ a → f_X0_isOf (nI k) (nI a) = f_X6_isOf (nI k) (nI a) := by decide
theorem pcc : ∀ k, k < 6 → pc (KM k) ≤ 15 := by decide
theorem op_mark {c m : UU} (h : Inv c m) (x y : Int32) : Ok (f_X5_mark x y c) (f_X6_mark x y m) := by
  obtain ⟨n, kd, up, lw, dm, w, kp, hB⟩ := h.2.2.2.2
  have h7 := hB.1.1
  unfold f_X5_mark f_X6_mark
  rcases i_cases x (n := n) (by omega) with hx | ⟨i, hi, rfl⟩
  · rw [c_isW_out hB hx, m_isW_out hB hx, bd_some, bd_some, if_pos t00, if_pos t00]
    exact Ok.same h _
  rw [c_isW_in hB hi, m_isW_in hB hi, bd_some, bd_some, if_neg n10, if_neg n10]
  by_cases h1 : y < 1
  · rw [in_0 (Or.inl h1), if_pos t00, if_pos (show y ≤ 0 from i_le.mpr (by have : y.toInt < 1 := i_lt.mp h1; show y.toInt ≤ 0; omega))]
    exact Ok.same h _
  have a1 : ¬ y.toInt < 1 := fun q => h1 (i_lt.mpr q)
  have h1' : ¬ y ≤ 0 := fun q => a1 (by have : y.toInt ≤ 0 := i_le.mp q; omega)
  by_cases h2 : (5 : Int32) < y
  · have : (5 : Int) < y.toInt := i_lt.mp h2
    rw [in_0 (Or.inr h2), if_pos t00, if_neg h1', if_neg (show ¬ y < 6 from fun q => absurd (i_lt.mp q) (by show ¬ y.toInt < 6; omega))]
    exact Ok.same h _
  have a2 : ¬ 5 < y.toInt := fun q => h2 (i_lt.mpr q)
  rw [in_1 h1 h2, if_neg n10, if_neg h1', if_pos (show y < 6 from i_lt.mpr (show y.toInt < 6 by omega))]
  obtain ⟨a, ha, rfl⟩ := le_cases (x := y) (n := 5) (by omega) (i_le.mpr (show 0 ≤ y.toInt by omega)) (i_le.mpr (show y.toInt ≤ 5 by omega))
  rw [nI_toInt (by omega)] at a1
  obtain ⟨k1, -⟩ := hB.1.2.1 i hi
  have hKM := KM_lt _ k1
  have hly : lyM (w dm) < 2 ^ 17 := mkn_lt _ _
  rw [ix_n (show i < 7 by omega) (by omega), ix_n (show i < 7 by omega) (by omega), nI_clamp (by omega), show ui c 13 i = _ from (hB.2.1.2.2.2.2.2.1 i hi).1, (hB.2.2.1.2.2.1 i hi).1, lt_eq, isOf_eq _ k1 a (by omega) (by omega)]
  by_cases q : f_X6_isOf (nI (kd i)) (nI a) = 0
  · rw [if_pos q, if_pos q, show f_X5_found (3 : Int32) c = _ from f_found (f := 3) (by omega), show f_X6_meets (3 : Int32) m = _ from f_meets (f := 3) (by omega)]
    exact Ok.found h (by omega)
  rw [if_neg q, if_neg q, partsOf_eq _ k1, lt_eq, ix_n (show i < 7 by omega) (by omega), allOf_eq k1, bd_some, show ui c 11 4 = _ from hB.2.1.2.2.2.1]
  by_cases z1 : nI a = (1 : Int32)
  · rw [if_pos z1, if_pos z1, bitCount_eq hKM, bits_eq hKM, bd_some]
    exact Ok.same h _
  rw [if_neg z1, if_neg z1]
  by_cases z2 : nI a = (2 : Int32)
  · rw [if_pos z2, if_pos z2, m_lying hB, bd_some, fa_and, fa_and, bitCount_eq (and_lt17 hly), bits_eq (and_lt17 hKM), bd_some, Nat.and_comm]
    exact Ok.same h _
  rw [if_neg z2, if_neg z2]
  by_cases z3 : nI a = (3 : Int32)
  · rw [if_pos z3, if_pos z3, m_lying hB, bd_some, andN_eq, bitCount_eq (andN_lt17 hly), bits_eq (andN_lt17 hly), bd_some]
    exact Ok.same h _
  rw [if_neg z3, if_neg z3]
  by_cases z4 : nI a = (4 : Int32)
  · rw [if_pos z4, if_pos z4, bits_eq hKM, bd_some, show f_X6_allOf (1 : Int32) m = _ from allOf_eq (k := 1) (by omega) m, bd_some, bits_eq (KM_lt 1 (by omega)), bd_some, bitCount_eq hKM, show f_J6_bitCount_0f7a4 (65812 : Int32) = _ from bitCount_eq (KM_lt 1 (by omega))]
    exact Ok.same h _
  rw [if_neg z4, if_neg z4, bits_eq hKM, show f_X6_allOf (3 : Int32) m = _ from allOf_eq (k := 3) (by omega) m, bd_some, bits_eq (KM_lt 3 (by omega)), bd_some, bd_some, bitCount_eq hKM, show f_J6_bitCount_0f7a4 (131056 : Int32) = _ from bitCount_eq (KM_lt 3 (by omega))]
  exact Ok.same h _
