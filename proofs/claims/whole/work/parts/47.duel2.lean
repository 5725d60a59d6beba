theorem i_div {x : Int32} {b : Nat} (hb : 0 < b) (hb2 : b < 2 ^ 31) (h : -2000000000 ≤ x.toInt) : (x / nI b).toInt = x.toInt.tdiv b := by
  have r := i_rng x
  have e : x.toInt.tdiv b = if 0 ≤ x.toInt then x.toInt / b else -((-x.toInt) / b) := by
    by_cases z : 0 ≤ x.toInt
    · rw [if_pos z, Int.tdiv_eq_ediv_of_nonneg z]
    · rw [if_neg z]
      have : x.toInt = -(-x.toInt) := by omega
      rw [this, Int.neg_tdiv, Int.tdiv_eq_ediv_of_nonneg (by omega), Int.neg_neg]
  have hbi : (0 : Int) < b := by omega
  rw [Int32.toInt_div, nI_toInt hb2]
  refine bm32 ?_ ?_
  · rw [e]
    split
    · rename_i z
      have := Int.ediv_nonneg z (show (0 : Int) ≤ b by omega)
      omega
    · rename_i z
      have := Int.ediv_le_self (a := -x.toInt) (b : Int) (by omega)
      omega
  · rw [e]
    split
    · rename_i z
      have := Int.ediv_le_self (a := x.toInt) (b : Int) z
      omega
    · rename_i z
      have := Int.ediv_nonneg (show 0 ≤ -x.toInt by omega) (show (0 : Int) ≤ b by omega)
      omega
theorem xor_sign (x : Int32) : (0 : Int32) ≤ x ^^^ (1000 : Int32) ↔ 0 ≤ x.toInt := by
  have h : ∀ z : Int32, (0 : Int32) ≤ z ↔ z.toBitVec.msb = false := by
    intro z
    rw [i_le, BitVec.msb_eq_toInt]
    show (0 : Int) ≤ z.toInt ↔ decide (z.toBitVec.toInt < 0) = false
    rw [decide_eq_false_iff_not]
    show (0 : Int) ≤ z.toBitVec.toInt ↔ _
    omega
  rw [h, show (x ^^^ (1000 : Int32)).toBitVec = x.toBitVec ^^^ (1000 : Int32).toBitVec from rfl, BitVec.msb_xor, show (1000 : Int32).toBitVec.msb = false from rfl, Bool.xor_false, ← h, i_le]
  rfl
theorem fd_eq {x : Int32} {u : UU} (h1 : -1000000000 ≤ x.toInt) (h2 : x.toInt ≤ 1000000000) : f_J9_floorDiv_7cf53 x 1000 u = some (if x < 0 then -(((999 : Int32) - x) / (1000 : Int32)) else x / (1000 : Int32)) := by
  unfold f_J9_floorDiv_7cf53
  rw [nz_ok (by decide), lt_eq]
  have d1 : (x / (1000 : Int32)).toInt = x.toInt.tdiv 1000 := i_div (b := 1000) (by omega) (by omega) (by omega)
  by_cases z : 0 ≤ x.toInt
  · rw [if_pos ((xor_sign x).mpr z), if_neg (fun q => by have := i_lt.mp q; rw [show (0 : Int32).toInt = 0 from rfl] at this; omega)]
  · have e1 : x.toInt.tdiv 1000 = -((-x.toInt) / 1000) := by
      have : x.toInt = -(-x.toInt) := by omega
      rw [this, Int.neg_tdiv, Int.tdiv_eq_ediv_of_nonneg (by omega), Int.neg_neg]
    rw [if_neg (fun q => z ((xor_sign x).mp q)), if_pos (i_lt.mpr (by show x.toInt < 0; omega))]
    have d2 : ((999 : Int32) - x).toInt = 999 - x.toInt := by
      rw [i_sub (by show _ ≤ 999 - x.toInt; omega) (by show 999 - x.toInt ≤ _; omega)]
      rfl
    have d3 : (((999 : Int32) - x) / (1000 : Int32)).toInt = (999 - x.toInt) / 1000 := by
      rw [show (((999 : Int32) - x) / (1000 : Int32)).toInt = ((999 : Int32) - x).toInt.tdiv 1000 from i_div (b := 1000) (by omega) (by omega) (by omega), d2, Int.tdiv_eq_ediv_of_nonneg (by omega)]
    have d4 : (-(((999 : Int32) - x) / (1000 : Int32))).toInt = -((999 - x.toInt) / 1000) := by
      rw [Int32.toInt_neg, d3]
      exact bm32 (by omega) (by omega)
    have d5 : (x / (1000 : Int32) * (1000 : Int32)).toInt = -((-x.toInt) / 1000) * 1000 := by
      rw [i_mul (by rw [d1, e1]; show _ ≤ _ * (1000 : Int); omega) (by rw [d1, e1]; show _ * (1000 : Int) ≤ _; omega), d1, e1]
      rfl
    by_cases y : x / (1000 : Int32) * (1000 : Int32) = x
    · rw [if_pos y]
      refine congrArg some (i_eq.mpr ?_)
      have := i_eq.mp y
      rw [d5] at this
      rw [d1, e1, d4]
      omega
    · rw [if_neg y]
      have y' : ¬ -((-x.toInt) / 1000) * 1000 = x.toInt := fun q => y (i_eq.mpr (by rw [d5]; exact q))
      refine congrArg some (i_eq.mpr ?_)
      rw [i_sub (by rw [d1, e1]; show _ ≤ _ - (1 : Int); omega) (by rw [d1, e1]; show _ - (1 : Int) ≤ _; omega), d1, e1, d4]
      show _ - (1 : Int) = _
      omega
