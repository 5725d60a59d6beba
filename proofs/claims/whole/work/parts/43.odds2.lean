theorem en_s (F : Nat) (x0 x1 x2 x3 x4 : Int32) (u : UU) : f_X5_enoughLeft (F + 1) x0 x1 x2 x3 x4 u = f_X5_enoughLeft_body (f_X5_enoughLeft F) x0 x1 x2 x3 x4 u := rfl
theorem en_l {H k : Nat} (hH : H < 2 ^ 17) (hk : k ≤ 12) (u : UU) : ∀ (e d F h : Nat) (T : Int) (x2 : Int32), d + e = 17 → 2 ≤ d → e < F → h < 2 ^ 17 → (∀ j, d ≤ j → h.testBit j = H.testBit j) → pc h + pcn H d = pc H → Sm h + smn H d = Sm H → x2.toInt = T → T < 1000000000 → -1000000000 < T - 2 * ((Sm h : Nat) : Int) → f_X5_enoughLeft F (nI d) (nI h) x2 (nI (2 * Sm h)) (nI k) u = some (lN (Wo H k e d T)) := by
  intro e
  induction e with
  | zero =>
    intro d F h T x2 h1 h2 h3 h4 h5 h6 h7 h8 h9 h10
    obtain ⟨F, rfl⟩ : ∃ F0, F = F0 + 1 := ⟨F - 1, by omega⟩
    obtain rfl : d = 17 := by omega
    have p0 : pc h = 0 := by
      have : pcn H 17 = pc H := rfl
      omega
    rw [en_s]
    unfold f_X5_enoughLeft_body
    by_cases z : 0 < T
    · rw [if_pos (i_lt.mpr (by rw [h8]; exact z)), if_pos (show (16 : Int32) < nI 17 by decide), Wo, if_neg (by omega)]
      rfl
    · rw [if_neg (fun q => z (by have := i_lt.mp q; rw [h8] at this; exact this)), bitCount_eq h4, c_pow (by omega), bd_some, Wo, if_pos (by omega), p0]
  | succ e ih =>
    intro d F h T x2 h1 h2 h3 h4 h5 h6 h7 h8 h9 h10
    obtain ⟨F, rfl⟩ : ∃ F0, F = F0 + 1 := ⟨F - 1, by omega⟩
    have hSm := smn_lt h 17
    have hSm' : Sm h ≤ 720720 * 17 := hSm
    rw [en_s]
    unfold f_X5_enoughLeft_body
    by_cases z : 0 < T
    · rw [if_pos (i_lt.mpr (by rw [h8]; exact z)), if_neg (show ¬ (16 : Int32) < nI d from nI_nlt (a := 16) (by omega) (by omega))]
      by_cases y : T ≤ 2 * ((Sm h : Nat) : Int)
      · rw [if_pos (i_le.mpr (by rw [h8, nI_toInt (by omega)]; omega)), holds_eq (by omega) (by omega), ps_eq (by omega) (by omega), shl1 (by omega), andN_eq, nI_1]
        have sp : pcn H (d + 1) = pcn H d + if H.testBit d = true then 1 else 0 := rfl
        have ss : smn H (d + 1) = smn H d + if 2 ≤ d ∧ H.testBit d = true then 720720 / d else 0 := rfl
        by_cases b : h.testBit d = true
        · have bH : H.testBit d = true := by rw [← h5 d (Nat.le_refl _)]; exact b
          obtain ⟨a1, a2, a3⟩ := andN_one b h4
          rw [if_pos bH] at sp
          rw [if_pos ⟨h2, bH⟩] at ss
          have hl0 : h - 2 ^ d < 2 ^ 17 := Nat.lt_of_le_of_lt (Nat.sub_le _ _) h4
          generalize hh : h - 2 ^ d = h' at *
          have eh : h = h' + 2 ^ d := by omega
          have eS : Sm h = Sm h' + 720720 / d := by rw [eh]; exact Sm_add a3 h2 (by omega)
          have eP : pc h = pc h' + 1 := by
            have := pcn_add a3 17
            rw [if_pos (by omega)] at this
            rw [eh]; exact this
          have hs := Nat.div_le_self 720720 d
          have bits' : ∀ j, d + 1 ≤ j → h'.testBit j = H.testBit j := fun j hj => by
            rw [← h5 j (by omega), eh, pw_bit a3]
            have : ¬ j = d := by omega
            simp [this]
          have ex : (2 : Int32) * nI (720720 / d) = nI (2 * (720720 / d)) := pk_mul 2 _
          generalize hq : 720720 / d = q at *
          have e2 : (x2 - nI (2 * q)).toInt = T - 2 * (q : Int) := by
            rw [i_sub (by rw [h8, nI_toInt (by omega)]; omega) (by rw [h8, nI_toInt (by omega)]; omega), h8, nI_toInt (by omega)]
            omega
          have r1 := ih (d + 1) F h' T x2 (by omega) (by omega) (by omega) hl0 bits' (by omega) (by omega) h8 h9 (by omega)
          have r2 := ih (d + 1) F h' (T - 2 * (q : Int)) (x2 - nI (2 * q)) (by omega) (by omega) (by omega) hl0 bits' (by omega) (by omega) e2 (by omega) (by omega)
          rw [if_pos b, if_neg n10, ex, lt_eq, lt_eq, a1, pk_sub (show 2 * q ≤ 2 * Sm h by omega), show 2 * Sm h - 2 * q = 2 * Sm h' by omega, r1, bd_some, r2, bd_some, show (12 : Int32) - nI k = nI (12 - k) from pk_sub (a := 12) hk, nI_l (by omega), nI_l (by omega), lN_mul, lN_mul, lN_add, Wo, if_pos bH, hq]
        · have bH : ¬ H.testBit d = true := by rw [← h5 d (Nat.le_refl _)]; exact b
          rw [if_neg bH] at sp
          rw [if_neg (fun q => bH q.2)] at ss
          rw [if_neg b, if_pos t00, ih (d + 1) F h T x2 (by omega) (by omega) (by omega) h4 (fun j hj => h5 j (by omega)) (by omega) (by omega) h8 h9 h10, bd_some, Wo, if_neg bH]
      · rw [if_neg (fun q => y (by have := i_le.mp q; rw [h8, nI_toInt (by omega)] at this; omega)), Wo_zero (e + 1) d T h2 z (by
          rw [show d + (e + 1) = 17 by omega]
          have : smn H 17 = Sm H := rfl
          omega)]
        rfl
    · have w := Wo_pos (H := H) hk (e + 1) d T (by omega)
      rw [show d + (e + 1) = 17 by omega, show pcn H 17 = pc h + pcn H d from h6.symm, Nat.pow_add] at w
      rw [if_neg (fun q => z (by have := i_lt.mp q; rw [h8] at this; exact this)), bitCount_eq h4, c_pow (pc_le17 h), bd_some, Nat.eq_of_mul_eq_mul_right (Nat.pow_pos (by omega)) w]
