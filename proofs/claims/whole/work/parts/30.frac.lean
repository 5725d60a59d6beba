theorem lN_tI {n : Nat} (h : n < 2 ^ 62) : (lN n).toInt = (n : Int) := lg_ofNat_toInt (by omega)
theorem lN_div {a b : Nat} (ha : a < 2 ^ 62) (hb : b < 2 ^ 62) : lN a / lN b = lN (a / b) := by
  have h1 : a / b ≤ a := Nat.div_le_self a b
  apply l_eq.mpr
  rw [Int64.toInt_div, lN_tI ha, lN_tI hb, lN_tI (by omega), show ((a : Int)).tdiv (b : Int) = ((a / b : Nat) : Int) from (Int.ofNat_tdiv a b).symm]
  generalize a / b = q at *
  exact bm64 (by omega) (by omega)
theorem lN_mod {a b : Nat} (ha : a < 2 ^ 62) (hb : b < 2 ^ 62) : lN a - lN a / lN b * lN b = lN (a % b) := by
  have h2 := Nat.div_add_mod a b
  rw [Nat.mul_comm] at h2
  rw [lN_div ha hb, lN_mul, lN_sub (by omega)]
  congr 1
  omega
theorem lN_ne0 {b : Nat} (hb : b < 2 ^ 62) (h : 0 < b) : ¬ lN b = 0 := fun q => by
  have := l_eq.mp q
  rw [lN_tI hb, show (0 : Int64).toInt = 0 from rfl] at this
  omega
theorem cmp_0 {b : Nat} (hb : b < 2 ^ 62) (h : 0 < b) : ¬ lg_cmp (lN b) 0 = 0 := fun q => lN_ne0 hb h (cmp_eq.mp q)
theorem cmp_00 : lg_cmp (lN 0) 0 = 0 := cmp_eq.mpr rfl
theorem mod2 {a b : Nat} (hb : 0 < b) (h : 0 < a % b) : 2 * (b % (a % b)) < b := by
  have h1 : a % b < b := Nat.mod_lt _ hb
  generalize a % b = r at *
  have h2 := Nat.mod_lt b h
  have h3 := Nat.div_add_mod b r
  have h4 : 1 ≤ b / r := (Nat.le_div_iff_mul_le h).mpr (by omega)
  have h5 : r * 1 ≤ r * (b / r) := Nat.mul_le_mul_left r h4
  omega
theorem gcd_c {u : UU} : ∀ (k a b i n : Nat), a < 2 ^ 62 → b < 2 ^ 62 → b < 2 ^ k → i + 2 * k < 200 → 2 * k < n → f_X5_greatestDivisor_9 n (lN a) (lN b) (nI i) u = some (lN (Nat.gcd b a)) := by
  intro k
  induction k with
  | zero =>
    intro a b i n ha hb h1 h2 h3
    obtain ⟨n, rfl⟩ : ∃ n0, n = n0 + 1 := ⟨n - 1, by omega⟩
    obtain rfl : b = 0 := by omega
    rw [f_X5_greatestDivisor_9, if_neg (show ¬ (200 : Int32) ≤ nI i from nI_ge (b := 200) (by omega) (by omega)), if_pos cmp_00, Nat.gcd_zero_left]
  | succ k ih =>
    intro a b i n ha hb h1 h2 h3
    obtain ⟨n, rfl⟩ : ∃ n0, n = n0 + 1 := ⟨n - 1, by omega⟩
    rw [f_X5_greatestDivisor_9, if_neg (show ¬ (200 : Int32) ≤ nI i from nI_ge (b := 200) (by omega) (by omega))]
    by_cases z : b = 0
    · subst z
      rw [if_pos cmp_00, Nat.gcd_zero_left]
    · rw [if_neg (cmp_0 hb (by omega)), nzl_ok (lN_ne0 hb (by omega)), lN_mod ha hb, lt_eq, lt_eq, nI_1, Nat.gcd_rec b a]
      have hm : a % b < b := Nat.mod_lt _ (by omega)
      obtain ⟨n, rfl⟩ : ∃ n0, n = n0 + 1 := ⟨n - 1, by omega⟩
      rw [f_X5_greatestDivisor_9, if_neg (show ¬ (200 : Int32) ≤ nI (i + 1) from nI_ge (b := 200) (by omega) (by omega))]
      by_cases y : a % b = 0
      · rw [y, if_pos cmp_00, Nat.gcd_zero_left]
      · have h4 := mod2 (a := a) (b := b) (by omega) (by omega)
        rw [if_neg (cmp_0 (by omega) (by omega)), nzl_ok (lN_ne0 (by omega) (by omega)), lN_mod hb (by omega), lt_eq, lt_eq, nI_1, ih (a % b) (b % (a % b)) (i + 2) n (by omega) (by omega) (by omega) (by omega) (by omega), ← Nat.gcd_rec]
theorem gcd_m {u : UU} {x y : Int64} {r : Int32} : ∀ (k a b n : Nat), a < 2 ^ 62 → b < 2 ^ 62 → 0 < a + b → b < 2 ^ k → 2 * k < n → f_X6_lowest_6 n x y r (lN a) (lN b) u = some (r, sl (sl u 55 1 (x / lN (Nat.gcd b a))) 55 2 (y / lN (Nat.gcd b a))) := by
  have fin : ∀ a n, 0 < a → a < 2 ^ 62 → f_X6_lowest_6 (n + 1) x y r (lN a) (lN 0) u = some (r, sl (sl u 55 1 (x / lN a)) 55 2 (y / lN a)) := by
    intro a n h0 h1
    rw [f_X6_lowest_6, if_pos cmp_00, nzl_ok (lN_ne0 h1 h0), lt_eq, nzl_ok (lN_ne0 h1 h0)]
    rfl
  intro k
  induction k with
  | zero =>
    intro a b n ha hb h0 h1 h3
    obtain ⟨n, rfl⟩ : ∃ n0, n = n0 + 1 := ⟨n - 1, by omega⟩
    obtain rfl : b = 0 := by omega
    rw [fin a n (by omega) ha, Nat.gcd_zero_left]
  | succ k ih =>
    intro a b n ha hb h0 h1 h3
    obtain ⟨n, rfl⟩ : ∃ n0, n = n0 + 1 := ⟨n - 1, by omega⟩
    by_cases z : b = 0
    · subst z
      rw [fin a n (by omega) ha, Nat.gcd_zero_left]
    · have hm : a % b < b := Nat.mod_lt _ (by omega)
      rw [f_X6_lowest_6, if_neg (cmp_0 hb (by omega)), nzl_ok (lN_ne0 hb (by omega)), lN_mod ha hb, lt_eq, Nat.gcd_rec b a]
      obtain ⟨n, rfl⟩ : ∃ n0, n = n0 + 1 := ⟨n - 1, by omega⟩
      by_cases y : a % b = 0
      · rw [y, fin b n (by omega) hb, Nat.gcd_zero_left]
      · have h4 := mod2 (a := a) (b := b) (by omega) (by omega)
        rw [f_X6_lowest_6, if_neg (cmp_0 (by omega) (by omega)), nzl_ok (lN_ne0 (by omega) (by omega)), lN_mod hb (by omega), lt_eq, ih (a % b) (b % (a % b)) n (by omega) (by omega) (by omega) (by omega) (by omega), ← Nat.gcd_rec]
theorem Inv.toldL {c m : UU} (h : Inv c m) (x y : Int64) : Inv (sl (sl c 0 10 x) 0 11 y) (sl (sl m 55 1 x) 55 2 y) := by
  obtain ⟨⟨f1, f2⟩, ⟨t1, t2, t3⟩, hS, hX, hI⟩ := h
  refine ⟨⟨f1, f2⟩, ⟨t1, ?_, ?_⟩, hS, hX, hI⟩ <;> simp [ul_sl_r]
theorem frac {c m : UU} (h : Inv c m) {a b : Nat} (ha : a < 2 ^ 62) (hb : b < 2 ^ 62) (h0 : 0 < b) (r : Int32) : ∃ c' m', f_X5_tellFraction (lN a) (lN b) c = some c' ∧ f_X6_lowest (lN a) (lN b) r m = some (r, m') ∧ Inv c' m' := by
  unfold f_X5_tellFraction f_X5_greatestDivisor f_X6_lowest
  have hg : 0 < Nat.gcd b a := Nat.gcd_pos_of_pos_left a h0
  have hg2 : Nat.gcd b a ≤ b := Nat.le_of_dvd h0 (Nat.gcd_dvd_left b a)
  rw [show (0 : Int32) = nI 0 from rfl, gcd_c 62 a b 0 fu ha hb hb (by omega) (by unfold fu; omega), gcd_m 62 a b fu ha hb (by omega) hb (by unfold fu; omega), bd_some, if_neg, nzl_ok (lN_ne0 (by omega) hg), lt_eq, nzl_ok (lN_ne0 (by omega) hg)]
  · exact ⟨_, _, rfl, rfl, h.toldL _ _⟩
  · intro q
    have : 0 < lg_cmp (lN (Nat.gcd b a)) 0 := cmp_gt.mpr (by rw [lN_tI (by omega)]; show (0 : Int) < _; omega)
    have q2 := i_le.mp q
    have q3 := i_lt.mp this
    have e : (nI 0).toInt = (0 : Int32).toInt := rfl
    omega
theorem op_lacks {c m : UU} (h : Inv c m) (x : Int32) : Ok (f_X5_lacks x c) (f_X6_lacks x m) := by
  obtain ⟨n, kd, up, lw, dm, w, kp, hB⟩ := h.2.2.2.2
  have h7 := hB.1.1
  unfold f_X5_lacks f_X6_lacks
  rcases i_cases x (n := n) (by omega) with hx | ⟨i, hi, rfl⟩
  · rw [c_isW_out hB hx, m_isW_out hB hx, bd_some, bd_some, if_pos t00, if_pos t00]
    exact Ok.same h _
  rw [c_isW_in hB hi, m_isW_in hB hi, bd_some, bd_some, if_neg n10, if_neg n10, m_lack hB hi, bd_some, ix_n (by omega) (by omega), nI_clamp (by omega)]
  obtain ⟨-, -, -, -, q4⟩ := hB.2.1.2.2.2.2.2.1 i hi
  have hd := due_lt (hB.1.2.1 i hi).2.2.2.1 (hB.1.2.1 i hi).2.2.1
  rw [show ui c 17 i = _ from q4, nI_l (by omega)]
  obtain ⟨c', m', e1, e2, e3⟩ := frac h (a := due up lw i - Sm (w dm (18 + i))) (b := 720720) (by omega) (by omega) (by omega) 1
  rw [show (720720 : Int64) = lN 720720 from rfl, e1, e2]
  exact ⟨_, _, _, rfl, rfl, e3⟩

theorem op_mid {c m : UU} (h : Inv c m) (x y : Int32) : Ok (f_X5_mid x y c) (f_X6_mid x y m) := by
  obtain ⟨n, kd, up, lw, dm, w, kp, hB⟩ := h.2.2.2.2
  have h7 := hB.1.1
  unfold f_X5_mid f_X6_mid
  rcases i_cases x (n := n) (by omega) with hx | ⟨i, hi, rfl⟩
  · rw [c_isW_out hB hx, m_isW_out hB hx, bd_some, bd_some, if_pos t00, if_pos t00]
    exact Ok.same h _
  rw [c_isW_in hB hi, m_isW_in hB hi, bd_some, bd_some, if_neg n10, if_neg n10]
  rcases i_cases y (n := 13) (by omega) with hy | ⟨k, hk, rfl⟩
  · rw [show f_X6_in y 0 12 = 0 from in_out (n := 12) (by omega) hy, if_pos t00]
    by_cases h1 : y < 0
    · rw [if_pos h1]
      exact Ok.same h _
    · rw [if_neg h1, if_neg (fun q => absurd (i_le.mp q) (by have := i_le.mp (hy.resolve_left h1); rw [nI_toInt (by omega)] at this; show ¬ y.toInt ≤ 12; omega))]
      exact Ok.same h _
  · obtain ⟨hf, -, hf3⟩ := (wf_now hB).2.2 i hi
    have hd := due_lt (hB.1.2.1 i hi).2.2.2.1 (hB.1.2.1 i hi).2.2.1
    rw [show f_X6_in (nI k) 0 12 = 1 from in_in (n := 12) (by omega) (by omega), if_neg n10, if_neg (nI_pos (by omega)), if_pos (show nI k ≤ 12 from nI_le (b := 12) (by omega) (by omega)), c_had hB hi, bd_some, n18, ix_n (by omega) (by omega), nI_clamp (by omega), m_now hB (by omega), sumOf_eq hf, bd_some, nI_l (by omega), nI_l (by omega), show (12 : Int32) - nI k = nI (12 - k) from pk_sub (a := 12) (by omega), nI_l (by omega), show (12 : Int64) = lN 12 from rfl, lN_sub (by omega), lN_mul, lN_mul, Nat.mul_comm (12 - k)]
    have hle : Sm (w dm (18 + i)) * (12 - k) ≤ Sm (w dm (18 + i)) * 12 := Nat.mul_le_mul_left _ (by omega)
    obtain ⟨c', m', e1, e2, e3⟩ := frac h (a := Sm (w dm (18 + i)) * (12 - k)) (b := 8648640) (by omega) (by omega) (by omega) 1
    rw [show (8648640 : Int64) = lN 8648640 from rfl, e1, e2]
    exact ⟨_, _, _, rfl, rfl, e3⟩
theorem poor_l {c m : UU} {n : Nat} {kd up lw : Nat → Nat} {dm : Nat} {w : Nat → Nat → Nat} {kp : KP} (h : Inv c m) (hB : TB n kd up lw dm w kp c m) : ∀ (d i j F G : Nat), i < n → j ≤ n → n ≤ j + d → n + 1 ≤ j + F → n + 1 ≤ j + G → Ok (f_X5_poor_17 F (nI i) (nI j) c) (f_X6_poor_14 G (nI i) (nI j) m) := by
  have h7 := hB.1.1
  have lk : ∀ i, i < n → ui c 17 i = nI (due up lw i - Sm (w dm (18 + i))) := fun i hi => (hB.2.1.2.2.2.2.2.1 i hi).2.2.2.2
  have dl : ∀ i, i < n → due up lw i < 2 ^ 30 := fun i hi => due_lt (hB.1.2.1 i hi).2.2.2.1 (hB.1.2.1 i hi).2.2.1
  intro d
  induction d with
  | zero =>
    intro i j F G hi hj hd hF hG
    obtain ⟨F, rfl⟩ : ∃ F0, F = F0 + 1 := ⟨F - 1, by omega⟩
    obtain ⟨G, rfl⟩ : ∃ G0, G = G0 + 1 := ⟨G - 1, by omega⟩
    have := dl i hi
    rw [f_X5_poor_17, f_X6_poor_14, hB.2.1.1, hB.2.2.1.1, if_pos (nI_le (by omega) (by omega)), if_pos (nI_le (by omega) (by omega)), ix_n (by omega) (by omega), nI_clamp (by omega), lk i hi, m_lack hB hi, bd_some, nI_l (by omega)]
    obtain ⟨c', m', e1, e2, e3⟩ := frac h (a := due up lw i - Sm (w dm (18 + i))) (b := 720720) (by omega) (by omega) (by omega) (nI i)
    rw [show (720720 : Int64) = lN 720720 from rfl, e1, e2]
    exact ⟨_, _, _, rfl, rfl, e3⟩
  | succ d ih =>
    intro i j F G hi hj hd hF hG
    by_cases q : n ≤ j
    · exact ih i j F G hi hj (by omega) hF hG
    · obtain ⟨F, rfl⟩ : ∃ F0, F = F0 + 1 := ⟨F - 1, by omega⟩
      obtain ⟨G, rfl⟩ : ∃ G0, G = G0 + 1 := ⟨G - 1, by omega⟩
      rw [f_X5_poor_17, f_X6_poor_14, hB.2.1.1, hB.2.2.1.1, if_neg (nI_ge (by omega) (by omega)), if_neg (nI_ge (by omega) (by omega)), ix_n (by omega) (by omega), ix_n (by omega) (by omega), nI_clamp (by omega), nI_clamp (by omega), lk i hi, lk j (by omega), m_lack hB (show j < n by omega), bd_some, m_lack hB hi, bd_some]
      unfold f_X5_poor_51 f_X6_poor_40
      rw [lt_eq, lt_eq, lt_eq, lt_eq, nI_1]
      split
      · exact ih i (j + 1) F G hi (by omega) (by omega) (by omega) (by omega)
      · exact ih j (j + 1) F G (by omega) (by omega) (by omega) (by omega) (by omega)
theorem op_poor {c m : UU} (h : Inv c m) : Ok (f_X5_poor c) (f_X6_poor m) := by
  obtain ⟨n, kd, up, lw, dm, w, kp, hB⟩ := h.2.2.2.2
  have h7 := hB.1.1
  unfold f_X5_poor f_X6_poor
  rw [hB.2.1.1, hB.2.2.1.1]
  by_cases z : n = 0
  · rw [if_pos (by rw [z]; rfl), if_pos (by rw [z]; rfl)]
    exact Ok.same h _
  · rw [if_neg (nI_ne0 (by omega) (by omega)), if_neg (nI_ne0 (by omega) (by omega)), show fu = 99999 + 1 from rfl, f_X6_poor_14, hB.2.2.1.1, if_neg (show ¬ nI n ≤ 0 from nI_nle (by omega) (by omega)), show (0 : Int32) = nI 0 from rfl, m_lack hB (show 0 < n by omega), bd_some, bd_some]
    unfold f_X6_poor_40
    rw [lt_eq, nI_1, if_pos (i_le.mpr (Int.le_refl _))]
    exact poor_l h hB 7 0 1 100000 99999 (by omega) (by omega) (by omega) (by omega) (by omega)
