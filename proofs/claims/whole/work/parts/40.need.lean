section Need
variable {n : Nat} {kd up lw : Nat → Nat} {dm : Nat} {w : Nat → Nat → Nat} {kp : KP}
theorem and_all {a : Nat} (h : a < 2 ^ 17) (h4 : a % 4 = 0) : a &&& 131068 = a := by
  have hb : ∀ j, j < 17 → 2 ≤ j → (131068 : Nat).testBit j = true := by decide
  refine Nat.eq_of_testBit_eq fun j => ?_
  rw [Nat.testBit_and]
  by_cases q : j < 17
  · by_cases r : 2 ≤ j
    · rw [hb j q r, Bool.and_true]
    · have l := mod4_lo h4
      have : j = 0 ∨ j = 1 := by omega
      rcases this with rfl | rfl
      · rw [l.1]; rfl
      · rw [l.2]; rfl
  · rw [tb_big h (by omega)]; rfl
def RLn (c m : UU) : Prop := ∀ j, j < 17 → ui c 53 j = ui m 72 j
theorem nd_in {b : Nat} (hb : b < 2 ^ 17) {Kc : Int32 → Int32 → UU → Option (Int32 × UU)} {Km : Int32 → Int32 → UU → Option (Int32 × UU)} {x1 x2 y1 y2 : Int32} : ∀ (e d F G : Nat) (c m : UU), d + e = 17 → 2 ≤ d → e < F → e < G → RLn c m → ui c 52 4 = nI b → ui m 55 28 = nI b → ∃ c' m', f_X5_countWanted_78 Kc F x1 x2 (nI d) c = f_X5_countWanted_118 Kc x1 x2 c' ∧ f_X6_need_66 Km G y1 y2 1 (nI d) m = f_X6_need_110 Km y1 y2 m' ∧ RLn c' m' ∧ Fs (fun k _ => k = 53) c c' ∧ Fs (fun k _ => k = 72) m m' := by
  intro e
  induction e with
  | zero =>
    intro d F G c m h1 h2 h3 h4 h5 h6 h7
    obtain ⟨F, rfl⟩ : ∃ F0, F = F0 + 1 := ⟨F - 1, by omega⟩
    obtain ⟨G, rfl⟩ : ∃ G0, G = G0 + 1 := ⟨G - 1, by omega⟩
    rw [f_X5_countWanted_78, f_X6_need_66, if16 (by omega), if16 (by omega), if_pos (show 17 ≤ d by omega), if_pos (show 17 ≤ d by omega)]
    exact ⟨c, m, rfl, rfl, h5, Fs.rf, Fs.rf⟩
  | succ e ih =>
    intro d F G c m h1 h2 h3 h4 h5 h6 h7
    obtain ⟨F, rfl⟩ : ∃ F0, F = F0 + 1 := ⟨F - 1, by omega⟩
    obtain ⟨G, rfl⟩ : ∃ G0, G = G0 + 1 := ⟨G - 1, by omega⟩
    rw [f_X5_countWanted_78, f_X6_need_66, if16 (by omega), if16 (by omega), if_neg (show ¬ 17 ≤ d by omega), if_neg (show ¬ 17 ≤ d by omega), if_neg n10, ix_n (by omega) (by omega), ix_n (by omega) (by omega), nI_clamp (by omega), h6, h7, holds_eq (by omega) (by omega), has_eq (by omega) (by omega), h5 d (by omega)]
    unfold f_X5_countWanted_110 f_X6_need_102
    simp only [lt_eq, nI_1, ix_n (show d < 17 by omega) (show 17 < 2 ^ 31 by omega), nI_clamp (show d < 2 ^ 31 by omega)]
    have stp : ∀ v : Int32, ∃ c' m', f_X5_countWanted_78 Kc F x1 x2 (nI (d + 1)) (si c 53 d v) = f_X5_countWanted_118 Kc x1 x2 c' ∧ f_X6_need_66 Km G y1 y2 1 (nI (d + 1)) (si m 72 d v) = f_X6_need_110 Km y1 y2 m' ∧ RLn c' m' ∧ Fs (fun k _ => k = 53) c c' ∧ Fs (fun k _ => k = 72) m m' := by
      intro v
      obtain ⟨c', m', g1, g2, g3, g4, g5⟩ := ih (d + 1) F G (si c 53 d v) (si m 72 d v) (by omega) (by omega) (by omega) (by omega) (fun j hj => by
        rw [ui_si_r, ui_si_r]
        by_cases q : j = d
        · rw [if_pos ⟨rfl, q⟩, if_pos ⟨rfl, q⟩]
        · rw [if_neg (by omega), if_neg (by omega)]; exact h5 j hj) (by rw [ui_si_r, if_neg (by omega)]; exact h6) (by rw [ui_si_r, if_neg (by omega)]; exact h7)
      exact ⟨c', m', g1, g2, g3, Fs.tr (P := fun k _ => k = 53) (Fs.si rfl) g4, Fs.tr (P := fun k _ => k = 72) (Fs.si rfl) g5⟩
    by_cases q : b.testBit d = true
    · rw [if_pos q, if_neg n10, if_neg n10]
      exact stp _
    · rw [if_neg q, if_pos rfl, if_pos rfl]
      exact stp _
theorem nd_out : ∀ (e i F G : Nat) (x : Int32) (c m : UU), TB n kd up lw dm w kp c m → i + e = n → e < F → e < G → RLn c m → ∃ x' c' m', f_X5_countWanted_28 F x (nI i) c = some (x', c') ∧ f_X6_need_35 G x (nI i) m = f_X6_need_120 fu x' 0 2 m' ∧ RLn c' m' ∧ Fs PC c c' ∧ Fs PM m m' := by
  intro e
  induction e with
  | zero =>
    intro i F G x c m hB h1 h2 h3 h4
    have h7 := hB.1.1
    obtain ⟨F, rfl⟩ : ∃ F0, F = F0 + 1 := ⟨F - 1, by omega⟩
    obtain ⟨G, rfl⟩ : ∃ G0, G = G0 + 1 := ⟨G - 1, by omega⟩
    rw [f_X5_countWanted_28, f_X6_need_35, hB.2.1.1, hB.2.2.1.1, if_pos (nI_le (by omega) (by omega)), if_pos (nI_le (by omega) (by omega))]
    exact ⟨x, c, m, rfl, rfl, h4, Fs.rf, Fs.rf⟩
  | succ e ih =>
    intro i F G x c m hB h1 h2 h3 h4
    have h7 := hB.1.1
    obtain ⟨F, rfl⟩ : ∃ F0, F = F0 + 1 := ⟨F - 1, by omega⟩
    obtain ⟨G, rfl⟩ : ∃ G0, G = G0 + 1 := ⟨G - 1, by omega⟩
    have hi : i < n := by omega
    have k6 := (hB.1.2.1 i hi).1
    have M17 : andN (KM (kd i)) (w dm (18 + i)) < 2 ^ 17 := andN_lt17 (KM_lt _ k6)
    obtain ⟨k, b, g, c1, m1, a1, a2, ⟨l1, l2, l3, l4⟩, a4, a5, a6⟩ := one_look hB hi (X := 131068) (by omega)
    rw [and_all M17 (andN4 k6)] at a1
    have hB1 := hB.fs (up52 a4) (up55 a5)
    have r1 : RLn c1 m1 := fun j hj => by rw [a4.1 _ _ (by omega), a5.1 _ _ (by omega)]; exact h4 j hj
    rw [f_X5_countWanted_28, f_X6_need_35, hB.2.1.1, hB.2.2.1.1, if_neg (nI_ge (by omega) (by omega)), if_neg (nI_ge (by omega) (by omega)), ix_n (by omega) (by omega), nI_clamp (by omega), c_open hB hi, bd_some, a1, bd_some, l1, show (131068 : Int32) = nI 131068 from rfl, a2, bd_some]
    unfold f_X6_need_61
    dsimp only
    by_cases z : k = 0
    · rw [if_pos (show nI k ≤ 0 by rw [z]; decide), if_pos z, if_pos t00, show fu = 99999 + 1 from rfl, lt_eq, f_X6_need_66, if_neg (show ¬ (16 : Int32) < 2 by decide), if_pos t00, show x + (0 : Int32) = x by simp]
      unfold f_X5_countWanted_118 f_X6_need_110
      rw [lt_eq, lt_eq, nI_1]
      obtain ⟨x', c', m', g1, g2, g3, g4, g5⟩ := ih (i + 1) F G x c1 m1 hB1 (by omega) (by omega) (by omega) r1
      exact ⟨x', c', m', g1, g2, g3, (up52 a4).tr g4, (up55 a5).tr g5⟩
    · obtain ⟨q1, q2, q3, q4, q5, q6, q7, q8, -⟩ := l4 (by omega)
      rw [if_neg (nI_nle (by omega) (by omega)), if_neg z, if_neg n10, lt_eq, lt_eq]
      obtain ⟨c2, m2, s1, s2, s3, s4, s5⟩ := nd_in q8 (Kc := f_X5_countWanted_28 F) (Km := f_X6_need_35 G) (x1 := x + 1) (x2 := nI i) (y1 := x + 1) (y2 := nI i) 15 2 fu fu c1 m1 (by omega) (by omega) (by unfold fu; omega) (by unfold fu; omega) r1 q5 q6
      have u1 : Fs PC c1 c2 := s4.up (fun k j q => by unfold PC; omega)
      have u2 : Fs PM m1 m2 := s5.up (fun k j q => by unfold PM; omega)
      rw [show (2 : Int32) = nI 2 from rfl, s1, s2]
      unfold f_X5_countWanted_118 f_X6_need_110
      rw [lt_eq, lt_eq, nI_1]
      obtain ⟨x', c', m', g1, g2, g3, g4, g5⟩ := ih (i + 1) F G (x + 1) c2 m2 (hB1.fs u1 u2) (by omega) (by omega) (by omega) s3
      exact ⟨x', c', m', g1, g2, g3, ((up52 a4).tr u1).tr g4, ((up55 a5).tr u2).tr g5⟩
theorem nd_init : ∀ (e i F G : Nat) (c m : UU), i + e = 17 → e < F → e < G → (∀ j, j < i → ui c 53 j = ui m 72 j) → ∃ c' m', f_X5_countWanted_2 F (nI i) c = f_X5_countWanted_28 fu 0 0 c' ∧ f_X6_need_12 G (nI i) m = f_X6_need_35 fu 0 0 m' ∧ RLn c' m' ∧ Fs PC c c' ∧ Fs PM m m' := by
  intro e
  induction e with
  | zero =>
    intro i F G c m h1 h2 h3 h4
    obtain ⟨F, rfl⟩ : ∃ F0, F = F0 + 1 := ⟨F - 1, by omega⟩
    obtain ⟨G, rfl⟩ : ∃ G0, G = G0 + 1 := ⟨G - 1, by omega⟩
    obtain rfl : i = 17 := by omega
    rw [f_X5_countWanted_2, f_X6_need_12, if16 (by omega), if_pos (show (17 : Int32) ≤ nI 17 by decide), if_pos (show 17 ≤ 17 by omega)]
    exact ⟨c, m, rfl, rfl, h4, Fs.rf, Fs.rf⟩
  | succ e ih =>
    intro i F G c m h1 h2 h3 h4
    obtain ⟨F, rfl⟩ : ∃ F0, F = F0 + 1 := ⟨F - 1, by omega⟩
    obtain ⟨G, rfl⟩ : ∃ G0, G = G0 + 1 := ⟨G - 1, by omega⟩
    rw [f_X5_countWanted_2, f_X6_need_12, if16 (by omega), if_neg (show ¬ (17 : Int32) ≤ nI i from nI_ge (b := 17) (by omega) (by omega)), if_neg (show ¬ 17 ≤ i by omega), ix_n (by omega) (by omega), ix_n (by omega) (by omega), nI_clamp (by omega), lt_eq, lt_eq, lt_eq, lt_eq, nI_1]
    obtain ⟨c', m', g1, g2, g3, g4, g5⟩ := ih (i + 1) F G (si c 53 i 0) (si m 72 i 0) (by omega) (by omega) (by omega) (fun j hj => by
      rw [ui_si_r, ui_si_r]
      by_cases q : j = i
      · rw [if_pos ⟨rfl, q⟩, if_pos ⟨rfl, q⟩]
      · rw [if_neg (by omega), if_neg (by omega)]; exact h4 j (by omega))
    exact ⟨c', m', g1, g2, g3, Fs.tr (P := PC) (Fs.si (by unfold PC; omega)) g4, Fs.tr (P := PM) (Fs.si (by unfold PM; omega)) g5⟩
theorem nd_sum {x : Int32} {c m : UU} (hB : TB n kd up lw dm w kp c m) (hR : RLn c m) : ∀ (e d F G : Nat) (y : Int32), d + e = 17 → 2 ≤ d → e < F → e < G → ∃ y', f_X5_need_25 F y (nI d) (si c 0 9 x) = some (y', si c 0 9 x) ∧ f_X6_need_120 G x y (nI d) m = some (y', si m 55 0 x) := by
  intro e
  induction e with
  | zero =>
    intro d F G y h1 h2 h3 h4
    obtain ⟨F, rfl⟩ : ∃ F0, F = F0 + 1 := ⟨F - 1, by omega⟩
    obtain ⟨G, rfl⟩ : ∃ G0, G = G0 + 1 := ⟨G - 1, by omega⟩
    rw [f_X5_need_25, f_X6_need_120, if16 (by omega), if16 (by omega), if_pos (show 17 ≤ d by omega), if_pos (show 17 ≤ d by omega), m_tells]
    exact ⟨y, rfl, rfl⟩
  | succ e ih =>
    intro d F G y h1 h2 h3 h4
    obtain ⟨F, rfl⟩ : ∃ F0, F = F0 + 1 := ⟨F - 1, by omega⟩
    obtain ⟨G, rfl⟩ : ∃ G0, G = G0 + 1 := ⟨G - 1, by omega⟩
    rw [f_X5_need_25, f_X6_need_120, if16 (by omega), if16 (by omega), if_neg (show ¬ 17 ≤ d by omega), if_neg (show ¬ 17 ≤ d by omega), ix_n (by omega) (by omega), ix_n (by omega) (by omega), n1p, ix_n (show d < 17 by omega) (by omega), ix_n (show 1 + d < 25 by omega) (by omega), nI_clamp (by omega), nI_clamp (by omega), lt_eq, lt_eq, m_now hB (by omega), show ui (si c 0 9 x) 53 d = ui m 72 d by rw [ui_si_r, if_neg (by omega)]; exact hR d (by omega), show ui (si c 0 9 x) 12 d = nI (w dm (1 + d)) by rw [ui_si_r, if_neg (by omega)]; exact hB.2.1.2.2.2.2.1 d (by omega)]
    unfold f_X5_need_62 f_X6_need_161
    simp only [lt_eq, nI_1, nz_n (show 1 ≤ d by omega) (show d < 2 ^ 31 by omega)]
    by_cases z : ui m 72 d - nI (w dm (1 + d)) ≤ 0
    · rw [if_pos z, if_pos z, show y + (0 : Int32) = y by simp]
      exact ih (d + 1) F G y (by omega) (by omega) (by omega) (by omega)
    · rw [if_neg z, if_neg z]
      exact ih (d + 1) F G _ (by omega) (by omega) (by omega) (by omega)
theorem op_need {c m : UU} (h : Inv c m) : Ok (f_X5_need c) (f_X6_need m) := by
  obtain ⟨n, kd, up, lw, dm, w, kp, hB⟩ := h.2.2.2.2
  have h7 := hB.1.1
  unfold f_X5_need f_X6_need f_X5_countWanted
  rw [hB.2.1.1, hB.2.2.1.1]
  by_cases z : n = 0
  · rw [if_pos (by rw [z]; rfl), if_pos (by rw [z]; rfl)]
    exact Ok.same h _
  obtain ⟨c1, m1, a1, a2, a3, a4, a5⟩ := nd_init 17 0 fu fu c m (by omega) (by unfold fu; omega) (by unfold fu; omega) (fun j hj => absurd hj (by omega))
  have hB1 := hB.fs a4 a5
  obtain ⟨x, c2, m2, b1, b2, b3, b4, b5⟩ := nd_out n 0 fu fu 0 c1 m1 hB1 (by omega) (by unfold fu; omega) (by unfold fu; omega) a3
  have hB2 := hB1.fs b4 b5
  obtain ⟨y, g1, g2⟩ := nd_sum (x := x) hB2 b3 15 2 fu fu 0 (by omega) (by omega) (by unfold fu; omega) (by unfold fu; omega)
  rw [if_neg (nI_ne0 (by omega) (by omega)), if_neg (nI_ne0 (by omega) (by omega))]
  rw [show f_X5_countWanted_2 fu 0 c = _ from a1, show f_X6_need_12 fu 0 m = _ from a2, show f_X5_countWanted_28 fu 0 0 c1 = _ from b1, show f_X6_need_35 fu 0 0 m1 = _ from b2, bd_some, lt_eq]
  refine ⟨y, _, _, g1, g2, Inv.told ((h.fs a4 a5).fs b4 b5) x⟩
end Need
