theorem greedy_l {c m : UU} {n : Nat} {kd up lw : Nat → Nat} {dm : Nat} {w : Nat → Nat → Nat} {kp : KP} (h : Inv c m) (hB : TB n kd up lw dm w kp c m) {k : Nat} (hk : k < n) : ∀ (d i F G r : Nat) (x4 x5 : Int32), i + d = 17 → 2 ≤ i → d < F → d < G → r < 2 ^ 30 → Ok (f_X5_greedy_41 F (nI (andN (KM (kd k)) (w dm (18 + k)))) (nI r) x4 x5 (nI i) c) (f_X6_greedy_24 G (nI k) (nI r) x4 x5 (nI i) m) := by
  have hs : andN (KM (kd k)) (w dm (18 + k)) < 2 ^ 17 := andN_lt17 (KM_lt _ (hB.1.2.1 k hk).1)
  intro d
  induction d with
  | zero =>
    intro i F G r x4 x5 h1 h2 h3 h4 h5
    obtain ⟨F, rfl⟩ : ∃ F0, F = F0 + 1 := ⟨F - 1, by omega⟩
    obtain ⟨G, rfl⟩ : ∃ G0, G = G0 + 1 := ⟨G - 1, by omega⟩
    rw [f_X5_greedy_41, f_X6_greedy_24, if16 (by omega), if16 (by omega), if_pos (show 17 ≤ i by omega), if_pos (show 17 ≤ i by omega)]
    by_cases z : r = 0
    · rw [if_pos (by rw [z]; rfl), if_pos (by rw [z]; decide), lt_eq, m_tells]
      exact Ok.told h _ _
    · rw [if_neg (nI_ne0 (by omega) (by omega)), if_neg (nI_nle (by omega) (by omega))]
      exact Ok.same h _
  | succ d ih =>
    intro i F G r x4 x5 h1 h2 h3 h4 h5
    obtain ⟨F, rfl⟩ : ∃ F0, F = F0 + 1 := ⟨F - 1, by omega⟩
    obtain ⟨G, rfl⟩ : ∃ G0, G = G0 + 1 := ⟨G - 1, by omega⟩
    rw [f_X5_greedy_41, f_X6_greedy_24, if16 (by omega), if16 (by omega), if_neg (show ¬ 17 ≤ i by omega), if_neg (show ¬ 17 ≤ i by omega), m_may hB hk, bd_some, holds_eq (by omega) (by omega), has_eq (by omega) (by omega), nz_n (by omega) (by omega), nz_n (by omega) (by omega), ps_div (by omega) (by omega), nz_n (by omega) (by omega), nz_n (by omega) (by omega)]
    unfold f_X5_greedy_81 f_X6_greedy_68
    simp only [lt_eq, nI_1]
    by_cases b : (andN (KM (kd k)) (w dm (18 + k))).testBit i = true
    · rw [if_pos b, if_neg n10, if_neg n10]
      by_cases z : r < 720720 / i
      · have hq : 720720 / i ≤ 720720 := Nat.div_le_self _ _
        rw [if_pos (nI_lt z (by omega)), if_pos (nI_lt z (by omega))]
        exact ih (i + 1) F G r x4 x5 (by omega) (by omega) (by omega) (by omega) h5
      · have nz : ¬ nI r < nI (720720 / i) := nI_nlt (by omega) (by omega)
        rw [if_neg nz, if_neg nz, pk_sub (by omega)]
        exact ih (i + 1) F G (r - 720720 / i) _ _ (by omega) (by omega) (by omega) (by omega) (Nat.lt_of_le_of_lt (Nat.sub_le _ _) h5)
    · rw [if_neg b, if_pos t00, if_pos t00]
      exact ih (i + 1) F G r x4 x5 (by omega) (by omega) (by omega) (by omega) h5
theorem op_greedy {c m : UU} (h : Inv c m) (x : Int32) : Ok (f_X5_greedy x c) (f_X6_greedy x m) := by
  obtain ⟨n, kd, up, lw, dm, w, kp, hB⟩ := h.2.2.2.2
  have h7 := hB.1.1
  unfold f_X5_greedy f_X6_greedy
  rcases i_cases x (n := n) (by omega) with hx | ⟨i, hi, rfl⟩
  · rw [c_isW_out hB hx, m_isW_out hB hx, bd_some, bd_some, if_pos t00, if_pos t00]
    exact Ok.same h _
  have hd := due_lt (hB.1.2.1 i hi).2.2.2.1 (hB.1.2.1 i hi).2.2.1
  rw [c_isW_in hB hi, m_isW_in hB hi, bd_some, bd_some, if_neg n10, if_neg n10, m_lack hB hi, bd_some, c_open hB hi, bd_some, ix_n (by omega) (by omega), nI_clamp (by omega), lt_eq, show ui c 17 i = _ from (hB.2.1.2.2.2.2.2.1 i hi).2.2.2.2]
  exact greedy_l h hB hi 15 2 fu fu _ 0 0 (by omega) (by omega) (by unfold fu; omega) (by unfold fu; omega) (by omega)
/-! dues -/
def RR (k : Nat) (x y : Int32) : Prop := (k = 0 ∧ y = -9) ∨ (0 < k ∧ y = x ∧ ¬ y = -9)
theorem du_in {c m : UU} {S : Int32} {h : Nat} (hh : h < 2 ^ 17) (hS : S = nI (Sm h)) {kc : Int32 → Int32 → Int32 → Int32 → UU → Option (Int32 × UU)} {km : Int32 → Int32 → Int32 → Int32 → UU → Option (Int32 × UU)} {a : Nat} (ha : a ≤ 9) : ∀ (d b F G k : Nat) (x y : Int32), b + d = 10 → 1 ≤ b → d < F → d < G → k + d < 10000 → RR k x y → ∃ k' x' y', k' ≤ k + d ∧ RR k' x' y' ∧ f_X5_dues_89 kc F S (nI k) x (nI a) (nI b) c = kc S (nI k') x' (nI (a + 1)) c ∧ f_X6_dues_101 km G (nI h) (nI k) y (nI a) (nI b) m = km (nI h) (nI k') y' (nI (a + 1)) m := by
  intro d
  induction d with
  | zero =>
    intro b F G k x y h1 h2 h3 h4 h5 h6
    obtain ⟨F, rfl⟩ : ∃ F0, F = F0 + 1 := ⟨F - 1, by omega⟩
    obtain ⟨G, rfl⟩ : ∃ G0, G = G0 + 1 := ⟨G - 1, by omega⟩
    refine ⟨k, x, y, by omega, h6, ?_, ?_⟩
    · rw [f_X5_dues_89, if_pos (show (9 : Int32) < nI b from nI_lt (a := 9) (by omega) (by omega)), lt_eq, nI_1]
    · rw [f_X6_dues_101, if_pos (show (10 : Int32) ≤ nI b from nI_le (a := 10) (by omega) (by omega)), lt_eq, nI_1]
  | succ d ih =>
    intro b F G k x y h1 h2 h3 h4 h5 h6
    obtain ⟨F, rfl⟩ : ∃ F0, F = F0 + 1 := ⟨F - 1, by omega⟩
    obtain ⟨G, rfl⟩ : ∃ G0, G = G0 + 1 := ⟨G - 1, by omega⟩
    rw [f_X5_dues_89, f_X6_dues_101, if_neg (show ¬ (9 : Int32) < nI b from nI_nlt (a := 9) (by omega) (by omega)), if_neg (show ¬ (10 : Int32) ≤ nI b from nI_ge (b := 10) (by omega) (by omega)), nz_n (by omega) (by omega), nz_n (by omega) (by omega), sumOf_eq hh, bd_some, ← hS]
    unfold f_X5_dues_126 f_X5_dues_131 f_X6_dues_128 f_X6_dues_141 f_X6_dues_166 f_X6_dues_168
    simp only [lt_eq, nI_1]
    by_cases z : (720720 : Int32) / nI b * nI a = S
    · rw [if_pos z, if_pos z]
      rcases h6 with ⟨rfl, rfl⟩ | ⟨q1, rfl, q3⟩
      · rw [if_pos (show nI 0 = 0 from rfl), if_neg n10, if_neg n10, if_pos rfl, show (10 : Int32) * nI a + nI b = nI (10 * a + b) from nI_mulB]
        obtain ⟨k', x', y', e1, e2, e3, e4⟩ := ih (b + 1) F G (0 + 1) (nI (10 * a + b)) (nI (10 * a + b)) (by omega) (by omega) (by omega) (by omega) (by omega) (Or.inr ⟨by omega, rfl, nI_m9 (by omega)⟩)
        exact ⟨k', x', y', by omega, e2, e3, e4⟩
      · rw [if_neg (nI_ne0 (by omega) (by omega)), if_neg n10, if_neg n10, if_neg q3]
        obtain ⟨k', x', y', e1, e2, e3, e4⟩ := ih (b + 1) F G (k + 1) y y (by omega) (by omega) (by omega) (by omega) (by omega) (Or.inr ⟨by omega, rfl, q3⟩)
        exact ⟨k', x', y', by omega, e2, e3, e4⟩
    · rw [if_neg z, if_neg z, if_pos True.intro, if_pos True.intro, show nI k + (0 : Int32) = nI (k + 0) from nI_add k 0, Nat.add_zero]
      obtain ⟨k', x', y', e1, e2, e3, e4⟩ := ih (b + 1) F G k x y (by omega) (by omega) (by omega) (by omega) (by omega) h6
      exact ⟨k', x', y', by omega, e2, e3, e4⟩
theorem du_out {c m : UU} (hI : Inv c m) {S : Int32} {h : Nat} (hh : h < 2 ^ 17) (hS : S = nI (Sm h)) : ∀ (d a F G k : Nat) (x y : Int32), a + d = 10 → 1 ≤ a → d < F → d < G → k + 10 * d < 10000 → RR k x y → Ok (f_X5_dues_79 F S (nI k) x (nI a) c) (f_X6_dues_91 G (nI h) (nI k) y (nI a) m) := by
  intro d
  induction d with
  | zero =>
    intro b F G k x y h1 h2 h3 h4 h5 h6
    obtain ⟨F, rfl⟩ : ∃ F0, F = F0 + 1 := ⟨F - 1, by omega⟩
    obtain ⟨G, rfl⟩ : ∃ G0, G = G0 + 1 := ⟨G - 1, by omega⟩
    rw [f_X5_dues_79, if_pos (show (9 : Int32) < nI b from nI_lt (a := 9) (by omega) (by omega)), f_X6_dues_91, if_pos (show (10 : Int32) ≤ nI b from nI_le (a := 10) (by omega) (by omega))]
    rcases h6 with ⟨rfl, rfl⟩ | ⟨q1, rfl, q3⟩
    · rw [if_pos (show nI 0 = 0 from rfl), if_pos (show nI 0 = 0 from rfl)]
      exact Ok.same hI _
    · rw [if_neg (nI_ne0 (by omega) (by omega)), if_neg (nI_ne0 (by omega) (by omega)), lt_eq, m_tells]
      exact Ok.told hI _ _
  | succ d ih =>
    intro b F G k x y h1 h2 h3 h4 h5 h6
    obtain ⟨F, rfl⟩ : ∃ F0, F = F0 + 1 := ⟨F - 1, by omega⟩
    obtain ⟨G, rfl⟩ : ∃ G0, G = G0 + 1 := ⟨G - 1, by omega⟩
    rw [f_X5_dues_79, f_X6_dues_91, if_neg (show ¬ (9 : Int32) < nI b from nI_nlt (a := 9) (by omega) (by omega)), if_neg (show ¬ (10 : Int32) ≤ nI b from nI_ge (b := 10) (by omega) (by omega))]
    obtain ⟨k', x', y', e1, e2, e3, e4⟩ := du_in (c := c) (m := m) hh hS (kc := f_X5_dues_79 F) (km := f_X6_dues_91 G) (a := b) (by omega) 9 1 fu fu k x y (by omega) (by omega) (by unfold fu; omega) (by unfold fu; omega) (by omega) h6
    rw [show (1 : Int32) = nI 1 from rfl, e3, e4]
    exact ih (b + 1) F G k' x' y' (by omega) (by omega) (by omega) (by omega) (by omega) e2

/-- the rows of both sides -/
def GC (t : Nat) (l : List Int32) (u : UU) : Prop := l.length ≤ 40 ∧ ui u 1 0 = nI 40 ∧ ui u 2 t = nI l.length ∧ ∀ i, i < l.length → ui u 3 (40 * t + i) = l.getD i 0
def GM (t : Nat) (l : List Int32) (u : UU) : Prop := l.length ≤ 40 ∧ ui u 57 t = nI l.length ∧ ∀ i, i < l.length → ui u 58 (40 * t + i) = l.getD i 0
theorem rw_get {c m : UU} (h : Inv c m) {t : Nat} (ht : t < 6) : (ui c 2 t = -1 ∧ ui m 57 t = -1) ∨ ∃ l, GC t l c ∧ GM t l m := by
  obtain ⟨-, -, ⟨S, r1, r2, r3⟩, -, -⟩ := h
  obtain ⟨a1, a2⟩ := r2 t ht
  obtain ⟨b1, b2⟩ := r3 t ht
  cases hS : S t with
  | none => rw [hS] at a1 b1; exact Or.inl ⟨a1, b1⟩
  | some l =>
    rw [hS] at a1 b1
    obtain ⟨a3, a4⟩ := a2 l hS
    obtain ⟨b3, b4⟩ := b2 l hS
    exact Or.inr ⟨l, ⟨a3, r1, a1, a4⟩, ⟨b3, b1, b4⟩⟩
theorem g_rd {t : Nat} {l : List Int32} {u : UU} (h : GC t l u) (ht : t < 6) {i : Nat} (hi : i < l.length) : f_X3_read 1 6 (nI t) (nI i) u = some (l.getD i 0) := by
  obtain ⟨h1, h2, h3, h4⟩ := h
  rw [s_read (pl := 40) ht (by omega) (by omega) h1 (by omega) h2 h3 hi]
  exact congrArg some (h4 i hi)
theorem gm_rd {t : Nat} {l : List Int32} {u : UU} (h : GM t l u) (ht : t < 6) {i : Nat} (hi : i < l.length) : f_X6_rowAt (nI t) (nI i) u = some (l.getD i 0) := by
  rw [m_rowAt ht (by have := h.1; omega), h.2.2 i hi]
theorem or_bit {h d : Nat} (hb : h.testBit d = false) (hh : h < 2 ^ 17) (hd : d ≤ 16) : nI h ||| nI (2 ^ d) = nI (h + 2 ^ d) ∧ h + 2 ^ d < 2 ^ 17 := by
  have e : h ||| 2 ^ d = h + 2 ^ d := (pw_add hb).symm
  have := Nat.or_lt_two_pow hh (show 2 ^ d < 2 ^ 17 from Nat.pow_lt_pow_right (by omega) (by omega))
  rw [fa_or, e]
  rw [e] at this
  exact ⟨rfl, this⟩
theorem du_set {c m : UU} {t : Nat} {l : List Int32} (ht : t < 6) (hc : GC t l c) (hm : GM t l m) : ∀ (d i F G E h : Nat), i + d = l.length → d < F → d < G → d < E → h < 2 ^ 17 → (f_X5_isSetOfParts_4 F (nI t) (nI h) (nI i) c = some 0 ∧ f_X6_dues_28 G (nI t) (nI h) (nI i) m = f_X6_dues_63 m) ∨ ∃ h', h' < 2 ^ 17 ∧ f_X5_isSetOfParts_4 F (nI t) (nI h) (nI i) c = some 1 ∧ f_X6_dues_28 G (nI t) (nI h) (nI i) m = f_X6_dues_91 fu (nI h') 0 (-9) 1 m ∧ f_X5_dues_35 E (nI t) (nI (Sm h)) (nI i) c = f_X5_dues_79 fu (nI (Sm h')) 0 0 1 c := by
  have h40 := hc.1
  intro d
  induction d with
  | zero =>
    intro i F G E h h1 h2 h3 h4 h5
    obtain ⟨F, rfl⟩ : ∃ F0, F = F0 + 1 := ⟨F - 1, by omega⟩
    obtain ⟨G, rfl⟩ : ∃ G0, G = G0 + 1 := ⟨G - 1, by omega⟩
    obtain ⟨E, rfl⟩ : ∃ E0, E = E0 + 1 := ⟨E - 1, by omega⟩
    refine Or.inr ⟨h, h5, ?_, ?_, ?_⟩
    · rw [f_X5_isSetOfParts_4, s_size_in ht (by omega), bd_some, show ui c (1 + 1) t = _ from hc.2.2.1, if_pos (nI_le (by omega) (by omega))]
    · rw [f_X6_dues_28, ix_n ht (by omega), nI_clamp (by omega), hm.2.1, if_pos (nI_le (by omega) (by omega))]
    · rw [f_X5_dues_35, s_size_in ht (by omega), bd_some, show ui c (1 + 1) t = _ from hc.2.2.1, if_pos (nI_le (by omega) (by omega))]
  | succ d ih =>
    intro i F G E h h1 h2 h3 h4 h5
    obtain ⟨F, rfl⟩ : ∃ F0, F = F0 + 1 := ⟨F - 1, by omega⟩
    obtain ⟨G, rfl⟩ : ∃ G0, G = G0 + 1 := ⟨G - 1, by omega⟩
    obtain ⟨E, rfl⟩ : ∃ E0, E = E0 + 1 := ⟨E - 1, by omega⟩
    have hi : i < l.length := by omega
    rw [f_X5_isSetOfParts_4, s_size_in ht (by omega), bd_some, show ui c (1 + 1) t = _ from hc.2.2.1, if_neg (nI_ge (by omega) (by omega)), g_rd hc ht hi, bd_some, f_X6_dues_28, ix_n ht (by omega), nI_clamp (by omega), hm.2.1, if_neg (nI_ge (by omega) (by omega)), gm_rd hm ht hi, bd_some, f_X5_dues_35, s_size_in ht (by omega), bd_some, show ui c (1 + 1) t = _ from hc.2.2.1, if_neg (nI_ge (by omega) (by omega)), g_rd hc ht hi, bd_some]
    rcases part_cases (l.getD i 0) with ⟨p1, p2⟩ | ⟨k, k1, k2, ek, p1, p2⟩
    · rw [p1, p2, if_pos t00, if_pos t00]
      exact Or.inl ⟨rfl, rfl⟩
    · rw [p1, p2, if_neg n10, if_neg n10, ek, holds_eq (by omega) (by omega), has_eq (by omega) (by omega)]
      by_cases b : h.testBit k = true
      · rw [if_pos b, if_neg n10, if_neg n10]
        exact Or.inl ⟨rfl, rfl⟩
      · have b' : h.testBit k = false := by simpa using b
        obtain ⟨o1, o2⟩ := or_bit b' h5 k2
        rw [if_neg b, if_pos t00, if_pos t00, shl1 (by omega), o1, ps_eq (by omega) k2, lt_eq, lt_eq, lt_eq, lt_eq, lt_eq, lt_eq, nI_1, nI_add, ← Sm_add b' k1 k2]
        exact ih (i + 1) F G E (h + 2 ^ k) (by omega) (by omega) (by omega) (by omega) o2
theorem op_dues {c m : UU} (h : Inv c m) (r : Int32) : Ok (f_X5_dues r c) (f_X6_dues r m) := by
  unfold f_X5_dues f_X6_dues
  rcases i_cases r (n := 6) (by omega) with hr | ⟨j, hj, rfl⟩
  · rw [s_miss_out hr, row_out hr, bp_neg nm1, if_pos t00]
    exact Ok.same h _
  · rw [row_in hj, if_neg n10, ix_n hj (by omega), nI_clamp (by omega)]
    rcases rw_get h hj with ⟨a, b⟩ | ⟨l, hc, hm⟩
    · rw [s_miss_none hj (by omega) a, bp_neg nm3, b, if_neg m1_neg, show f_X6_meets (1 : Int32) m = _ from f_meets (f := 1) (by omega)]
      exact Ok.found h (by omega)
    · have h40 := hc.1
      rw [s_miss_some hj (by omega) (show l.length ≤ 100 by omega) hc.2.2.1, bp_zero, hm.2.1, if_pos (nI_ge0 (by omega))]
      dsimp only
      unfold f_X5_isSetOfParts
      rcases du_set hj hc hm l.length 0 fu fu fu 0 (by omega) (by unfold fu; omega) (by unfold fu; omega) (by unfold fu; omega) (by omega) with ⟨e1, e2⟩ | ⟨h', h1, e1, e2, e3⟩
      · rw [show (0 : Int32) = nI 0 from rfl, e1, e2, bd_some, if_pos (show (0 : Int32) = nI 0 from rfl), show f_X5_found (3 : Int32) c = _ from f_found (f := 3) (by omega), f_X6_dues_63, show f_X6_meets (3 : Int32) m = _ from f_meets (f := 3) (by omega)]
        exact Ok.found h (by omega)
      · rw [Sm_0] at e3
        rw [show (0 : Int32) = nI 0 from rfl, e1, e2, e3, bd_some, if_neg (show ¬ (1 : Int32) = nI 0 from n10)]
        exact du_out h h1 rfl 9 1 fu fu 0 0 (-9) (by omega) (by omega) (by unfold fu; omega) (by unfold fu; omega) (by omega) (Or.inl ⟨rfl, rfl⟩)
