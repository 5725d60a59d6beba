theorem fo_all {H k D : Nat} (h4 : H % 4 = 0) : sumTo (fo H k D) (2 ^ 17) = Wo H k 15 2 (D : Int) := by
  have l := mod4_lo h4
  have z1 : sumTo (fun y => fo H k D (2 * y + 1)) (2 ^ 16) = 0 := sumTo_zero _ (fun y => fo_out (fun q => by
    have := q 0 (tb0.mpr (by omega))
    rw [l.1] at this
    cases this))
  have z2 : sumTo (fun y => fo H k D (2 * (2 * y + 1))) (2 ^ 15) = 0 := sumTo_zero _ (fun y => fo_out (fun q => by
    have := q 1 (by rw [Nat.testBit_succ]; exact tb0.mpr (by omega))
    rw [l.2] at this
    cases this))
  have s := fo_sum (H := H) (k := k) (D := D) 15 2 0 (by omega) (by omega) (by omega) (fun i hi => by simp at hi)
  have p : prN H k 0 2 = 1 := by simp [prN]
  rw [p, Nat.one_mul, Sm_0] at s
  rw [show (2 : Nat) ^ 17 = 2 * 2 ^ 16 from rfl, sumTo_two, z1, Nat.add_zero, show (2 : Nat) ^ 16 = 2 * 2 ^ 15 from rfl, sumTo_two (f := fun y => fo H k D (2 * y)), z2, Nat.add_zero]
  refine Eq.trans ?_ (s.trans ?_)
  · exact sumTo_congr _ (fun y => by congr 1; omega)
  · congr 1
theorem Wo_le {H k : Nat} (hk : k ≤ 12) : ∀ (e d : Nat) (T : Int), Wo H k e d T ≤ 12 ^ e := by
  intro e
  induction e with
  | zero => intro d T; rw [Wo]; split <;> decide
  | succ e ih =>
    intro d T
    rw [Wo, Nat.pow_succ]
    have i1 := ih (d + 1) T
    have i2 := ih (d + 1) (T - 2 * ((720720 / d : Nat) : Int))
    split
    · have a := Nat.mul_le_mul_left k i1
      have b := Nat.mul_le_mul_left (12 - k) i2
      have c : k * 12 ^ e + (12 - k) * 12 ^ e = 12 ^ e * 12 := by rw [← Nat.add_mul, show k + (12 - k) = 12 by omega, Nat.mul_comm]
      omega
    · have : 0 < 12 ^ e := Nat.pow_pos (by omega)
      omega
theorem oi_l {H k x : Nat} (hH : H < 2 ^ 17) (hx : x < 2 ^ 17) (hk : k ≤ 12) {K : Int32 → Int32 → Int32 → Int64 → Int64 → Int32 → UU → Option (Int32 × UU)} {x1 : Int32} {x4 x6 : Int64} {u : UU} : ∀ (e d G : Nat), d + e = 17 → 2 ≤ d → e < G → f_X6_odds_90 K G x1 (nI k) (nI H) x4 x6 (nI x) (lN (prN H k x d)) (nI d) u = f_X6_odds_148 K x1 (nI k) (nI H) x4 x6 (nI x) (lN (prN H k x 17)) u := by
  intro e
  induction e with
  | zero =>
    intro d G h1 h2 h3
    obtain ⟨G, rfl⟩ : ∃ G0, G = G0 + 1 := ⟨G - 1, by omega⟩
    obtain rfl : d = 17 := by omega
    rw [f_X6_odds_90, if_pos (show (16 : Int32) < nI 17 by decide)]
  | succ e ih =>
    intro d G h1 h2 h3
    obtain ⟨G, rfl⟩ : ∃ G0, G = G0 + 1 := ⟨G - 1, by omega⟩
    have st : prN H k x (d + 1) = prN H k x d * if 2 ≤ d ∧ H.testBit d = true then (if x.testBit d = true then 12 - k else k) else 1 := rfl
    have nxt := ih (d + 1) G (by omega) (by omega) (by omega)
    have hp : prN H k x d < 2 ^ 62 := Nat.lt_of_le_of_lt (prN_le hk d) (Nat.lt_of_le_of_lt (Nat.pow_le_pow_right (by omega) (show d ≤ 17 by omega)) (by decide))
    rw [f_X6_odds_90, if16 (by omega), if_neg (show ¬ 17 ≤ d by omega)]
    by_cases z : prN H k x d = 0
    · have z17 : ∀ j, prN H k x (d + j) = 0 := by
        intro j
        induction j with
        | zero => exact z
        | succ j ih2 =>
          show prN H k x (d + j) * _ = 0
          rw [ih2, Nat.zero_mul]
      have z17' := z17 (e + 1)
      rw [show d + (e + 1) = 17 by omega] at z17'
      rw [z, z17', if_pos (by rw [cmp_00]; decide)]
    · have nz : ¬ lg_cmp (lN (prN H k x d)) 0 ≤ 0 := fun q => by
        have : 0 < lg_cmp (lN (prN H k x d)) 0 := cmp_gt.mpr (by rw [lN_tI hp]; show (0 : Int) < _; omega)
        have q2 := i_le.mp q
        have q3 := i_lt.mp this
        omega
      rw [if_neg nz, has_eq (by omega) (by omega), has_eq (by omega) (by omega), show (12 : Int32) - nI k = nI (12 - k) from pk_sub (a := 12) hk, nI_l (by omega), nI_l (by omega)]
      unfold f_X6_odds_139
      simp only [lt_eq, nI_1, lN_mul]
      rw [show lN (prN H k x d) * (1 : Int64) = lN (prN H k x d * 1) from lN_mul _ 1]
      rw [st] at nxt
      by_cases b : H.testBit d = true
      · rw [if_pos ⟨h2, b⟩] at nxt
        rw [if_pos b, if_neg n10]
        by_cases y : x.testBit d = true
        · rw [if_pos y] at nxt
          rw [if_pos y, if_neg n10]
          exact nxt
        · rw [if_neg y] at nxt
          rw [if_neg y, if_pos rfl]
          exact nxt
      · rw [if_neg (fun q => b q.2)] at nxt
        rw [if_neg b, if_pos rfl]
        exact nxt
theorem oo_l {n : Nat} {kd up lw : Nat → Nat} {dm : Nat} {w : Nat → Nat → Nat} {kp : KP} {c m : UU} (hB : TB n kd up lw dm w kp c m) {i : Nat} (hi : i < n) {H k : Nat} (hH : H < 2 ^ 17) (h4 : H % 4 = 0) (hk : k ≤ 12) {P : Int64} : ∀ (j G x : Nat), sbm H x → x ≤ H → H - x ≤ 4 * j → j < G → f_X6_odds_65 G (nI i) (nI k) (nI H) P (lN (sumTo (fo H k (due up lw i)) x)) (nI x) m = (f_X6_lowest (lN (sumTo (fo H k (due up lw i)) (2 ^ 17))) P 1 m).bind (fun q => some (q.1, q.2)) := by
  have hd := due_lt (hB.1.2.1 i hi).2.2.2.1 (hB.1.2.1 i hi).2.2.1
  have head : ∀ G x, sbm H x → x ≤ H → f_X6_odds_65 (G + 1) (nI i) (nI k) (nI H) P (lN (sumTo (fo H k (due up lw i)) x)) (nI x) m = f_X6_odds_148 (f_X6_odds_65 G) (nI i) (nI k) (nI H) P (lN (sumTo (fo H k (due up lw i)) x)) (nI x) (lN (fo H k (due up lw i) x)) m := by
    intro G x hx hl
    have hs := smn_lt x 17
    have hs' : Sm x ≤ 720720 * 17 := hs
    rw [f_X6_odds_65, sumOf_eq (by omega), bd_some, m_due hB hi, bd_some, show (2 : Int32) * nI (Sm x) = nI (2 * Sm x) from pk_mul 2 _]
    unfold f_X6_odds_85
    by_cases z : 2 * Sm x < due up lw i
    · rw [if_pos (nI_lt z (by omega)), show fo H k (due up lw i) x = 0 by rw [fo, if_pos (sbm_and.mp hx), if_pos z], show fu = 99999 + 1 from rfl, f_X6_odds_90, if_neg (show ¬ (16 : Int32) < 2 by decide), if_pos (show lg_cmp (0 : Int64) 0 ≤ 0 by rw [cmp_eq.mpr rfl]; decide)]
      rfl
    · rw [if_neg (nI_nlt (by omega) (by omega)), show fo H k (due up lw i) x = prN H k x 17 by rw [fo, if_pos (sbm_and.mp hx), if_neg z]]
      have := oi_l (K := f_X6_odds_65 G) (x1 := nI i) (x4 := P) (x6 := lN (sumTo (fo H k (due up lw i)) x)) (u := m) hH (show x < 2 ^ 17 by omega) hk 15 2 fu (by omega) (by omega) (by unfold fu; omega)
      rw [show prN H k x 2 = 1 by simp [prN]] at this
      exact this
  intro j
  induction j with
  | zero =>
    intro G x hx hl hj hG
    obtain ⟨G, rfl⟩ : ∃ G0, G = G0 + 1 := ⟨G - 1, by omega⟩
    obtain rfl : x = H := by omega
    rw [head G x hx hl]
    unfold f_X6_odds_148
    rw [lt_eq, lt_eq, lN_add, sub_nx hH hx hl, nx_top, if_pos (show nI 0 = 0 from rfl)]
    have g := sumTo_gap (f := fo x k (due up lw i)) (a := x + 1) (2 ^ 17 - (x + 1)) (fun y h1 h2 => fo_out (fun q => by have := sbm_lt q hH; omega))
    rw [show x + 1 + (2 ^ 17 - (x + 1)) = 2 ^ 17 by omega] at g
    rw [g]
    rfl
  | succ j ih =>
    intro G x hx hl hj hG
    by_cases q0 : x = H
    · exact ih G x hx hl (by omega) (by omega)
    obtain ⟨G, rfl⟩ : ∃ G0, G = G0 + 1 := ⟨G - 1, by omega⟩
    obtain ⟨g1, g2, g3⟩ := nx_ok 32 H x (by omega) (by omega) hx
    have x4 := sbm_lo hx h4
    have n4 := sbm_lo g1 h4
    have nl := sbm_lt g1 hH
    rw [head G x hx hl]
    unfold f_X6_odds_148
    rw [lt_eq, lt_eq, lN_add, sub_nx hH hx hl, if_neg (nI_ne0 (by omega) (by omega))]
    have g := sumTo_gap (f := fo H k (due up lw i)) (a := x + 1) (nx 32 H x - (x + 1)) (fun y h1 h2 => fo_out (fun q => by have := g3 y q (by omega); omega))
    rw [show x + 1 + (nx 32 H x - (x + 1)) = nx 32 H x by omega] at g
    rw [show sumTo (fo H k (due up lw i)) x + fo H k (due up lw i) x = sumTo (fo H k (due up lw i)) (nx 32 H x) from g.symm]
    exact ih G (nx 32 H x) g1 nl (by omega) (by omega)
theorem op_l {m : UU} {H : Nat} (hH : H < 2 ^ 17) {x1 x2 : Int32} : ∀ (e j G : Nat), j + e = pc H → e < G → f_X6_odds_36 G x1 x2 (nI H) (lN (12 ^ j)) (nI j) m = f_X6_odds_65 fu x1 x2 (nI H) (lN (12 ^ pc H)) 0 0 m := by
  have hp := pc_le17 H
  intro e
  induction e with
  | zero =>
    intro j G h1 h2
    obtain ⟨G, rfl⟩ : ∃ G0, G = G0 + 1 := ⟨G - 1, by omega⟩
    rw [f_X6_odds_36, bits_eq hH, bd_some, if_pos (nI_le (by omega) (by omega)), show j = pc H by omega]
  | succ e ih =>
    intro j G h1 h2
    obtain ⟨G, rfl⟩ : ∃ G0, G = G0 + 1 := ⟨G - 1, by omega⟩
    rw [f_X6_odds_36, bits_eq hH, bd_some, if_neg (nI_ge (by omega) (by omega)), lt_eq, lt_eq, nI_1, show lN (12 ^ j) * (12 : Int64) = lN (12 ^ j * 12) from lN_mul _ 12, ← Nat.pow_succ]
    exact ih (j + 1) G (by omega) (by omega)
theorem op_odds {c m : UU} (h : Inv c m) (x y : Int32) : Ok (f_X5_odds x y c) (f_X6_odds x y m) := by
  obtain ⟨n, kd, up, lw, dm, w, kp, hB⟩ := h.2.2.2.2
  have h7 := hB.1.1
  unfold f_X5_odds f_X6_odds
  rcases i_cases x (n := n) (by omega) with hx | ⟨i, hi, rfl⟩
  · rw [c_isW_out hB hx, m_isW_out hB hx, bd_some, bd_some, if_pos t00, if_pos t00]
    exact Ok.same h _
  rw [c_isW_in hB hi, m_isW_in hB hi, bd_some, bd_some, if_neg n10, if_neg n10]
  rcases i_cases y (n := 13) (by omega) with hy | ⟨k, hk, rfl⟩
  · rw [show f_X6_in y 0 12 = 0 from in_out (n := 12) (by omega) hy, if_pos t00]
    by_cases h1 : y < 0
    · rw [if_pos h1]
      exact Ok.same h _
    · rw [if_neg h1, if_neg (fun q => absurd (i_le.mp q) (by have := i_le.mp (hy.resolve_left h1); rw [nI_toInt (by omega)] at this; show ¬ y.toInt ≤ 12; omega))]
      exact Ok.same h _
  obtain ⟨f1, f2, f3⟩ := (wf_now hB).2.2 i hi
  have hD : due up lw i ≤ 720720 * 9 := Nat.mul_le_mul (Nat.div_le_self _ _) (hB.1.2.1 i hi).2.2.1
  rw [show f_X6_in (nI k) 0 12 = 1 from in_in (n := 12) (by omega) (by omega), if_neg n10, if_neg (nI_pos (by omega)), if_pos (show nI k ≤ 12 from nI_le (b := 12) (by omega) (by omega)), ix_n (by omega) (by omega), nI_clamp (by omega), n18, ix_n (by omega) (by omega), nI_clamp (by omega), m_now hB (by omega), show ui c 16 i = _ from (hB.2.1.2.2.2.2.2.1 i hi).2.2.2.1, lt_eq, lt_eq, c_due hB hi, bd_some, c_had hB hi, bd_some]
  generalize w dm (18 + i) = H at *
  have pH := pc_le17 H
  have p2 : pcn H 2 = 0 := Nat.le_zero.mp (pcn15 (mod4_lo f2).1 (mod4_lo f2).2 0)
  have s2 : smn H 2 = 0 := by simp [smn]
  have e1 := en_l f1 (show k ≤ 12 by omega) c 15 2 20 H (due up lw i : Int) (nI (due up lw i)) (by omega) (by omega) (by omega) f1 (fun _ _ => rfl) (by omega) (by omega) (nI_toInt (by omega)) (by omega) (by omega)
  have e2 := op_l (m := m) f1 (x1 := nI i) (x2 := nI k) (pc H) 0 fu (by omega) (by unfold fu; omega)
  have e3 := oo_l hB hi f1 f2 (show k ≤ 12 by omega) (P := lN (12 ^ pc H)) 32768 fu 0 (fun i hi => by simp at hi) (by omega) (by omega) (by unfold fu; omega)
  rw [fo_all f2] at e3
  have ha : Wo H k 15 2 (due up lw i : Int) < 2 ^ 62 := Nat.lt_of_le_of_lt (Wo_le (by omega) 15 2 _) (by decide)
  have hb : 12 ^ pc H < 2 ^ 62 := Nat.lt_of_le_of_lt (Nat.pow_le_pow_right (by omega) pH) (by decide)
  obtain ⟨c', m', r1, r2, r3⟩ := frac h ha hb (Nat.pow_pos (by omega)) 1
  rw [show (2 : Int32) * nI (Sm H) = nI (2 * Sm H) from pk_mul 2 _, show (2 : Int32) = nI 2 from rfl, e1, bd_some, bitCount_eq f1, c_pow pH, bd_some, r1, bd_some]
  rw [show f_X6_odds_36 fu (nI i) (nI k) (nI H) 1 0 m = _ from e2, show f_X6_odds_65 fu (nI i) (nI k) (nI H) (lN (12 ^ pc H)) 0 0 m = _ from e3, r2]
  exact ⟨_, _, _, rfl, rfl, r3⟩
