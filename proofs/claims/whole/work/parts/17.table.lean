theorem mkn_cong {p q : Nat → Bool} : ∀ {n : Nat}, (∀ d, d < n → 2 ≤ d → p d = q d) → mkn p n = mkn q n
  | 0, _ => rfl
  | n + 1, h => by
    rw [mkn, mkn, mkn_cong (fun d hd => h d (by omega))]
    by_cases e : 2 ≤ n
    · rw [h n (by omega) e]
    · rw [if_neg (fun z => e z.1), if_neg (fun z => e z.1)]
theorem mkn_0 {p : Nat → Bool} {n : Nat} (h : ∀ d, d < n → 2 ≤ d → p d = false) : mkn p n = 0 := by
  rw [mkn_cong (q := fun _ => false) h]
  clear h
  induction n with
  | zero => rfl
  | succ n ih => rw [mkn, ih]; simp
def ngt (r : Nat) : Nat := mkn (fun d => decide (720720 / d ≤ r)) 17
theorem dv16 : ∀ d, d < 17 → 2 ≤ d → 720720 / d * d = 720720 := by decide
theorem dv_le {d r : Nat} (hd : d < 17) (h2 : 2 ≤ d) : 720720 / d ≤ r ↔ 720720 ≤ r * d := by
  have e := dv16 d hd h2
  constructor
  · intro h
    have := Nat.mul_le_mul_right d h
    omega
  · intro h
    rw [← e] at h
    exact Nat.le_of_mul_le_mul_right h (by omega)
theorem mk_ge : ∀ g, g < 17 → 2 ≤ g → mkn (fun d => decide (g ≤ d)) 17 = 131072 - 2 ^ g := by decide
theorem ngt_eq {r : Nat} (hr : r < 2 ^ 30) : f_X4_noGreaterThan (nI r) = nI (ngt r) := by
  unfold f_X4_noGreaterThan
  by_cases h0 : r = 0
  · subst h0
    rw [if_neg (by decide), ngt, mkn_0 (fun d hd h2 => ?_)]
    · rfl
    · have := dv_le (r := 0) hd h2
      simp only [decide_eq_false_iff_not]
      omega
  · rw [if_pos (show (0 : Int32) < nI r from nI_lt (a := 0) (by omega) (by omega)), show (720720 : Int32) + nI r = nI (720720 + r) from nI_add 720720 r, show nI (720720 + r) - (1 : Int32) = nI (720720 + r - 1) from pk_sub (b := 1) (by omega), pk_div (by omega) (by omega) (by omega)]
    generalize hq : (720720 + r - 1) / r = q
    have key : ∀ d, q ≤ d ↔ 720720 ≤ r * d := by
      intro d
      rw [← hq, ← Nat.lt_succ_iff, Nat.div_lt_iff_lt_mul (by omega), Nat.succ_mul, Nat.mul_comm d r]
      omega
    have hqb : q ≤ 720720 := (key 720720).mpr (by
      have : 1 * 720720 ≤ r * 720720 := Nat.mul_le_mul_right _ (by omega)
      omega)
    have hm : (if nI q < (2 : Int32) then (2 : Int32) else nI q) = nI (max q 2) := by
      by_cases h : q < 2
      · rw [if_pos (show nI q < (2 : Int32) from nI_lt (b := 2) h (by omega)), Nat.max_eq_right (by omega)]
        rfl
      · rw [if_neg (show ¬ nI q < (2 : Int32) from nI_nlt (b := 2) (by omega) (by omega)), Nat.max_eq_left (by omega)]
    rw [lt_eq, hm]
    by_cases h16 : max q 2 ≤ 16
    · have hq16 : q ≤ 16 := by omega
      rw [if_pos (show nI (max q 2) ≤ (16 : Int32) from nI_le (b := 16) h16 (by omega)), shl1 (by omega), show (131072 : Int32) = nI 131072 from rfl, pk_sub (by
        have : 2 ^ (max q 2) ≤ 2 ^ 16 := Nat.pow_le_pow_right (by omega) h16
        omega), ngt, ← mk_ge (max q 2) (by omega) (by omega)]
      congr 1
      apply mkn_cong
      intro d hd h2
      apply decide_eq_decide.mpr
      rw [dv_le hd h2, ← key]
      omega
    · have hq16 : 16 < q := by omega
      rw [if_neg (show ¬ nI (max q 2) ≤ (16 : Int32) from nI_ge (a := 16) (by omega) (by omega)), ngt, mkn_0 (fun d hd h2 => ?_)]
      · rfl
      · simp only [decide_eq_false_iff_not]
        rw [dv_le hd h2, ← key]
        omega
def fitN (k h : Nat) (v : Nat → Nat) (lk : Nat) : Nat := mkn (fun d => decide (0 < v (1 + d)) && ((KM k).testBit d && (!h.testBit d && decide (720720 / d ≤ lk)))) 17
theorem fit_bits {k h lk : Nat} {v : Nat → Nat} (hk : k < 6) : (andN (KM k) h &&& lyM v) &&& ngt lk = fitN k h v lk := by
  apply bits_ext (and_lt17 (and_lt17 (andN_lt17 (KM_lt k hk)))) (mkn_lt _ _)
  intro i hi
  unfold ngt lyM
  rw [Nat.testBit_and, Nat.testBit_and, andN_bit (by omega), mkn_bit, mkn_bit, mkn_bit]
  by_cases h2 : 2 ≤ i
  · simp only [hi, h2, decide_true, Bool.true_and]
    cases (KM k).testBit i <;> cases h.testBit i <;> cases decide (0 < v (1 + i)) <;> simp
  · simp [h2]
/-! facts of a table at work -/
theorem due_lt {up lw : Nat → Nat} {i : Nat} (h : 1 ≤ lw i) (h2 : up i ≤ 9) : due up lw i < 2 ^ 30 := by
  unfold due
  have h1 : 720720 / lw i ≤ 720720 := Nat.div_le_self _ _
  have := Nat.mul_le_mul h1 h2
  omega
section TR
variable {n : Nat} {kd up lw : Nat → Nat} {dm : Nat} {w : Nat → Nat → Nat} {kp : KP} {c m : UU}
theorem c_isW_out {x : Int32} (h : TB n kd up lw dm w kp c m) (hx : x < 0 ∨ nI n ≤ x) : f_X4_isWorker x c = some 0 := by
  unfold f_X4_isWorker
  by_cases h1 : x < 0
  · rw [if_pos h1]
  · rw [if_neg h1, h.2.1.1, if_pos (hx.resolve_left h1)]
theorem c_isW_in {i : Nat} (h : TB n kd up lw dm w kp c m) (hi : i < n) : f_X4_isWorker (nI i) c = some 1 := by
  have := h.1.1
  unfold f_X4_isWorker
  rw [if_neg (nI_pos (by omega)), h.2.1.1, if_neg (nI_ge hi (by omega))]
theorem m_isW_out {x : Int32} (h : TB n kd up lw dm w kp c m) (hx : x < 0 ∨ nI n ≤ x) : f_X6_isWorker x m = some 0 := by
  have := h.1.1
  unfold f_X6_isWorker
  rw [h.2.2.1.1, in_sz_out (by omega) hx]
theorem m_isW_in {i : Nat} (h : TB n kd up lw dm w kp c m) (hi : i < n) : f_X6_isWorker (nI i) m = some 1 := by
  have := h.1.1
  unfold f_X6_isWorker
  rw [h.2.2.1.1, in_sz_in (by omega) hi]
theorem c_due {i : Nat} (h : TB n kd up lw dm w kp c m) (hi : i < n) : f_X4_dueOf (nI i) c = some (nI (due up lw i)) := by
  have h7 := h.1.1
  obtain ⟨-, k2, k3, k4, k5⟩ := h.1.2.1 i hi
  obtain ⟨-, q2, q3, -, -⟩ := h.2.1.2.2.2.2.2.1 i hi
  unfold f_X4_dueOf
  rw [ix_n (show i < 7 by omega) (by omega), ix_n (show i < 7 by omega) (by omega), ix_n (show i < 7 by omega) (by omega), nI_clamp (by omega), show ui c 15 i = _ from q3, show ui c 14 i = _ from q2, if_neg (nI_nle (by omega) (by omega)), ps_div k4 (by omega), pk_mul]
  rfl
theorem m_due {i : Nat} (h : TB n kd up lw dm w kp c m) (hi : i < n) : f_X6_due (nI i) m = some (nI (due up lw i)) := by
  have h7 := h.1.1
  obtain ⟨-, k2, k3, k4, k5⟩ := h.1.2.1 i hi
  obtain ⟨-, q2, q3⟩ := h.2.2.1.2.2.1 i hi
  unfold f_X6_due
  rw [ix_n (show i < 7 by omega) (by omega), ix_n (show i < 7 by omega) (by omega), nI_clamp (by omega), q3, q2, nz_n (by omega) (by omega), ps_div k4 (by omega), pk_mul]
  rfl
theorem n18 {i : Nat} : (18 : Int32) + nI i = nI (18 + i) := nI_add 18 i
theorem n1p {i : Nat} : (1 : Int32) + nI i = nI (1 + i) := nI_add 1 i
theorem wf_now (h : TB n kd up lw dm w kp c m) : WF n up lw dm (w dm) := h.2.1.2.2.2.2.2.2.2.1 dm (Nat.le_refl _)
theorem m_now {j : Nat} (h : TB n kd up lw dm w kp c m) (hj : j < 25) : ui m 68 j = nI (w dm j) := h.2.2.1.2.2.2.1 j hj
theorem m_lack {i : Nat} (h : TB n kd up lw dm w kp c m) (hi : i < n) : f_X6_lackOf (nI i) m = some (nI (due up lw i - Sm (w dm (18 + i)))) := by
  have h7 := h.1.1
  obtain ⟨f1, f2, f3⟩ := (wf_now h).2.2 i hi
  unfold f_X6_lackOf
  rw [m_due h hi, bd_some, n18, ix_n (show 18 + i < 25 by omega) (by omega), nI_clamp (by omega), m_now h (by omega), sumOf_eq f1, bd_some, pk_sub f3]
theorem c_had {i : Nat} (h : TB n kd up lw dm w kp c m) (hi : i < n) : f_X4_sizeOfHad (nI i) c = some (nI (Sm (w dm (18 + i)))) := by
  have h7 := h.1.1
  obtain ⟨f1, f2, f3⟩ := (wf_now h).2.2 i hi
  unfold f_X4_sizeOfHad
  rw [c_due h hi, bd_some, ix_n (show i < 7 by omega) (by omega), nI_clamp (by omega), show ui c 17 i = _ from (h.2.1.2.2.2.2.2.1 i hi).2.2.2.2, pk_sub (by omega)]
  congr 2
  omega
theorem c_open {i : Nat} (h : TB n kd up lw dm w kp c m) (hi : i < n) : f_X4_openTo (nI i) c = some (nI (andN (KM (kd i)) (w dm (18 + i)))) := by
  have h7 := h.1.1
  obtain ⟨k1, -⟩ := h.1.2.1 i hi
  obtain ⟨q1, -, -, q4, -⟩ := h.2.1.2.2.2.2.2.1 i hi
  unfold f_X4_openTo
  rw [ix_n (show i < 7 by omega) (by omega), ix_n (show i < 7 by omega) (by omega), nI_clamp (by omega), show ui c 13 i = _ from q1, show ui c 16 i = _ from q4, partsOf_eq _ k1, andN_eq]
theorem m_may {i : Nat} (h : TB n kd up lw dm w kp c m) (hi : i < n) : f_X6_mayTake (nI i) m = some (nI (andN (KM (kd i)) (w dm (18 + i)))) := by
  have h7 := h.1.1
  obtain ⟨k1, -⟩ := h.1.2.1 i hi
  obtain ⟨q1, -, -⟩ := h.2.2.1.2.2.1 i hi
  unfold f_X6_mayTake
  rw [ix_n (show i < 7 by omega) (by omega), nI_clamp (by omega), q1, allOf_eq k1, bd_some, n18, ix_n (show 18 + i < 25 by omega) (by omega), nI_clamp (by omega), m_now h (by omega), andN_eq]
theorem m_lying_loop (h : TB n kd up lw dm w kp c m) : ∀ (f d : Nat), 2 ≤ d → d ≤ 17 → 18 ≤ d + f → f_X6_lying_4 f (nI (mkn (fun d => decide (0 < w dm (1 + d))) d)) (nI d) m = some (nI (lyM (w dm))) := by
  intro f
  induction f with
  | zero => intro d h1 h2 h3; omega
  | succ f ih =>
    intro d h1 h2 h3
    rw [f_X6_lying_4]
    by_cases e : d = 17
    · rw [if_pos ((gt16 h2).mpr e), e]
    · have hb := (wf_now h).2.1 d (by omega)
      have hd := h.2.1.2.2.2.2.2.2.1
      rw [if_neg (fun q => e ((gt16 h2).mp q)), n1p, ix_n (show 1 + d < 25 by omega) (by omega), nI_clamp (by omega), m_now h (by omega)]
      unfold f_X6_lying_29
      rw [lt_eq, lt_eq, lt_eq, lt_eq, nI_1, shl1 (by omega), mkn_or, or0]
      have := ih (d + 1) (by omega) (by omega) (by omega)
      rw [mkn] at this
      by_cases q : 0 < w dm (1 + d)
      · rw [if_neg (nI_nle q (by omega))]
        rwa [if_pos ⟨h1, by simpa using q⟩] at this
      · rw [if_pos (by rw [show w dm (1 + d) = 0 by omega]; decide)]
        rwa [if_neg (fun z => q (by simpa using z.2)), Nat.add_zero] at this
theorem m_lying (h : TB n kd up lw dm w kp c m) : f_X6_lying m = some (nI (lyM (w dm))) := m_lying_loop h fu 2 (by omega) (by omega) (by unfold fu; omega)
abbrev fitW (kd up lw : Nat → Nat) (v : Nat → Nat) (i : Nat) : Nat := fitN (kd i) (v (18 + i)) v (due up lw i - Sm (v (18 + i)))
theorem c_fit {i : Nat} (h : TB n kd up lw dm w kp c m) (hi : i < n) : f_X4_fitFor (nI i) c = some (nI (fitW kd up lw (w dm) i)) := by
  have h7 := h.1.1
  obtain ⟨k1, k2, k3, k4, k5⟩ := h.1.2.1 i hi
  have hd := due_lt (up := up) k4 k3
  unfold f_X4_fitFor
  rw [c_open h hi, bd_some, ix_n (show i < 7 by omega) (by omega), nI_clamp (by omega), show ui c 17 i = _ from (h.2.1.2.2.2.2.2.1 i hi).2.2.2.2, show ui c 11 4 = _ from h.2.1.2.2.2.1, ngt_eq (by omega), fa_and, fa_and, fit_bits k1]
theorem m_isFit {i d : Nat} (h : TB n kd up lw dm w kp c m) (hi : i < n) (h2 : 2 ≤ d) (hd : d < 17) : f_X6_isFit (nI i) (nI d) m = some (if ((KM (kd i)).testBit d && (!(w dm (18 + i)).testBit d && decide (720720 / d ≤ due up lw i - Sm (w dm (18 + i))))) = true then 1 else 0) := by
  have h7 := h.1.1
  obtain ⟨k1, k2, k3, k4, k5⟩ := h.1.2.1 i hi
  have hdu := due_lt (up := up) k4 k3
  obtain ⟨q1, -, -⟩ := h.2.2.1.2.2.1 i hi
  obtain ⟨f1, f2, f3⟩ := (wf_now h).2.2 i hi
  unfold f_X6_isFit
  rw [ix_n (show i < 7 by omega) (by omega), nI_clamp (by omega), q1, takesAs_eq k1 hd h2, bd_some]
  by_cases a1 : (KM (kd i)).testBit d = true
  · rw [if_pos a1, if_neg n10, n18, ix_n (show 18 + i < 25 by omega) (by omega), nI_clamp (by omega), m_now h (by omega), has_eq (by omega) (by omega)]
    by_cases a2 : (w dm (18 + i)).testBit d = true
    · rw [if_pos a2, if_neg n10, a2]
      simp
    · rw [if_neg a2, if_pos t00, m_lack h hi, bd_some, nz_n (by omega) (by omega), ps_div (by omega) (by omega)]
      have a2' : (w dm (18 + i)).testBit d = false := by simpa using a2
      have hb : 720720 / d ≤ 720720 := Nat.div_le_self _ _
      by_cases a3 : 720720 / d ≤ due up lw i - Sm (w dm (18 + i))
      · rw [if_neg (nI_nlt a3 (by omega)), a1, a2']
        simp [a3]
      · rw [if_pos (nI_lt (by omega) (by omega)), a1, a2']
        simp [a3]
  · rw [if_neg a1, if_pos t00]
    have a1' : (KM (kd i)).testBit d = false := by simpa using a1
    rw [a1']
    simp
theorem m_fits_loop {i : Nat} (h : TB n kd up lw dm w kp c m) (hi : i < n) (p : Nat → Bool) (hp : ∀ d, p d = (decide (0 < w dm (1 + d)) && ((KM (kd i)).testBit d && (!(w dm (18 + i)).testBit d && decide (720720 / d ≤ due up lw i - Sm (w dm (18 + i))))))) : ∀ (f d : Nat), 2 ≤ d → d ≤ 17 → 18 ≤ d + f → f_X6_fits_4 f (nI i) (nI (mkn p d)) (nI d) m = some (nI (mkn p 17)) := by
  intro f
  induction f with
  | zero => intro d h1 h2 h3; omega
  | succ f ih =>
    intro d h1 h2 h3
    rw [f_X6_fits_4]
    by_cases e : d = 17
    · rw [if_pos ((gt16 h2).mpr e), e]
    · have hb := (wf_now h).2.1 d (by omega)
      have hd := h.2.1.2.2.2.2.2.2.1
      have ih' := ih (d + 1) (by omega) (by omega) (by omega)
      rw [mkn] at ih'
      rw [if_neg (fun q => e ((gt16 h2).mp q)), n1p, ix_n (show 1 + d < 25 by omega) (by omega), nI_clamp (by omega), m_now h (by omega), m_isFit h hi h1 (by omega), bd_some]
      unfold f_X6_fits_37 f_X6_fits_38
      rw [lt_eq, lt_eq, lt_eq, lt_eq, nI_1, shl1 (by omega), mkn_or, or0]
      by_cases q : 0 < w dm (1 + d)
      · rw [if_neg (nI_nle q (by omega))]
        have hpd := hp d
        simp only [q, decide_true, Bool.true_and] at hpd
        rw [← hpd]
        by_cases q2 : p d = true
        · rw [if_neg (by rw [if_pos q2]; decide)]
          rwa [if_pos ⟨h1, q2⟩] at ih'
        · rw [if_pos (by rw [if_neg q2])]
          rwa [if_neg (fun z => q2 z.2), Nat.add_zero] at ih'
      · rw [if_pos (by rw [show w dm (1 + d) = 0 by omega]; decide)]
        rwa [if_neg (fun z => by have := hp d; rw [z.2] at this; simp [q] at this), Nat.add_zero] at ih'
theorem m_fits {i : Nat} (h : TB n kd up lw dm w kp c m) (hi : i < n) : f_X6_fits (nI i) m = some (nI (fitW kd up lw (w dm) i)) := m_fits_loop h hi _ (fun _ => rfl) fu 2 (by omega) (by omega) (by unfold fu; omega)
end TR
