def sbm (M x : Nat) : Prop := ∀ i, x.testBit i = true → M.testBit i = true
def nx : Nat → Nat → Nat → Nat
  | 0, _, _ => 0
  | n + 1, M, x => if M % 2 = 1 ∧ x % 2 = 0 then x + 1 else 2 * nx n (M / 2) (x / 2)
theorem tb0 {x : Nat} : x.testBit 0 = true ↔ x % 2 = 1 := by
  rw [Nat.testBit_zero]; simp
theorem sbm_half {M x : Nat} (h : sbm M x) : sbm (M / 2) (x / 2) := fun i hi => by
  rw [← Nat.testBit_succ] at *
  exact h (i + 1) hi
theorem sbm_low {M x : Nat} (h : sbm M x) (hx : x % 2 = 1) : M % 2 = 1 := tb0.mp (h 0 (tb0.mpr hx))
theorem sbm_mk {M x : Nat} (h : sbm (M / 2) (x / 2)) (h0 : x % 2 = 1 → M % 2 = 1) : sbm M x := fun i hi => by
  cases i with
  | zero => exact tb0.mpr (h0 (tb0.mp hi))
  | succ i =>
    rw [Nat.testBit_succ] at *
    exact h i hi
theorem sbm_le : ∀ (n M x : Nat), x < 2 ^ n → sbm M x → x ≤ M := by
  intro n
  induction n with
  | zero => intro M x h1 h2; omega
  | succ n ih =>
    intro M x h1 h2
    have := ih (M / 2) (x / 2) (by omega) (sbm_half h2)
    by_cases z : x % 2 = 1
    · have := sbm_low h2 z
      omega
    · omega
theorem nx_top : ∀ (n M : Nat), nx n M M = 0 := by
  intro n
  induction n with
  | zero => intro M; rfl
  | succ n ih =>
    intro M
    rw [nx, if_neg (by omega), ih]
theorem nx_ok : ∀ (n M x : Nat), M < 2 ^ n → x < M → sbm M x → sbm M (nx n M x) ∧ x < nx n M x ∧ ∀ y, sbm M y → x < y → nx n M x ≤ y := by
  intro n
  induction n with
  | zero => intro M x h1 h2 h3; omega
  | succ n ih =>
    intro M x h1 h2 h3
    rw [nx]
    by_cases z : M % 2 = 1 ∧ x % 2 = 0
    · rw [if_pos z]
      refine ⟨sbm_mk ?_ (fun _ => z.1), by omega, fun y _ h => h⟩
      rw [show (x + 1) / 2 = x / 2 by omega]
      exact sbm_half h3
    · rw [if_neg z]
      have hx : x % 2 = M % 2 := by
        by_cases q : x % 2 = 1
        · rw [q, sbm_low h3 q]
        · have : ¬ M % 2 = 1 := fun w => z ⟨w, by omega⟩
          omega
      obtain ⟨g1, g2, g3⟩ := ih (M / 2) (x / 2) (by omega) (by omega) (sbm_half h3)
      refine ⟨sbm_mk (by rw [show 2 * nx n (M / 2) (x / 2) / 2 = nx n (M / 2) (x / 2) by omega]; exact g1) (fun q => by omega), by omega, fun y hy hxy => ?_⟩
      have : x / 2 < y / 2 := by
        by_cases q : y % 2 = 1
        · have := sbm_low hy q
          omega
        · omega
      have := g3 (y / 2) (sbm_half hy) this
      omega
theorem and_half (a b : Nat) : a &&& b = 2 * (a / 2 &&& b / 2) + (a % 2) * (b % 2) := by
  have h1 : (a &&& b) / 2 = a / 2 &&& b / 2 := by
    apply Nat.eq_of_testBit_eq
    intro i
    rw [← Nat.testBit_succ, Nat.testBit_and, Nat.testBit_and, Nat.testBit_succ, Nat.testBit_succ]
  have h2 : (a &&& b) % 2 = (a % 2) * (b % 2) := by
    have e : (a &&& b).testBit 0 = (a.testBit 0 && b.testBit 0) := Nat.testBit_and a b 0
    rw [Nat.testBit_zero, Nat.testBit_zero, Nat.testBit_zero] at e
    rcases Nat.mod_two_eq_zero_or_one a with p | p <;> rcases Nat.mod_two_eq_zero_or_one b with q | q <;> rcases Nat.mod_two_eq_zero_or_one (a &&& b) with r | r <;> simp [p, q, r] at e ⊢
  rw [← h1, ← h2]
  omega
theorem cmpl : ∀ (n M x : Nat), M < 2 ^ n → sbm M x → (x + (2 ^ n - 1 - M)) &&& M = x := by
  intro n
  induction n with
  | zero =>
    intro M x h1 h2
    have : M = 0 := by omega
    subst this
    have hx : x = 0 := Nat.eq_of_testBit_eq (fun i => by
      cases q : x.testBit i with
      | false => simp
      | true => have := h2 i q; simp at this)
    subst hx
    rfl
  | succ n ih =>
    intro M x h1 h2
    have i1 := ih (M / 2) (x / 2) (by omega) (sbm_half h2)
    have hp : 2 ^ (n + 1) = 2 * 2 ^ n := by rw [Nat.pow_succ]; omega
    rw [and_half]
    by_cases q : x % 2 = 1
    · have := sbm_low h2 q
      rw [show (x + (2 ^ (n + 1) - 1 - M)) / 2 = x / 2 + (2 ^ n - 1 - M / 2) by omega, i1, show (x + (2 ^ (n + 1) - 1 - M)) % 2 = 1 by omega, this]
      omega
    · by_cases r : M % 2 = 1
      · rw [show (x + (2 ^ (n + 1) - 1 - M)) / 2 = x / 2 + (2 ^ n - 1 - M / 2) by omega, i1, show (x + (2 ^ (n + 1) - 1 - M)) % 2 = 0 by omega]
        omega
      · rw [show (x + (2 ^ (n + 1) - 1 - M)) / 2 = x / 2 + (2 ^ n - 1 - M / 2) by omega, i1, show M % 2 = 0 by omega]
        omega
theorem nx_eq : ∀ (n M x : Nat), M < 2 ^ n → sbm M x → x ≤ M → ((x + (2 ^ n - M)) % 2 ^ n) &&& M = nx n M x := by
  intro n
  induction n with
  | zero =>
    intro M x h1 h2 h3
    have : M = 0 := by omega
    subst this
    rw [Nat.and_zero]
    rfl
  | succ n ih =>
    intro M x h1 h2 h3
    have hp : 2 ^ (n + 1) = 2 * 2 ^ n := by rw [Nat.pow_succ]; omega
    have hpos : 0 < 2 ^ n := Nat.two_pow_pos n
    have i1 := ih (M / 2) (x / 2) (by omega) (sbm_half h2) (by omega)
    rw [nx, and_half]
    by_cases z : M % 2 = 1 ∧ x % 2 = 0
    · rw [if_pos z]
      have e : (x + (2 ^ (n + 1) - M)) % 2 ^ (n + 1) = x + (2 ^ (n + 1) - M) := Nat.mod_eq_of_lt (by omega)
      have c := cmpl n (M / 2) (x / 2) (by omega) (sbm_half h2)
      rw [e, show (x + (2 ^ (n + 1) - M)) / 2 = x / 2 + (2 ^ n - 1 - M / 2) by omega, c, show (x + (2 ^ (n + 1) - M)) % 2 = 1 by omega, z.1]
      omega
    · rw [if_neg z]
      have hx : x % 2 = M % 2 := by
        by_cases q : x % 2 = 1
        · rw [q, sbm_low h2 q]
        · have : ¬ M % 2 = 1 := fun w => z ⟨w, by omega⟩
          omega
      have e : x + (2 ^ (n + 1) - M) = 2 * (x / 2 + (2 ^ n - M / 2)) := by omega
      rw [e, hp, Nat.mul_mod_mul_left, show 2 * ((x / 2 + (2 ^ n - M / 2)) % 2 ^ n) / 2 = (x / 2 + (2 ^ n - M / 2)) % 2 ^ n by omega, i1, show 2 * ((x / 2 + (2 ^ n - M / 2)) % 2 ^ n) % 2 = 0 by omega]
      omega
theorem sub_nx {M x : Nat} (hM : M < 2 ^ 17) (hx : sbm M x) (hl : x ≤ M) : (nI x - nI M) &&& nI M = nI (nx 32 M x) := by
  rw [← nx_eq 32 M x (by omega) hx hl, ← fa_and]
  congr 1
  apply Int32.toBitVec_inj.1
  show BitVec.ofNat 32 x - BitVec.ofNat 32 M = BitVec.ofNat 32 ((x + (2 ^ 32 - M)) % 2 ^ 32)
  apply BitVec.eq_of_toNat_eq
  rw [BitVec.toNat_sub, BitVec.toNat_ofNat, BitVec.toNat_ofNat, BitVec.toNat_ofNat, Nat.mod_eq_of_lt (show M < 2 ^ 32 by omega), Nat.mod_eq_of_lt (show x < 2 ^ 32 by omega)]
  omega
