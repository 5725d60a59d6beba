def sumTo (f : Nat → Nat) : Nat → Nat
  | 0 => 0
  | n + 1 => sumTo f n + f n
theorem sumTo_gap {f : Nat → Nat} {a : Nat} : ∀ (e : Nat), (∀ y, a ≤ y → y < a + e → f y = 0) → sumTo f (a + e) = sumTo f a := by
  intro e
  induction e with
  | zero => intro _; rfl
  | succ e ih =>
    intro h
    show sumTo f (a + e) + f (a + e) = _
    rw [ih (fun y h1 h2 => h y h1 (by omega)), h (a + e) (by omega) (by omega)]
    rfl
theorem sumTo_two {f : Nat → Nat} : ∀ n, sumTo f (2 * n) = sumTo (fun y => f (2 * y)) n + sumTo (fun y => f (2 * y + 1)) n := by
  intro n
  induction n with
  | zero => rfl
  | succ n ih =>
    show sumTo f (2 * n) + f (2 * n) + f (2 * n + 1) = sumTo (fun y => f (2 * y)) n + f (2 * n) + (sumTo (fun y => f (2 * y + 1)) n + f (2 * n + 1))
    omega
theorem sumTo_zero {f : Nat → Nat} (n : Nat) (h : ∀ y, f y = 0) : sumTo f n = 0 := by
  induction n with
  | zero => rfl
  | succ n ih => show sumTo f n + f n = 0; rw [ih, h]
theorem sumTo_congr {f g : Nat → Nat} (n : Nat) (h : ∀ y, f y = g y) : sumTo f n = sumTo g n := by rw [show f = g from funext h]
theorem sbm_and {H x : Nat} : sbm H x ↔ x &&& H = x := by
  constructor
  · intro h
    refine Nat.eq_of_testBit_eq fun i => ?_
    rw [Nat.testBit_and]
    cases q : x.testBit i with
    | false => rfl
    | true => rw [h i q]; rfl
  · intro h i hi
    rw [← h, Nat.testBit_and] at hi
    simp only [Bool.and_eq_true] at hi
    exact hi.2
def prN (H k x : Nat) : Nat → Nat
  | 0 => 1
  | n + 1 => prN H k x n * if 2 ≤ n ∧ H.testBit n = true then (if x.testBit n = true then 12 - k else k) else 1
theorem prN_le {H k x : Nat} (hk : k ≤ 12) : ∀ n, prN H k x n ≤ 12 ^ n := by
  intro n
  induction n with
  | zero => exact Nat.le_refl _
  | succ n ih =>
    show prN H k x n * _ ≤ 12 ^ (n + 1)
    rw [Nat.pow_succ]
    refine Nat.mul_le_mul ih ?_
    split
    · split <;> omega
    · omega
theorem prN_congr {H k x x' : Nat} : ∀ n, (∀ i, i < n → x.testBit i = x'.testBit i) → prN H k x n = prN H k x' n := by
  intro n
  induction n with
  | zero => intro _; rfl
  | succ n ih =>
    intro h
    show prN H k x n * _ = prN H k x' n * _
    rw [ih (fun i hi => h i (by omega)), h n (by omega)]
def fo (H k D x : Nat) : Nat := if x &&& H = x then (if 2 * Sm x < D then 0 else prN H k x 17) else 0
theorem fo_out {H k D x : Nat} (h : ¬ sbm H x) : fo H k D x = 0 := if_neg (fun q => h (sbm_and.mpr q))
theorem fo_sum {H k D : Nat} : ∀ (e d r : Nat), d + e = 17 → 2 ≤ d → r < 2 ^ d → sbm H r → sumTo (fun y => fo H k D (r + 2 ^ d * y)) (2 ^ e) = prN H k r d * Wo H k e d ((D : Int) - 2 * ((Sm r : Nat) : Int)) := by
  intro e
  induction e with
  | zero =>
    intro d r h1 h2 h3 h4
    obtain rfl : d = 17 := by omega
    show 0 + fo H k D (r + 2 ^ 17 * 0) = _
    rw [Nat.mul_zero, Nat.add_zero, Nat.zero_add, fo, if_pos (sbm_and.mp h4), Wo]
    by_cases z : 2 * Sm r < D
    · rw [if_pos z, if_neg (by omega), Nat.mul_zero]
    · rw [if_neg z, if_pos (by omega), Nat.mul_one]
  | succ e ih =>
    intro d r h1 h2 h3 h4
    have rb : r.testBit d = false := Nat.testBit_lt_two_pow h3
    have pw : 2 ^ (d + 1) = 2 * 2 ^ d := by rw [Nat.pow_succ]; omega
    rw [show 2 ^ (e + 1) = 2 * 2 ^ e by rw [Nat.pow_succ]; omega, sumTo_two]
    have c1 : sumTo (fun y => fo H k D (r + 2 ^ d * (2 * y))) (2 ^ e) = sumTo (fun y => fo H k D (r + 2 ^ (d + 1) * y)) (2 ^ e) := sumTo_congr _ (fun y => by rw [pw, Nat.mul_left_comm, Nat.mul_assoc])
    have c2 : sumTo (fun y => fo H k D (r + 2 ^ d * (2 * y + 1))) (2 ^ e) = sumTo (fun y => fo H k D ((r + 2 ^ d) + 2 ^ (d + 1) * y)) (2 ^ e) := sumTo_congr _ (fun y => by
      congr 1
      rw [pw, Nat.mul_add, Nat.mul_one, Nat.mul_left_comm, Nat.mul_assoc]
      omega)
    rw [c1, c2, ih (d + 1) r (by omega) (by omega) (by omega) h4, Wo]
    have p1 : prN H k r (d + 1) = prN H k r d * if 2 ≤ d ∧ H.testBit d = true then (if r.testBit d = true then 12 - k else k) else 1 := rfl
    by_cases b : H.testBit d = true
    · have hs : sbm H (r + 2 ^ d) := fun i hi => by
        rw [pw_bit rb] at hi
        by_cases w : i = d
        · rw [w]; exact b
        · exact h4 i (by simpa [w] using hi)
      have p2 : prN H k (r + 2 ^ d) (d + 1) = prN H k (r + 2 ^ d) d * if 2 ≤ d ∧ H.testBit d = true then (if (r + 2 ^ d).testBit d = true then 12 - k else k) else 1 := rfl
      rw [if_pos ⟨h2, b⟩, rb, if_neg (by decide)] at p1
      rw [if_pos ⟨h2, b⟩, show (r + 2 ^ d).testBit d = true by rw [pw_bit rb]; simp, if_pos rfl, prN_congr (x' := r) d (fun i hi => by
        rw [pw_bit rb]
        have : ¬ i = d := by omega
        simp [this])] at p2
      rw [ih (d + 1) (r + 2 ^ d) (by omega) (by omega) (by omega) hs, Sm_add rb h2 (by omega), p1, p2, if_pos b, Nat.mul_add, Nat.mul_assoc, Nat.mul_assoc]
      congr 4
      have : ((Sm r + 720720 / d : Nat) : Int) = (Sm r : Int) + ((720720 / d : Nat) : Int) := Int.natCast_add _ _
      rw [this]
      generalize ((720720 / d : Nat) : Int) = q
      omega
    · rw [if_neg (fun q => b q.2), Nat.mul_one] at p1
      rw [if_neg b, p1, sumTo_zero _ (fun y => fo_out (fun q => b (q d ?_))), Nat.add_zero]
      have e1 : r + 2 ^ d + 2 ^ (d + 1) * y = 2 ^ (d + 1) * y + (r + 2 ^ d) := by omega
      rw [e1, Nat.testBit_two_pow_mul_add _ (by omega), if_pos (by omega), pw_bit rb]
      simp
