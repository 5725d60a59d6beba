/-! duel: the model's tree of picks -/
def LOST : Int := -1000000000
def actr (i j s : Nat) : Nat := if s % 2 = 0 then i else j
theorem actr_1 (i j s : Nat) : actr i j (s + 1) = actr j i s := by
  unfold actr
  rcases Nat.mod_two_eq_zero_or_one s with e | e
  · rw [if_neg (by omega), if_pos e]
  · rw [if_pos (by omega), if_neg (by omega)]
def fdv (ev : Bool) (f : Nat → Int) : Nat → Int
  | 0 => LOST
  | k + 1 => if f k ≠ LOST ∧ (fdv ev f k = LOST ∨ (if ev = true then fdv ev f k < f k else f k < fdv ev f k)) then f k else fdv ev f k
theorem fdv_cong {ev : Bool} {f g : Nat → Int} : ∀ k, (∀ j, j < k → f j = g j) → fdv ev f k = fdv ev g k
  | 0, _ => rfl
  | k + 1, h => by rw [fdv, fdv, fdv_cong k (fun j hj => h j (by omega)), h k (by omega)]
theorem fdv_lost {ev : Bool} {f : Nat → Int} : ∀ k, (∀ j, j < k → f j = LOST) → fdv ev f k = LOST
  | 0, _ => rfl
  | k + 1, h => by rw [fdv, fdv_lost k (fun j hj => h j (by omega)), h k (by omega), if_neg (fun q => q.1 rfl)]
section LV
variable (kd up lw : Nat → Nat) (i j : Nat)
def leafV (E : (Nat → Nat) → Int) : Nat → Nat → Nat → (Nat → Nat) → Int
  | 0, _, _, v => E v
  | t + 1, s, code, v => if code / 2 ^ (4 * t) % 16 = 0 then leafV E t (s + 1) code v else if (fitW kd up lw v (actr i j s)).testBit (code / 2 ^ (4 * t) % 16 + 1) = true then leafV E t (s + 1) code (giveV v (actr i j s) (code / 2 ^ (4 * t) % 16 + 1)) else LOST
theorem leafV_round {E : (Nat → Nat) → Int} {ev : Bool} : ∀ (t s code : Nat) (v : Nat → Nat), fdv ev (fun k => leafV kd up lw i j E (t + 1) s (16 * code + k) v) 16 = leafV kd up lw i j (fun v => fdv ev (fun k => leafV kd up lw i j E 1 (s + t) k v) 16) t s code v := by
  intro t
  induction t with
  | zero =>
    intro s code v
    rw [leafV]
    refine fdv_cong 16 (fun k hk => ?_)
    have e1 : (16 * code + k) / 2 ^ (4 * 0) % 16 = k := by
      rw [show 2 ^ (4 * 0) = 1 from rfl, Nat.div_one]; omega
    have e2 : k / 2 ^ (4 * 0) % 16 = k := by
      rw [show 2 ^ (4 * 0) = 1 from rfl, Nat.div_one]; omega
    have L1 : ∀ c s, leafV kd up lw i j E 1 s c v = if c / 2 ^ (4 * 0) % 16 = 0 then E v else if (fitW kd up lw v (actr i j s)).testBit (c / 2 ^ (4 * 0) % 16 + 1) = true then E (giveV v (actr i j s) (c / 2 ^ (4 * 0) % 16 + 1)) else LOST := fun c s => by simp only [leafV]
    show leafV kd up lw i j E 1 s (16 * code + k) v = leafV kd up lw i j E 1 s k v
    rw [L1, L1, e1, e2]
  | succ t ih =>
    intro s code v
    have e1 : ∀ k, k < 16 → (16 * code + k) / 2 ^ (4 * (t + 1)) % 16 = code / 2 ^ (4 * t) % 16 := by
      intro k hk
      rw [show 2 ^ (4 * (t + 1)) = 16 * 2 ^ (4 * t) by rw [show 4 * (t + 1) = 4 + 4 * t by omega, Nat.pow_add], ← Nat.div_div_eq_div_mul, show (16 * code + k) / 16 = code by omega]
    have e3 : s + (t + 1) = s + 1 + t := by omega
    rw [leafV]
    by_cases q : code / 2 ^ (4 * t) % 16 = 0
    · rw [if_pos q, e3, ← ih]
      refine fdv_cong 16 (fun k hk => ?_)
      rw [leafV, if_pos (by rw [e1 k hk]; exact q)]
    · rw [if_neg q]
      by_cases z : (fitW kd up lw v (actr i j s)).testBit (code / 2 ^ (4 * t) % 16 + 1) = true
      · rw [if_pos z, e3, ← ih]
        refine fdv_cong 16 (fun k hk => ?_)
        rw [leafV, if_neg (by rw [e1 k hk]; exact q), if_pos (by rw [e1 k hk]; exact z), e1 k hk]
      · rw [if_neg z]
        refine fdv_lost 16 (fun k hk => ?_)
        rw [leafV, if_neg (by rw [e1 k hk]; exact q), if_neg (by rw [e1 k hk]; exact z)]
def DV (v : Nat → Nat) : Int := (Sm (v (18 + i)) : Int) - (Sm (v (18 + j)) : Int)
theorem DV_bd (v : Nat → Nat) : -12252240 ≤ DV i j v ∧ DV i j v ≤ 12252240 := by
  have h1 := smn_lt (v (18 + i)) 17
  have h2 := smn_lt (v (18 + j)) 17
  unfold DV
  show -12252240 ≤ (smn _ 17 : Int) - (smn _ 17 : Int) ∧ (smn _ 17 : Int) - (smn _ 17 : Int) ≤ 12252240
  omega
def NV (t s : Nat) (v : Nat → Nat) : Int := if s % 2 = 0 then DV i j v + val kd up lw t i j v else DV i j v - val kd up lw t j i v
theorem NV_bd {t s : Nat} (ht : t ≤ 4) (v : Nat → Nat) : -20000000 ≤ NV kd up lw i j t s v ∧ NV kd up lw i j t s v ≤ 20000000 := by
  have h1 := DV_bd i j v
  have h2 := val_bd kd up lw t i j v
  have h3 := val_bd kd up lw t j i v
  unfold NV
  split <;> omega
theorem fdv_even {f : Nat → Int} {L : Nat → Bool} {g : Nat → Int} {p D : Int} (h0 : f 0 = D + p) (hL : L 0 = false ∧ L 1 = false) (hf : ∀ k, 1 ≤ k → k < 16 → f k = if L (k + 1) = true then D + g (k + 1) else LOST) (hb : ∀ k, 1 ≤ k → k < 16 → L (k + 1) = true → -100000000 ≤ f k) (hb0 : -100000000 ≤ f 0) : ∀ k, k < 16 → fdv true f (k + 1) = D + bst L g p (k + 2) ∧ -100000000 ≤ fdv true f (k + 1) := by
  intro k
  induction k with
  | zero =>
    intro _
    rw [fdv, fdv, if_pos ⟨by unfold LOST; omega, Or.inl rfl⟩, bst, bst, bst, if_neg (by rw [hL.2]; decide), if_neg (by rw [hL.1]; decide)]
    exact ⟨h0, hb0⟩
  | succ k ih =>
    intro hk
    obtain ⟨i1, i2⟩ := ih (by omega)
    have e : f (k + 1) = if L (k + 2) = true then D + g (k + 2) else LOST := hf (k + 1) (by omega) hk
    have b : L (k + 2) = true → -100000000 ≤ f (k + 1) := hb (k + 1) (by omega) hk
    have e1 : bst L g p (k + 1 + 2) = if L (k + 2) = true then max (bst L g p (k + 2)) (g (k + 2)) else bst L g p (k + 2) := rfl
    have e2 : fdv true f (k + 1 + 1) = if f (k + 1) ≠ LOST ∧ (fdv true f (k + 1) = LOST ∨ (if true = true then fdv true f (k + 1) < f (k + 1) else f (k + 1) < fdv true f (k + 1))) then f (k + 1) else fdv true f (k + 1) := rfl
    rw [e1, e2]
    generalize fdv true f (k + 1) = x at *
    generalize bst L g p (k + 2) = y at *
    by_cases z : L (k + 2) = true
    · have b := b z
      rw [if_pos z] at e ⊢
      generalize f (k + 1) = F at *
      generalize g (k + 2) = G at *
      by_cases q : x < F
      · rw [if_pos ⟨by unfold LOST; omega, Or.inr (by rw [if_pos rfl]; exact q)⟩]
        omega
      · rw [if_neg (fun w => by
          rcases w.2 with w | w
          · unfold LOST at w; omega
          · rw [if_pos rfl] at w; omega)]
        omega
    · rw [if_neg z] at e ⊢
      rw [if_neg (fun w => w.1 e)]
      exact ⟨i1, i2⟩
theorem fdv_odd {f : Nat → Int} {L : Nat → Bool} {g : Nat → Int} {p D : Int} (h0 : f 0 = D - p) (hL : L 0 = false ∧ L 1 = false) (hf : ∀ k, 1 ≤ k → k < 16 → f k = if L (k + 1) = true then D - g (k + 1) else LOST) (hb : ∀ k, 1 ≤ k → k < 16 → L (k + 1) = true → -100000000 ≤ f k) (hb0 : -100000000 ≤ f 0) : ∀ k, k < 16 → fdv false f (k + 1) = D - bst L g p (k + 2) ∧ -100000000 ≤ fdv false f (k + 1) := by
  intro k
  induction k with
  | zero =>
    intro _
    rw [fdv, fdv, if_pos ⟨by unfold LOST; omega, Or.inl rfl⟩, bst, bst, bst, if_neg (by rw [hL.2]; decide), if_neg (by rw [hL.1]; decide)]
    exact ⟨h0, hb0⟩
  | succ k ih =>
    intro hk
    obtain ⟨i1, i2⟩ := ih (by omega)
    have e : f (k + 1) = if L (k + 2) = true then D - g (k + 2) else LOST := hf (k + 1) (by omega) hk
    have b : L (k + 2) = true → -100000000 ≤ f (k + 1) := hb (k + 1) (by omega) hk
    have e1 : bst L g p (k + 1 + 2) = if L (k + 2) = true then max (bst L g p (k + 2)) (g (k + 2)) else bst L g p (k + 2) := rfl
    have e2 : fdv false f (k + 1 + 1) = if f (k + 1) ≠ LOST ∧ (fdv false f (k + 1) = LOST ∨ (if false = true then fdv false f (k + 1) < f (k + 1) else f (k + 1) < fdv false f (k + 1))) then f (k + 1) else fdv false f (k + 1) := rfl
    rw [e1, e2]
    generalize fdv false f (k + 1) = x at *
    generalize bst L g p (k + 2) = y at *
    by_cases z : L (k + 2) = true
    · have b := b z
      rw [if_pos z] at e ⊢
      generalize f (k + 1) = F at *
      generalize g (k + 2) = G at *
      by_cases q : F < x
      · rw [if_pos ⟨by unfold LOST; omega, Or.inr (by rw [if_neg (by decide)]; exact q)⟩]
        omega
      · rw [if_neg (fun w => by
          rcases w.2 with w | w
          · unfold LOST at w; omega
          · rw [if_neg (by decide)] at w; omega)]
        omega
    · rw [if_neg z] at e ⊢
      rw [if_neg (fun w => w.1 e)]
      exact ⟨i1, i2⟩
variable {kd up lw i j}
theorem DV_give (hij : i ≠ j) {v : Nat → Nat} {d : Nat} (hd : 2 ≤ d) (hd2 : d ≤ 16) : ((v (18 + i)).testBit d = false → DV i j (giveV v i d) = DV i j v + gsz d) ∧ ((v (18 + j)).testBit d = false → DV i j (giveV v j d) = DV i j v - gsz d) := by
  have g1 : ∀ a, giveV v a d (18 + a) = v (18 + a) + 2 ^ d := fun a => by unfold giveV; rw [if_neg (by omega), if_pos rfl]
  have g2 : ∀ a b, b ≠ a → giveV v a d (18 + b) = v (18 + b) := fun a b h => by unfold giveV; rw [if_neg (by omega), if_neg (by omega)]
  refine ⟨fun h => ?_, fun h => ?_⟩
  · unfold DV gsz
    rw [g1, g2 i j (Ne.symm hij), Sm_add h hd hd2]
    omega
  · unfold DV gsz
    rw [g1, g2 j i hij, Sm_add h hd hd2]
    omega
theorem NV_step (hij : i ≠ j) {t s : Nat} (ht : t ≤ 3) (v : Nat → Nat) : fdv (decide (s % 2 = 0)) (fun k => leafV kd up lw i j (NV kd up lw i j t (s + 1)) 1 s k v) 16 = NV kd up lw i j (t + 1) s v := by
  have low : ∀ a, (fitW kd up lw v a).testBit 0 = false ∧ (fitW kd up lw v a).testBit 1 = false := by
    intro a
    constructor
    · cases e : (fitW kd up lw v a).testBit 0 with
      | false => rfl
      | true => exact absurd (fit_rng kd up lw e).1 (by omega)
    · cases e : (fitW kd up lw v a).testBit 1 with
      | false => rfl
      | true => exact absurd (fit_rng kd up lw e).1 (by omega)
  have l0 : leafV kd up lw i j (NV kd up lw i j t (s + 1)) 1 s 0 v = NV kd up lw i j t (s + 1) v := by
    rw [leafV, if_pos (by decide), leafV]
  have lk : ∀ k, 1 ≤ k → k < 16 → leafV kd up lw i j (NV kd up lw i j t (s + 1)) 1 s k v = if (fitW kd up lw v (actr i j s)).testBit (k + 1) = true then NV kd up lw i j t (s + 1) (giveV v (actr i j s) (k + 1)) else LOST := by
    intro k h1 h2
    have e2 : k / 2 ^ (4 * 0) % 16 = k := by
      rw [show 2 ^ (4 * 0) = 1 from rfl, Nat.div_one]; omega
    rw [leafV, if_neg (by rw [e2]; omega), e2, leafV]
  have nb := fun v => (NV_bd kd up lw i j (t := t) (s := s + 1) (by omega) v).1
  rcases Nat.mod_two_eq_zero_or_one s with e | e
  · have ea : actr i j s = i := by unfold actr; rw [if_pos e]
    rw [ea] at lk
    have key := fdv_even (f := fun k => leafV kd up lw i j (NV kd up lw i j t (s + 1)) 1 s k v) (L := fun d => (fitW kd up lw v i).testBit d) (g := fun d => gsz d - val kd up lw t j i (giveV v i d)) (p := -(val kd up lw t j i v)) (D := DV i j v) (by
      rw [l0]; unfold NV; rw [if_neg (by omega)]; omega) (low i) (fun k h1 h2 => by
      rw [lk k h1 h2]
      by_cases z : (fitW kd up lw v i).testBit (k + 1) = true
      · rw [if_pos z, if_pos z]
        unfold NV
        rw [if_neg (by omega), (DV_give hij (fit_rng kd up lw z).1 (fit_rng kd up lw z).2).1 (fit_bit (fit_rng kd up lw z).1 (fit_rng kd up lw z).2 z).2.1]
        omega
      · rw [if_neg z, if_neg z]) (fun k h1 h2 z => by
      rw [lk k h1 h2, if_pos z]
      have := nb (giveV v i (k + 1))
      omega) (by
      rw [l0]
      have := nb v
      omega) 15 (by omega)
    rw [decide_eq_true e, key.1]
    unfold NV
    rw [if_pos e, val]
  · have ea : actr i j s = j := by unfold actr; rw [if_neg (by omega)]
    rw [ea] at lk
    have key := fdv_odd (f := fun k => leafV kd up lw i j (NV kd up lw i j t (s + 1)) 1 s k v) (L := fun d => (fitW kd up lw v j).testBit d) (g := fun d => gsz d - val kd up lw t i j (giveV v j d)) (p := -(val kd up lw t i j v)) (D := DV i j v) (by
      rw [l0]; unfold NV; rw [if_pos (by omega)]; omega) (low j) (fun k h1 h2 => by
      rw [lk k h1 h2]
      by_cases z : (fitW kd up lw v j).testBit (k + 1) = true
      · rw [if_pos z, if_pos z]
        unfold NV
        rw [if_pos (by omega), (DV_give hij (fit_rng kd up lw z).1 (fit_rng kd up lw z).2).2 (fit_bit (fit_rng kd up lw z).1 (fit_rng kd up lw z).2 z).2.1]
        omega
      · rw [if_neg z, if_neg z]) (fun k h1 h2 z => by
      rw [lk k h1 h2, if_pos z]
      have := nb (giveV v j (k + 1))
      omega) (by
      rw [l0]
      have := nb v
      omega) 15 (by omega)
    rw [decide_eq_false (by omega), key.1]
    unfold NV
    rw [if_neg (by omega), val]
/-- a round: sixteen picks into one -/
theorem NV_round (hij : i ≠ j) {t s : Nat} (ht : t ≤ 3) (code : Nat) (v : Nat → Nat) : fdv (decide (s % 2 = 0)) (fun k => leafV kd up lw i j (NV kd up lw i j t (s + 1)) (s + 1) 0 (16 * code + k) v) 16 = leafV kd up lw i j (NV kd up lw i j (t + 1) s) s 0 code v := by
  rw [leafV_round, Nat.zero_add]
  congr 1
  funext v
  exact NV_step hij ht v
theorem leafV_bd {E : (Nat → Nat) → Int} (hE : ∀ v, -20000000 ≤ E v ∧ E v ≤ 20000000) : ∀ t s code v, leafV kd up lw i j E t s code v = LOST ∨ (-20000000 ≤ leafV kd up lw i j E t s code v ∧ leafV kd up lw i j E t s code v ≤ 20000000)
  | 0, _, _, v => Or.inr (hE v)
  | t + 1, s, code, v => by
    rw [leafV]
    split
    · exact leafV_bd hE t _ _ _
    · split
      · exact leafV_bd hE t _ _ _
      · exact Or.inl rfl
end LV
