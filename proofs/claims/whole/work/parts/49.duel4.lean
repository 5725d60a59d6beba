/-! duel: the value by turns; the class's search in a window -/
theorem i_neg {x : Int32} (h : -2147483647 ≤ x.toInt) : (-x).toInt = -x.toInt := by
  have := i_rng x
  rw [Int32.toInt_neg]
  exact bm32 (by omega) (by omega)
def bst (L : Nat → Bool) (g : Nat → Int) (p : Int) : Nat → Int
  | 0 => p
  | k + 1 => if L k = true then max (bst L g p k) (g k) else bst L g p k
section BS
variable {L : Nat → Bool} {g : Nat → Int} {p : Int}
theorem bst_p : ∀ k, p ≤ bst L g p k
  | 0 => Int.le_refl _
  | k + 1 => by
    have := bst_p k
    rw [bst]
    split <;> omega
theorem bst_g : ∀ k d, d < k → L d = true → g d ≤ bst L g p k
  | 0, d, h, _ => by omega
  | k + 1, d, h, hl => by
    rw [bst]
    by_cases e : d = k
    · subst e
      rw [if_pos hl]
      omega
    · have := bst_g k d (by omega) hl
      split <;> omega
theorem bst_at : ∀ k, bst L g p k = p ∨ ∃ d, d < k ∧ L d = true ∧ bst L g p k = g d
  | 0 => Or.inl rfl
  | k + 1 => by
    have ih := bst_at k
    rw [bst]
    by_cases e : L k = true
    · rw [if_pos e]
      by_cases q : bst L g p k ≤ g k
      · exact Or.inr ⟨k, by omega, e, by omega⟩
      · rw [show max (bst L g p k) (g k) = bst L g p k by omega]
        exact ih.imp id (fun ⟨d, h1, h2, h3⟩ => ⟨d, by omega, h2, h3⟩)
    · rw [if_neg e]
      exact ih.imp id (fun ⟨d, h1, h2, h3⟩ => ⟨d, by omega, h2, h3⟩)
end BS
def gsz (d : Nat) : Int := ((720720 / d : Nat) : Int)
theorem gsz_bd {d : Nat} (h : 2 ≤ d) : 0 ≤ gsz d ∧ gsz d ≤ 360360 := by
  have : 720720 / d ≤ 720720 / 2 := Nat.div_le_div_left h (by omega)
  unfold gsz
  generalize 720720 / d = p at *
  omega
section VL
variable (kd up lw : Nat → Nat)
def val : Nat → Nat → Nat → (Nat → Nat) → Int
  | 0, _, _, _ => 0
  | t + 1, a, b, v => bst (fun d => (fitW kd up lw v a).testBit d) (fun d => gsz d - val t b a (giveV v a d)) (-(val t b a v)) 17
theorem fit_rng {v : Nat → Nat} {a d : Nat} (h : (fitW kd up lw v a).testBit d = true) : 2 ≤ d ∧ d ≤ 16 := by
  unfold fitW fitN at h
  rw [mkn_bit] at h
  simp only [Bool.and_eq_true, decide_eq_true_eq] at h
  omega
theorem val_bd : ∀ (t a b : Nat) (v : Nat → Nat), -(360360 * (t : Int)) ≤ val kd up lw t a b v ∧ val kd up lw t a b v ≤ 360360 * (t : Int)
  | 0, _, _, _ => by simp [val]
  | t + 1, a, b, v => by
    rw [val]
    have h1 := val_bd t b a v
    have h2 := bst_p (L := fun d => (fitW kd up lw v a).testBit d) (g := fun d => gsz d - val kd up lw t b a (giveV v a d)) (p := -(val kd up lw t b a v)) 17
    refine ⟨by omega, ?_⟩
    rcases bst_at (L := fun d => (fitW kd up lw v a).testBit d) (g := fun d => gsz d - val kd up lw t b a (giveV v a d)) (p := -(val kd up lw t b a v)) 17 with e | ⟨d, e1, e2, e3⟩
    · rw [e]; omega
    · have h3 := val_bd t b a (giveV v a d)
      have h4 := gsz_bd (fit_rng kd up lw e2).1
      rw [e3]
      omega
end VL
/-- what an answer in a window says -/
def WP (α β r V : Int) : Prop := (r ≤ α ∧ V ≤ r) ∨ r = V ∨ (β ≤ r ∧ r ≤ V)
def DS (n : Nat) (kd up lw : Nat → Nat) (v : Nat → Nat) (c : UU) : Prop := CV n up lw v c ∧ ∀ i, i < n → ui c 13 i = nI (kd i)
def DW (n : Nat) (up lw : Nat → Nat) (v : Nat → Nat) : Prop := (∀ d, d < 17 → v (1 + d) < 2 ^ 20) ∧ ∀ i, i < n → v (18 + i) < 2 ^ 17 ∧ Sm (v (18 + i)) ≤ due up lw i
section DU
variable {n : Nat} {kd up lw : Nat → Nat} {v : Nat → Nat} {c : UU}
theorem DS.fs {c' : UU} (h : DS n kd up lw v c) {v' : Nat → Nat} (hc : CV n up lw v' c') (hf : Fs PV c c') : DS n kd up lw v' c' := ⟨hc, fun i hi => by rw [hf.1 _ _ (by unfold PV; omega)]; exact h.2 i hi⟩
theorem DW.give (h : DW n up lw v) {i d : Nat} (hi : i < n) (hd : 2 ≤ d) (hd2 : d ≤ 16) (z : (fitW kd up lw v i).testBit d = true) : DW n up lw (giveV v i d) := by
  obtain ⟨z1, z2, z3⟩ := fit_bit hd hd2 z
  have hp := dvp hd hd2
  refine ⟨fun k hk => ?_, fun k hk => ?_⟩
  · have h1 := h.1 k hk
    unfold giveV
    by_cases e : 1 + k = 1 + d
    · rw [if_pos e]
      have := h.1 d (by omega)
      omega
    · rw [if_neg e, if_neg (by omega)]
      exact h1
  · unfold giveV
    rw [if_neg (by omega)]
    by_cases e : 18 + k = 18 + i
    · obtain rfl : k = i := by omega
      obtain ⟨f1, f2⟩ := h.2 k hk
      rw [if_pos rfl]
      refine ⟨add_lt17 z2 f1 hd2, ?_⟩
      rw [Sm_add z2 hd hd2]
      generalize 720720 / d = p at *
      omega
    · rw [if_neg e]
      exact h.2 k hk
theorem one_val {a b : Nat} {x : Nat} (hx : fitW kd up lw v a = x) : (x = 0 ∧ val kd up lw 1 a b v = 0) ∨ ∃ d, 2 ≤ d ∧ d ≤ 16 ∧ x.testBit d = true ∧ (∀ j, j < d → x.testBit j = false) ∧ val kd up lw 1 a b v = gsz d := by
  have hr : ∀ d, x.testBit d = true → 2 ≤ d ∧ d ≤ 16 := fun d h => fit_rng kd up lw (v := v) (a := a) (by rw [hx]; exact h)
  have hv : val kd up lw 1 a b v = bst (fun d => x.testBit d) (fun d => gsz d) 0 17 := by
    rw [val]
    simp only [val, Int.neg_zero, Int.sub_zero]
    rw [hx]
  rw [hv]
  by_cases q : ∃ d, x.testBit d = true
  · right
    have : ∃ d, x.testBit d = true ∧ ∀ j, j < d → x.testBit j = false := by
      obtain ⟨d, hd⟩ := q
      induction d using Nat.strongRecOn with
      | _ d ih =>
        by_cases q2 : ∃ j, j < d ∧ x.testBit j = true
        · obtain ⟨j, j1, j2⟩ := q2
          exact ih j j1 j2
        · refine ⟨d, hd, fun j hj => ?_⟩
          cases e : x.testBit j with
          | false => rfl
          | true => exact absurd ⟨j, hj, e⟩ q2
    obtain ⟨d, h1, h2⟩ := this
    obtain ⟨r1, r2⟩ := hr d h1
    refine ⟨d, r1, r2, h1, h2, ?_⟩
    have g1 := bst_g (L := fun d => x.testBit d) (g := fun d => gsz d) (p := 0) 17 d (by omega) h1
    rcases bst_at (L := fun d => x.testBit d) (g := fun d => gsz d) (p := 0) 17 with e | ⟨k, k1, k2, k3⟩
    · have := (gsz_bd r1).1
      omega
    · rw [k3]
      rw [k3] at g1
      have : d ≤ k := by
        refine Nat.le_of_not_lt fun z => ?_
        rw [h2 k z] at k2
        cases k2
      have : 720720 / k ≤ 720720 / d := Nat.div_le_div_left this (by omega)
      unfold gsz at *
      omega
  · left
    refine ⟨Nat.eq_of_testBit_eq fun i => ?_, ?_⟩
    · rw [Nat.zero_testBit]
      cases e : x.testBit i with
      | false => rfl
      | true => exact absurd ⟨i, e⟩ q
    · rcases bst_at (L := fun d => x.testBit d) (g := fun d => gsz d) (p := 0) 17 with e | ⟨k, k1, k2, k3⟩
      · exact e
      · exact absurd ⟨k, k2⟩ q
theorem bg_loop (hn : n ≤ 7) {t : Nat} {rc : Int32 → Int32 → Int32 → Int32 → Int32 → UU → Option (Int32 × UU)} (ht : t ≤ 3)
    (ih : ∀ (a b : Nat) (v : Nat → Nat) (c : UU) (α β : Int32), a < n → b < n → DS n kd up lw v c → DW n up lw v → α.toInt < β.toInt → -(20000000 - 1000000 * (t : Int)) ≤ α.toInt → β.toInt ≤ 20000000 - 1000000 * (t : Int) → ∃ r c', rc (nI a) (nI b) (nI t) α β c = some (r, c') ∧ DS n kd up lw v c' ∧ Fs PV c c' ∧ WP α.toInt β.toInt r.toInt (val kd up lw t a b v))
    {a b : Nat} (ha : a < n) (hb : b < n) {v : Nat → Nat} (hW : DW n up lw v) {α : Int} {β : Int32} (h1 : α < β.toInt) (hα : -(19000000 - 1000000 * (t : Int)) ≤ α) (hβ : β.toInt ≤ 19000000 - 1000000 * (t : Int)) :
    ∀ (k d F : Nat) (r : Int32) (c : UU), d + k = 17 → 2 ≤ d → k < F → DS n kd up lw v c → α ≤ r.toInt → (r.toInt < β.toInt → ∀ j, j < d → (fitW kd up lw v a).testBit j = true → gsz j - val kd up lw t b a (giveV v a j) ≤ r.toInt) → (r.toInt = α ∨ r.toInt ≤ val kd up lw (t + 1) a b v) →
      ∃ s c', f_X4_bestGain_43 rc F (nI a) (nI b) (nI (t + 1)) β (nI (fitW kd up lw v a)) r (nI d) c = some (s, c') ∧ DS n kd up lw v c' ∧ Fs PV c c' ∧ WP α β.toInt s.toInt (val kd up lw (t + 1) a b v) := by
  have hV := val_bd kd up lw (t + 1) a b v
  have e3 : nI (t + 1) - (1 : Int32) = nI t := pk_sub (b := 1) (by omega)
  have fin : ∀ (r : Int32) (c : UU), DS n kd up lw v c → α ≤ r.toInt → (r.toInt < β.toInt → ∀ j, j < 17 → (fitW kd up lw v a).testBit j = true → gsz j - val kd up lw t b a (giveV v a j) ≤ r.toInt) → (r.toInt = α ∨ r.toInt ≤ val kd up lw (t + 1) a b v) → ∃ s c', f_X4_bestGain_123 rc (nI a) (nI b) (nI (t + 1)) β r c = some (s, c') ∧ DS n kd up lw v c' ∧ Fs PV c c' ∧ WP α β.toInt s.toInt (val kd up lw (t + 1) a b v) := by
    intro r c hS i1 i2 i3
    unfold f_X4_bestGain_123
    by_cases q : β ≤ r
    · rw [if_pos q]
      have q' := i_le.mp q
      exact ⟨_, _, rfl, hS, Fs.rf, Or.inr (Or.inr ⟨q', by omega⟩)⟩
    · have q' : r.toInt < β.toInt := Int.not_le.mp (fun z => q (i_le.mpr z))
      rw [if_neg q, e3]
      have nb : (-β).toInt = -β.toInt := i_neg (by omega)
      have nr : (-r).toInt = -r.toInt := i_neg (by omega)
      obtain ⟨s, c', g1, g2, g3, g4⟩ := ih b a v c (-β) (-r) hb ha hS hW (by omega) (by omega) (by omega)
      have hU := val_bd kd up lw t b a v
      rw [g1, bd_some]
      dsimp only
      unfold WP at g4
      have ns : (-s).toInt = -s.toInt := i_neg (by omega)
      have hp := bst_p (L := fun d => (fitW kd up lw v a).testBit d) (g := fun d => gsz d - val kd up lw t b a (giveV v a d)) (p := -(val kd up lw t b a v)) 17
      have hv : val kd up lw (t + 1) a b v = bst (fun d => (fitW kd up lw v a).testBit d) (fun d => gsz d - val kd up lw t b a (giveV v a d)) (-(val kd up lw t b a v)) 17 := by rw [val]
      rw [← hv] at hp
      have hat := bst_at (L := fun d => (fitW kd up lw v a).testBit d) (g := fun d => gsz d - val kd up lw t b a (giveV v a d)) (p := -(val kd up lw t b a v)) 17
      rw [← hv] at hat
      have hup : val kd up lw (t + 1) a b v ≤ r.toInt ∨ val kd up lw (t + 1) a b v = -(val kd up lw t b a v) := by
        rcases hat with e | ⟨d, d1, d2, d3⟩
        · exact Or.inr e
        · exact Or.inl (by rw [d3]; exact i2 q' d d1 d2)
      clear hat
      by_cases z : r < -s
      · rw [if_pos z]
        have z' := i_lt.mp z
        refine ⟨_, _, rfl, g2, g3, ?_⟩
        unfold WP
        omega
      · rw [if_neg z]
        have z' : (-s).toInt ≤ r.toInt := Int.not_lt.mp (fun y => z (i_lt.mpr y))
        refine ⟨_, _, rfl, g2, g3, ?_⟩
        unfold WP
        omega
  intro k
  induction k with
  | zero =>
    intro d F r c hd h2 hF hS i1 i2 i3
    obtain ⟨F, rfl⟩ : ∃ F0, F = F0 + 1 := ⟨F - 1, by omega⟩
    rw [f_X4_bestGain_43, if_pos ((gt16 (show d ≤ 17 by omega)).mpr (by omega))]
    exact fin r c hS i1 (fun q j hj => i2 q j (by omega)) i3
  | succ k ihk =>
    intro d F r c hd h2 hF hS i1 i2 i3
    obtain ⟨F, rfl⟩ : ∃ F0, F = F0 + 1 := ⟨F - 1, by omega⟩
    rw [f_X4_bestGain_43, if_neg (fun q => by have := (gt16 (show d ≤ 17 by omega)).mp q; omega)]
    by_cases q : β ≤ r
    · rw [if_pos q]
      have q' := i_le.mp q
      exact fin r c hS i1 (fun y => by omega) i3
    · have q' : r.toInt < β.toInt := Int.not_le.mp (fun z => q (i_le.mpr z))
      have hfl : fitW kd up lw v a < 2 ^ 17 := mkn_lt _ _
      rw [if_neg q, holds_eq (by omega) (by omega)]
      by_cases z : (fitW kd up lw v a).testBit d = true
      · obtain ⟨z1, z2, z3⟩ := fit_bit h2 (by omega) z
        obtain ⟨w1, w2⟩ := hW.2 a ha
        have wd := hW.1 d (by omega)
        have hp := dvp h2 (show d ≤ 16 by omega)
        have z4 : Sm (v (18 + a)) + 720720 / d ≤ due up lw a := by generalize 720720 / d = p at *; omega
        obtain ⟨c1, t1, t2, t3⟩ := c_toHand hS.1 hn ha h2 (by omega) z1 (by omega) z2 z4
        have hg := gsz_bd h2
        have hW' := hW.give (kd := kd) ha h2 (by omega) z
        have ez : (nI (720720 / d)).toInt = gsz d := by
          rw [nI_toInt (by have : 720720 / d ≤ 720720 := Nat.div_le_self _ _; omega)]
          rfl
        rw [if_pos z, if_neg n10, ps_eq (by omega) (by omega), lt_eq, t1, bd_some, e3]
        have nb : (nI (720720 / d) - β).toInt = gsz d - β.toInt := by rw [i_sub (by omega) (by omega), ez]
        have nr : (nI (720720 / d) - r).toInt = gsz d - r.toInt := by rw [i_sub (by omega) (by omega), ez]
        obtain ⟨s, c2, g1, g2, g3, g4⟩ := ih b a (giveV v a d) c1 (nI (720720 / d) - β) (nI (720720 / d) - r) hb ha (hS.fs t2 t3) hW' (by omega) (by omega) (by omega)
        have hU := val_bd kd up lw t b a (giveV v a d)
        unfold WP at g4
        have ns : (nI (720720 / d) - s).toInt = gsz d - s.toInt := by rw [i_sub (by omega) (by omega), ez]
        have gv1 : giveV v a d (1 + d) = v (1 + d) - 1 := by simp [giveV]
        have gv2 : giveV v a d (18 + a) = v (18 + a) + 2 ^ d := by unfold giveV; rw [if_neg (by omega), if_pos rfl]
        obtain ⟨c3, t4, t5, t6⟩ := c_fromHand (i := a) (d := d) g2.1 hn ha h2 (by omega) (by omega) (hW'.2 a ha).1 (by rw [gv2, pw_bit z2]; simp) (hW'.2 a ha).2
        rw [back_give (by omega) z1] at t5
        have hV2 : gsz d - val kd up lw t b a (giveV v a d) ≤ val kd up lw (t + 1) a b v := by
          rw [val]
          exact bst_g (L := fun d => (fitW kd up lw v a).testBit d) (g := fun d => gsz d - val kd up lw t b a (giveV v a d)) 17 d (by omega) z
        rw [g1, bd_some, lt_eq, t4, bd_some]
        dsimp only
        unfold f_X4_bestGain_117
        rw [lt_eq, nI_1]
        have step : ∀ r' : Int32, r'.toInt = max r.toInt (gsz d - s.toInt) → ∃ s c', f_X4_bestGain_43 rc F (nI a) (nI b) (nI (t + 1)) β (nI (fitW kd up lw v a)) r' (nI (d + 1)) c3 = some (s, c') ∧ DS n kd up lw v c' ∧ Fs PV c c' ∧ WP α β.toInt s.toInt (val kd up lw (t + 1) a b v) := by
          intro r' hr'
          obtain ⟨s', c', k1, k2, k3, k4⟩ := ihk (d + 1) F r' c3 (by omega) (by omega) (by omega) (g2.fs t5 t6) (by omega) (fun y j hj lj => by
            by_cases e : j = d
            · subst e
              omega
            · have := i2 q' j (by omega) lj
              omega) (by omega)
          exact ⟨s', c', k1, k2, ((t3.tr g3).tr t6).tr k3, k4⟩
        by_cases y : r < nI (720720 / d) - s
        · rw [if_pos y]
          have y' := i_lt.mp y
          exact step _ (by omega)
        · rw [if_neg y]
          have y' : (nI (720720 / d) - s).toInt ≤ r.toInt := Int.not_lt.mp (fun x => y (i_lt.mpr x))
          exact step _ (by omega)
      · rw [if_neg z, if_pos t00]
        unfold f_X4_bestGain_117
        rw [lt_eq, nI_1]
        exact ihk (d + 1) F r c (by omega) (by omega) (by omega) hS i1 (fun y j hj lj => by
          by_cases e : j = d
          · subst e; exact absurd lj z
          · exact i2 y j (by omega) lj) i3
theorem bg (hn : n ≤ 7) (hk : ∀ i, i < n → kd i < 6) (hdu : ∀ i, i < n → due up lw i < 2 ^ 30) : ∀ (t : Nat), t ≤ 4 → ∀ (F a b : Nat) (v : Nat → Nat) (c : UU) (α β : Int32), t < F → a < n → b < n → DS n kd up lw v c → DW n up lw v → α.toInt < β.toInt → -(20000000 - 1000000 * (t : Int)) ≤ α.toInt → β.toInt ≤ 20000000 - 1000000 * (t : Int) → ∃ r c', f_X4_bestGain F (nI a) (nI b) (nI t) α β c = some (r, c') ∧ DS n kd up lw v c' ∧ Fs PV c c' ∧ WP α.toInt β.toInt r.toInt (val kd up lw t a b v) := by
  intro t
  induction t with
  | zero =>
    intro ht F a b v c α β hF ha hb hS hW h1 h2 h3
    obtain ⟨F, rfl⟩ : ∃ F0, F = F0 + 1 := ⟨F - 1, by omega⟩
    rw [f_X4_bestGain, f_X4_bestGain_body, if_neg (show ¬ (0 : Int32) < nI 0 by decide)]
    exact ⟨0, c, rfl, hS, Fs.rf, Or.inr (Or.inl rfl)⟩
  | succ t ih =>
    intro ht F a b v c α β hF ha hb hS hW h1 h2 h3
    obtain ⟨F, rfl⟩ : ∃ F0, F = F0 + 1 := ⟨F - 1, by omega⟩
    rw [f_X4_bestGain, f_X4_bestGain_body, if_pos (show (0 : Int32) < nI (t + 1) from nI_lt (a := 0) (by omega) (by omega)), c_fitV hn hS.1 ha (hS.2 a ha) (hk a ha) (hdu a ha), bd_some]
    by_cases e : t = 0
    · subst e
      have hfl : fitW kd up lw v a < 2 ^ 17 := mkn_lt _ _
      rw [if_pos (show nI (0 + 1) = (1 : Int32) from rfl)]
      rcases one_val (kd := kd) (up := up) (lw := lw) (v := v) (a := a) (b := b) rfl with ⟨e1, e2⟩ | ⟨d, d1, d2, d3, d4, d5⟩
      · rw [e1, if_pos (show nI 0 = (0 : Int32) from rfl)]
        refine ⟨0, c, rfl, hS, Fs.rf, Or.inr (Or.inl ?_)⟩
        rw [e2]
        rfl
      · have hx : ¬ nI (fitW kd up lw v a) = (0 : Int32) := by
          intro q
          have := (nI_eqi (a := fitW kd up lw v a) (b := 0) (by omega) (by omega)).mp q
          rw [this] at d3
          simp at d3
        rw [if_neg hx, tz_eq hfl d3 d4 (by omega), ps_eq (by omega) d2]
        refine ⟨_, c, rfl, hS, Fs.rf, Or.inr (Or.inl ?_)⟩
        rw [d5, nI_toInt (by have : 720720 / d ≤ 720720 := Nat.div_le_self _ _; omega)]
        rfl
    · rw [if_neg (show ¬ nI (t + 1) = (1 : Int32) from fun q => e (by have := (nI_eqi (a := t + 1) (b := 1) (by omega) (by omega)).mp q; omega))]
      exact bg_loop hn (t := t) (rc := f_X4_bestGain F) (by omega) (fun a b v c α β q1 q2 q3 q4 q5 q6 q7 => ih (by omega) F a b v c α β (by omega) q1 q2 q3 q4 q5 q6 q7) ha hb hW h1 (by omega) (by omega) 15 2 fu α c rfl (by omega) (by unfold fu; omega) hS (by omega) (fun _ j hj lj => by have := (fit_rng kd up lw lj).1; omega) (Or.inl rfl)
theorem gain_eq (hn : n ≤ 7) (hk : ∀ i, i < n → kd i < 6) (hdu : ∀ i, i < n → due up lw i < 2 ^ 30) {a b t : Nat} (ha : a < n) (hb : b < n) (ht : t ≤ 4) {v : Nat → Nat} {c : UU} (hS : DS n kd up lw v c) (hW : DW n up lw v) : ∃ r c', f_X4_gainByTurns (nI a) (nI b) (nI t) c = some (r, c') ∧ DS n kd up lw v c' ∧ Fs PV c c' ∧ r.toInt = val kd up lw t a b v := by
  unfold f_X4_gainByTurns
  obtain ⟨r, c', h1, h2, h3, h4⟩ := bg hn hk hdu t ht 20 a b v c (-(2882880 : Int32)) (2882880 : Int32) (by omega) ha hb hS hW (by decide) (by show _ ≤ (-2882880 : Int); omega) (by show (2882880 : Int) ≤ _; omega)
  rw [h1, bd_some]
  have hV := val_bd kd up lw t a b v
  unfold WP at h4
  rw [show (-(2882880 : Int32)).toInt = -2882880 from rfl, show (2882880 : Int32).toInt = 2882880 from rfl] at h4
  exact ⟨r, c', rfl, h2, h3, by omega⟩
end DU
