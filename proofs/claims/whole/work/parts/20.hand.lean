/-! parts to a hand and back: the class's table as it lies -/
def CV (n : Nat) (up lw : Nat → Nat) (v : Nat → Nat) (c : UU) : Prop :=
  ui c 11 1 = nI (v 0) ∧ ui c 11 4 = nI (lyM v) ∧ (∀ d, d < 17 → ui c 12 d = nI (v (1 + d))) ∧ ∀ i, i < n → ui c 16 i = nI (v (18 + i)) ∧ ui c 17 i = nI (due up lw i - Sm (v (18 + i)))
def PV (k j : Nat) : Prop := (k = 11 ∧ (j = 1 ∨ j = 4)) ∨ k = 12 ∨ k = 16 ∨ k = 17
theorem pw_add {h d : Nat} (hb : h.testBit d = false) : h + 2 ^ d = h ||| 2 ^ d := by
  have h1 : h % 2 ^ d < 2 ^ d := Nat.mod_lt _ (Nat.two_pow_pos d)
  have h2 : (h / 2 ^ d) % 2 = 0 := by
    have := tb_dm h d
    rw [hb] at this
    have := of_decide_eq_false this.symm
    omega
  obtain ⟨q, hq⟩ : ∃ q, h / 2 ^ d = 2 * q := ⟨h / 2 ^ d / 2, by omega⟩
  have e : h = 2 ^ d * (2 * q) + h % 2 ^ d := by rw [← hq]; exact (Nat.div_add_mod h (2 ^ d)).symm
  generalize h % 2 ^ d = r at h1 e
  subst e
  have e2 : 2 ^ d * (2 * q) + r + 2 ^ d = 2 ^ d * (2 * q + 1) + r := by rw [Nat.mul_add]; omega
  rw [e2]
  apply Nat.eq_of_testBit_eq
  intro i
  rw [Nat.testBit_or, Nat.testBit_two_pow_mul_add _ h1, Nat.testBit_two_pow_mul_add _ h1]
  by_cases hi : i < d
  · rw [if_pos hi, if_pos hi, Nat.testBit_two_pow_of_ne (by omega)]
    simp
  · rw [if_neg hi, if_neg hi]
    by_cases hd : i = d
    · subst hd
      simp [Nat.testBit_zero]
    · rw [Nat.testBit_two_pow_of_ne (by omega)]
      obtain ⟨t, rfl⟩ : ∃ t, i = d + (t + 1) := ⟨i - d - 1, by omega⟩
      rw [show d + (t + 1) - d = t + 1 by omega, Nat.testBit_succ, Nat.testBit_succ, show (2 * q + 1) / 2 = q by omega, show 2 * q / 2 = q by omega]
      simp
theorem pw_bit {h d i : Nat} (hb : h.testBit d = false) : (h + 2 ^ d).testBit i = (h.testBit i || decide (i = d)) := by
  rw [pw_add hb, Nat.testBit_or]
  by_cases e : i = d
  · subst e; simp
  · rw [Nat.testBit_two_pow_of_ne (Ne.symm e)]; simp [e]
theorem andN_one {h d : Nat} (hb : h.testBit d = true) (hh : h < 2 ^ 17) : andN h (2 ^ d) = h - 2 ^ d ∧ 2 ^ d ≤ h ∧ (h - 2 ^ d).testBit d = false := by
  have hle : 2 ^ d ≤ h := Nat.ge_two_pow_of_testBit hb
  have hd : d < 17 := by
    rcases Nat.lt_or_ge d 17 with q | q
    · exact q
    · rw [tb_big hh q] at hb; cases hb
  have e1 : (andN h (2 ^ d)).testBit d = false := by
    rw [andN_bit (by omega)]
    simp
  have e2 : andN h (2 ^ d) + 2 ^ d = h := by
    rw [pw_add e1]
    apply Nat.eq_of_testBit_eq
    intro i
    by_cases hi : i < 32
    · rw [Nat.testBit_or, andN_bit hi]
      by_cases e : i = d
      · subst e; simp [hb]
      · rw [Nat.testBit_two_pow_of_ne (Ne.symm e)]; simp
    · rw [Nat.testBit_or, tb_big (andN_lt17 hh) (by omega), tb_big hh (by omega), Nat.testBit_two_pow_of_ne (by omega)]
      rfl
  have e3 : andN h (2 ^ d) = h - 2 ^ d := by omega
  exact ⟨e3, hle, by rw [← e3]; exact e1⟩
theorem smn_add {h d : Nat} (hb : h.testBit d = false) (h2 : 2 ≤ d) : ∀ n, smn (h + 2 ^ d) n = smn h n + if d < n then 720720 / d else 0
  | 0 => rfl
  | n + 1 => by
    rw [smn, smn, smn_add hb h2 n, pw_bit hb]
    by_cases e : n = d
    · subst e
      rw [hb]
      simp [h2]
    · have : decide (n = d) = false := by simpa using e
      rw [this, Bool.or_false]
      by_cases q : d < n
      · rw [if_pos q, if_pos (show d < n + 1 by omega)]; omega
      · rw [if_neg q, if_neg (show ¬ d < n + 1 by omega)]; omega
theorem Sm_add {h d : Nat} (hb : h.testBit d = false) (h2 : 2 ≤ d) (h3 : d ≤ 16) : Sm (h + 2 ^ d) = Sm h + 720720 / d := by
  have := smn_add hb h2 17
  rwa [if_pos (by omega)] at this
theorem mod4_lo {h : Nat} (h4 : h % 4 = 0) : h.testBit 0 = false ∧ h.testBit 1 = false := by
  constructor
  · rw [tb_dm]; simp; omega
  · rw [tb_dm]; simp; omega
theorem pw4 {d : Nat} (h : 2 ≤ d) : 2 ^ d % 4 = 0 := by
  obtain ⟨t, rfl⟩ : ∃ t, d = t + 2 := ⟨d - 2, by omega⟩
  rw [Nat.pow_add]
  omega
theorem add_lt17 {h d : Nat} (hb : h.testBit d = false) (hh : h < 2 ^ 17) (hd : d ≤ 16) : h + 2 ^ d < 2 ^ 17 := by
  rw [pw_add hb]
  exact Nat.or_lt_two_pow hh (Nat.pow_lt_pow_right (by omega) (by omega))
theorem lyM_lt {v : Nat → Nat} : lyM v < 2 ^ 17 := mkn_lt _ _
theorem lyM_upd {v v' : Nat → Nat} {d : Nat} (h2 : 2 ≤ d) (h3 : d ≤ 16) (he : ∀ k, k ≠ d → k < 17 → v' (1 + k) = v (1 + k)) : lyM v' = if v' (1 + d) = 0 then andN (lyM v) (2 ^ d) else lyM v ||| 2 ^ d := by
  have hp : (2 : Nat) ^ d < 2 ^ 17 := Nat.pow_lt_pow_right (by omega) (by omega)
  by_cases q : v' (1 + d) = 0
  · rw [if_pos q]
    apply bits_ext lyM_lt (andN_lt17 lyM_lt)
    intro i hi
    rw [andN_bit (by omega), mkn_bit, mkn_bit]
    by_cases e : i = d
    · subst e; simp [q]
    · rw [Nat.testBit_two_pow_of_ne (Ne.symm e), he i e hi]; simp
  · rw [if_neg q]
    apply bits_ext lyM_lt (Nat.or_lt_two_pow lyM_lt hp)
    intro i hi
    rw [Nat.testBit_or, mkn_bit, mkn_bit]
    by_cases e : i = d
    · subst e
      simp [hi, h2]
      omega
    · rw [Nat.testBit_two_pow_of_ne (Ne.symm e), he i e hi]; simp
theorem chgL {u : UU} {d a a' M : Nat} {x : Int32} (h2 : 2 ≤ d) (h3 : d ≤ 16) (hl : ui u 12 d = nI a) (hs : ui u 11 4 = nI M) (ha : nI a + x = nI a') (ha' : a' < 2 ^ 31) : f_X4_changeLying (nI d) x u = some (si (si u 12 d (nI a')) 11 4 (nI (if a' = 0 then andN M (2 ^ d) else M ||| 2 ^ d))) := by
  have e1 : ui (si u 12 d (nI a')) 12 d = nI a' := by simp [ui_si_r]
  have e2 : ui (si u 12 d (nI a')) 11 4 = nI M := by simp [ui_si_r, hs]
  unfold f_X4_changeLying
  rw [ix_n (show d < 17 by omega) (by omega), ix_n (show d < 17 by omega) (by omega), nI_clamp (by omega), hl, ha, lt_eq, ix_n (show d < 17 by omega) (by omega), e1, e2, shl1 (by omega)]
  unfold f_X4_changeLying_41
  by_cases q : a' = 0
  · rw [if_pos (by rw [q]; decide), if_pos q, andN_eq, lt_eq]
  · rw [if_neg (nI_nle (by omega) ha'), if_neg q, fa_or, lt_eq]
theorem ps_eq {d : Nat} (h : 1 ≤ d) (h2 : d ≤ 16) : f_X5_partSize (nI d) = nI (720720 / d) := by
  unfold f_X5_partSize
  rw [if_neg (nI_nle (by omega) (by omega)), ps_div h h2]
section HD
variable {n : Nat} {up lw : Nat → Nat} {v v' : Nat → Nat} {c : UU}
theorem CV_hand {i d : Nat} (h : CV n up lw v c) (h2 : 2 ≤ d) (h3 : d ≤ 16) (e0 : v' 0 = v 0) (ek : ∀ k, k ≠ d → k < 17 → v' (1 + k) = v (1 + k)) (eh : ∀ k, k ≠ i → v' (18 + k) = v (18 + k)) : CV n up lw v' (si (si (si (si c 12 d (nI (v' (1 + d)))) 11 4 (nI (if v' (1 + d) = 0 then andN (lyM v) (2 ^ d) else lyM v ||| 2 ^ d))) 16 i (nI (v' (18 + i)))) 17 i (nI (due up lw i - Sm (v' (18 + i))))) := by
  obtain ⟨c1, c2, c3, c4⟩ := h
  refine ⟨?_, ?_, fun k hk => ?_, fun k hk => ?_⟩
  · simp [ui_si_r, c1, e0]
  · rw [lyM_upd (v := v) h2 h3 ek]
    simp [ui_si_r]
  · by_cases e : k = d
    · subst e; simp [ui_si_r]
    · simp [ui_si_r, e, c3 k hk, ek k e hk]
  · by_cases e : k = i
    · subst e; simp [ui_si_r]
    · simp [ui_si_r, e, c4 k hk, eh k e]
theorem hand_fs {c : UU} {d i : Nat} {A B C D : Int32} : Fs PV c (si (si (si (si c 12 d A) 11 4 B) 16 i C) 17 i D) := ((((Fs.si (by unfold PV; omega)).tr (Fs.si (by unfold PV; omega))).tr (Fs.si (by unfold PV; omega))).tr (Fs.si (by unfold PV; omega)))
theorem c_toHand {i d : Nat} (h : CV n up lw v c) (hn : n ≤ 7) (hi : i < n) (h2 : 2 ≤ d) (h3 : d ≤ 16) (h1 : 1 ≤ v (1 + d)) (hv : v (1 + d) < 2 ^ 30) (hb : (v (18 + i)).testBit d = false) (hs : Sm (v (18 + i)) + 720720 / d ≤ due up lw i) : ∃ c', f_X4_toHand (nI i) (nI d) c = some c' ∧ CV n up lw (giveV v i d) c' ∧ Fs PV c c' := by
  obtain ⟨c1, c2, c3, c4⟩ := id h
  obtain ⟨c5, c6⟩ := c4 i hi
  have g1 : giveV v i d (1 + d) = v (1 + d) - 1 := by simp [giveV]
  have g2 : giveV v i d (18 + i) = v (18 + i) + 2 ^ d := by unfold giveV; rw [if_neg (by omega), if_pos rfl]
  have key := CV_hand (i := i) (v' := giveV v i d) h h2 h3 (by simp only [giveV]; rw [if_neg (by omega), if_neg (by omega)]) (fun k e hk => by simp only [giveV]; rw [if_neg (by omega), if_neg (by omega)]) (fun k e => by simp only [giveV]; rw [if_neg (by omega), if_neg (by omega)])
  rw [g1, g2, Sm_add hb h2 h3] at key
  refine ⟨_, ?_, key, hand_fs⟩
  unfold f_X4_toHand
  rw [chgL (a := v (1 + d)) (a' := v (1 + d) - 1) h2 h3 (c3 d (by omega)) c2 (by
    obtain ⟨t, ht⟩ : ∃ t, v (1 + d) = t + 1 := ⟨v (1 + d) - 1, by omega⟩
    rw [ht]
    exact pk_m1 t) (by omega), bd_some, ix_n (show i < 7 by omega) (by omega), ix_n (show i < 7 by omega) (by omega), nI_clamp (by omega), lt_eq, ix_n (show i < 7 by omega) (by omega), ix_n (show i < 7 by omega) (by omega), lt_eq]
  generalize nI (if v (1 + d) - 1 = 0 then andN (lyM v) (2 ^ d) else lyM v ||| 2 ^ d) = B
  generalize nI (v (1 + d) - 1) = A
  have e16 : ui (si (si c 12 d A) 11 4 B) 16 i = nI (v (18 + i)) := by simp [ui_si_r, c5]
  rw [e16, shl1 (by omega), fa_or, ← pw_add hb]
  generalize nI (v (18 + i) + 2 ^ d) = C
  have e17 : ui (si (si (si c 12 d A) 11 4 B) 16 i C) 17 i = nI (due up lw i - Sm (v (18 + i))) := by simp [ui_si_r, c6]
  rw [e17, ps_eq (by omega) h3, pk_sub (by omega), show due up lw i - Sm (v (18 + i)) - 720720 / d = due up lw i - (Sm (v (18 + i)) + 720720 / d) by omega]
theorem c_fromHand {i d : Nat} (h : CV n up lw v c) (hn : n ≤ 7) (hi : i < n) (h2 : 2 ≤ d) (h3 : d ≤ 16) (hv : v (1 + d) < 2 ^ 30) (hm : v (18 + i) < 2 ^ 17) (hb : (v (18 + i)).testBit d = true) (hs : Sm (v (18 + i)) ≤ due up lw i) : ∃ c', f_X4_fromHand (nI i) (nI d) c = some c' ∧ CV n up lw (backV v i d) c' ∧ Fs PV c c' := by
  obtain ⟨c1, c2, c3, c4⟩ := id h
  obtain ⟨c5, c6⟩ := c4 i hi
  obtain ⟨w1, w2, w3⟩ := andN_one hb hm
  have w4 : Sm (v (18 + i)) = Sm (v (18 + i) - 2 ^ d) + 720720 / d := by
    have := Sm_add w3 h2 h3
    rwa [Nat.sub_add_cancel w2] at this
  have w5 : due up lw i - Sm (v (18 + i)) + 720720 / d = due up lw i - Sm (v (18 + i) - 2 ^ d) := by
    have := hs
    rw [w4] at this ⊢
    generalize 720720 / d = p at this ⊢
    omega
  have g1 : backV v i d (1 + d) = v (1 + d) + 1 := by simp [backV]
  have g2 : backV v i d (18 + i) = v (18 + i) - 2 ^ d := by unfold backV; rw [if_neg (by omega), if_pos rfl]
  have key := CV_hand (i := i) (v' := backV v i d) h h2 h3 (by simp only [backV]; rw [if_neg (by omega), if_neg (by omega)]) (fun k e hk => by simp only [backV]; rw [if_neg (by omega), if_neg (by omega)]) (fun k e => by simp only [backV]; rw [if_neg (by omega), if_neg (by omega)])
  rw [g1, g2] at key
  refine ⟨_, ?_, key, hand_fs⟩
  unfold f_X4_fromHand
  rw [chgL (a := v (1 + d)) (a' := v (1 + d) + 1) h2 h3 (c3 d (by omega)) c2 (nI_1 _) (by omega), bd_some, ix_n (show i < 7 by omega) (by omega), ix_n (show i < 7 by omega) (by omega), nI_clamp (by omega), lt_eq, ix_n (show i < 7 by omega) (by omega), ix_n (show i < 7 by omega) (by omega), lt_eq]
  generalize nI (if v (1 + d) + 1 = 0 then andN (lyM v) (2 ^ d) else lyM v ||| 2 ^ d) = B
  generalize nI (v (1 + d) + 1) = A
  have e16 : ui (si (si c 12 d A) 11 4 B) 16 i = nI (v (18 + i)) := by simp [ui_si_r, c5]
  rw [e16, shl1 (by omega), andN_eq, w1]
  generalize nI (v (18 + i) - 2 ^ d) = C
  have e17 : ui (si (si (si c 12 d A) 11 4 B) 16 i C) 17 i = nI (due up lw i - Sm (v (18 + i))) := by simp [ui_si_r, c6]
  rw [e17, ps_eq (by omega) h3, nI_add, w5]
end HD
