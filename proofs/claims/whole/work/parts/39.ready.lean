section Ready
variable {n : Nat} {kd up lw : Nat → Nat} {dm : Nat} {w : Nat → Nat → Nat} {kp : KP} {c m : UU}
theorem TB.fs {c' m' : UU} (h : TB n kd up lw dm w kp c m) (hc : Fs PC c c') (hm : Fs PM m m') : TB n kd up lw dm w kp c' m' := by
  obtain ⟨h1, h2, h3, h4⟩ := h
  have ec : ∀ k j, (11 ≤ k ∧ k ≤ 20) ∨ (22 ≤ k ∧ k ≤ 51) → ui c' k j = ui c k j := fun k j hk => hc.1 k j (by unfold PC; omega)
  exact ⟨h1, h2.cong (fun k j a b => ec k j (by omega)), h3.cong (hm.1 _ _ (by unfold PM; omega)) (hm.1 _ _ (by unfold PM; omega)) (fun k j a b => hm.1 _ _ (by unfold PM; omega)), fun k hk => ⟨fun q => by rw [ec _ _ (by omega)]; exact (h4 k hk).1 q, fun dk wk q => ⟨((h4 k hk).2 dk wk q).1, ((h4 k hk).2 dk wk q).2.cong (fun a j x y => ec a j (by omega))⟩⟩⟩
theorem up52 {c c' : UU} (h : Fs (fun k _ => k = 52) c c') : Fs PC c c' := h.up (fun k j q => by unfold PC; omega)
theorem up55 {m m' : UU} (h : Fs (fun k j => k = 55 ∧ 26 ≤ j ∧ j ≤ 29) m m') : Fs PM m m' := h.up (fun k j q => by unfold PM; omega)
def hv (kd up lw : Nat → Nat) (v : Nat → Nat) (X i : Nat) : Prop := ∃ x, sbm (andN (KM (kd i)) (v (18 + i)) &&& X) x ∧ Sm x = due up lw i - Sm (v (18 + i))
def PY (n : Nat) (kd up lw : Nat → Nat) (v : Nat → Nat) (X s : Nat) : Prop := s < 2 ^ n ∧ ∀ i, i < n → (s.testBit i = true ↔ hv kd up lw v X i)
theorem PY.uni {v : Nat → Nat} {X s s' : Nat} (h : PY n kd up lw v X s) (h' : PY n kd up lw v X s') : s = s' := by
  refine Nat.eq_of_testBit_eq fun i => ?_
  by_cases q : i < n
  · have e := (h.2 i q).trans (h'.2 i q).symm
    cases a : s.testBit i <;> cases b : s'.testBit i <;> simp [a, b] at e <;> rfl
  · rw [Nat.testBit_lt_two_pow (Nat.lt_of_lt_of_le h.1 (Nat.pow_le_pow_right (by omega) (by omega))), Nat.testBit_lt_two_pow (Nat.lt_of_lt_of_le h'.1 (Nat.pow_le_pow_right (by omega) (by omega)))]
/-- one worker -/
theorem one_look (hB : TB n kd up lw dm w kp c m) {i X : Nat} (hi : i < n) (hX : X < 2 ^ 17) : ∃ k b g c' m', f_X1_lookFor (ui c 17 i) (nI (andN (KM (kd i)) (w dm (18 + i)) &&& X)) c = some c' ∧ f_X6_isServed (nI i) (nI X) m = some (if k = 0 then 0 else 1, m') ∧ Lk (andN (KM (kd i)) (w dm (18 + i)) &&& X) (due up lw i - Sm (w dm (18 + i))) k b g c' m' ∧ Fs (fun k _ => k = 52) c c' ∧ Fs (fun k j => k = 55 ∧ 26 ≤ j ∧ j ≤ 29) m m' ∧ (0 < k ↔ hv kd up lw (w dm) X i) := by
  have h7 := hB.1.1
  have k6 := (hB.1.2.1 i hi).1
  have hd := due_lt (hB.1.2.1 i hi).2.2.2.1 (hB.1.2.1 i hi).2.2.1
  obtain ⟨k, b, g, c', m', a1, a2, a3, a4, a5, a6⟩ := looks (M := andN (KM (kd i)) (w dm (18 + i)) &&& X) (T := due up lw i - Sm (w dm (18 + i))) c m (and_lt17 (andN_lt17 (KM_lt _ k6))) (and4 (andN4 k6)) (by omega)
  refine ⟨k, b, g, c', m', ?_, ?_, a3, a4, a5, a6⟩
  · rw [show ui c 17 i = _ from (hB.2.1.2.2.2.2.2.1 i hi).2.2.2.2]
    exact a1
  · unfold f_X6_isServed
    have := a3.2.2.1
    rw [m_may hB hi, bd_some, m_lack hB hi, bd_some, fa_and, a2, bd_some, a3.2.1]
    by_cases z : k = 0
    · rw [if_pos z, if_pos (show nI k ≤ 0 by rw [z]; decide)]
    · rw [if_neg z, if_neg (nI_nle (by omega) (by omega))]
theorem pay_l {X : Nat} (hX : X < 2 ^ 17) : ∀ (d i F G a : Nat) (c m : UU), TB n kd up lw dm w kp c m → i + d = n → d < F → d < G → a < 2 ^ i → (∀ j, j < i → (a.testBit j = true ↔ hv kd up lw (w dm) X j)) → ∃ s c' m', f_X5_payableBy_4 F (nI X) (nI a) (nI i) c = some (nI s, c') ∧ f_X6_served_4 G (nI X) (nI a) (nI i) m = some (nI s, m') ∧ PY n kd up lw (w dm) X s ∧ Fs (fun k _ => k = 52) c c' ∧ Fs (fun k j => k = 55 ∧ 26 ≤ j ∧ j ≤ 29) m m' := by
  intro d
  induction d with
  | zero =>
    intro i F G a c m hB h1 h2 h3 h4 h5
    have h7 := hB.1.1
    obtain ⟨F, rfl⟩ : ∃ F0, F = F0 + 1 := ⟨F - 1, by omega⟩
    obtain ⟨G, rfl⟩ : ∃ G0, G = G0 + 1 := ⟨G - 1, by omega⟩
    rw [f_X5_payableBy_4, f_X6_served_4, hB.2.1.1, hB.2.2.1.1, if_pos (nI_le (by omega) (by omega)), if_pos (nI_le (by omega) (by omega))]
    obtain rfl : i = n := by omega
    exact ⟨a, c, m, rfl, rfl, ⟨h4, h5⟩, Fs.rf, Fs.rf⟩
  | succ d ih =>
    intro i F G a c m hB h1 h2 h3 h4 h5
    have h7 := hB.1.1
    obtain ⟨F, rfl⟩ : ∃ F0, F = F0 + 1 := ⟨F - 1, by omega⟩
    obtain ⟨G, rfl⟩ : ∃ G0, G = G0 + 1 := ⟨G - 1, by omega⟩
    have hi : i < n := by omega
    obtain ⟨k, b, g, c1, m1, a1, a2, a3, a4, a5, a6⟩ := one_look hB hi hX
    have hB1 := hB.fs (up52 a4) (up55 a5)
    have k15 := a3.2.2.1
    rw [f_X5_payableBy_4, f_X6_served_4, hB.2.1.1, hB.2.2.1.1, if_neg (nI_ge (by omega) (by omega)), if_neg (nI_ge (by omega) (by omega)), ix_n (by omega) (by omega), nI_clamp (by omega), c_open hB hi, bd_some, fa_and, a1, bd_some, a2, bd_some, a3.1]
    unfold f_X5_payableBy_59 f_X6_served_29
    rw [lt_eq, lt_eq, lt_eq, lt_eq, lt_eq, lt_eq, lt_eq, lt_eq, nI_1, shl1 (by omega)]
    dsimp only
    have ab : a.testBit i = false := Nat.testBit_lt_two_pow h4
    have pw : 2 ^ (i + 1) = 2 ^ i + 2 ^ i := by rw [Nat.pow_succ]; omega
    by_cases z : k = 0
    · rw [if_pos (show nI k ≤ 0 by rw [z]; decide), if_pos z, if_pos t00, show nI a ||| (0 : Int32) = nI (a ||| 0) from fa_or a 0, Nat.or_zero]
      obtain ⟨s, c', m', e1, e2, e3, e4, e5⟩ := ih (i + 1) F G a c1 m1 hB1 (by omega) (by omega) (by omega) (by omega) (fun j hj => by
        by_cases q : j = i
        · subst q
          rw [ab, ← a6]
          constructor
          · intro q; cases q
          · intro q; omega
        · exact h5 j (by omega))
      exact ⟨s, c', m', e1, e2, e3, a4.tr e4, a5.tr e5⟩
    · rw [if_neg (nI_nle (by omega) (by omega)), if_neg z, if_neg n10, fa_or, ← pw_add ab]
      obtain ⟨s, c', m', e1, e2, e3, e4, e5⟩ := ih (i + 1) F G (a + 2 ^ i) c1 m1 hB1 (by omega) (by omega) (by omega) (by omega) (fun j hj => by
        rw [pw_bit ab]
        by_cases q : j = i
        · subst q
          rw [← a6]
          constructor
          · intro _; omega
          · intro _; simp
        · rw [← h5 j (by omega)]
          simp [q])
      exact ⟨s, c', m', e1, e2, e3, a4.tr e4, a5.tr e5⟩
theorem pay (hB : TB n kd up lw dm w kp c m) {X : Nat} (hX : X < 2 ^ 17) : ∃ s c' m', f_X5_payableBy (nI X) c = some (nI s, c') ∧ f_X6_served (nI X) m = some (nI s, m') ∧ PY n kd up lw (w dm) X s ∧ s < 2 ^ 17 ∧ pc s ≤ 17 ∧ Fs (fun k _ => k = 52) c c' ∧ Fs (fun k j => k = 55 ∧ 26 ≤ j ∧ j ≤ 29) m m' := by
  have h7 := hB.1.1
  obtain ⟨s, c', m', e1, e2, e3, e4, e5⟩ := pay_l hX n 0 fu fu 0 c m hB (by omega) (by unfold fu; omega) (by unfold fu; omega) (by simp) (fun j hj => absurd hj (by omega))
  refine ⟨s, c', m', e1, e2, e3, ?_, pc_le17 s, e4, e5⟩
  exact Nat.lt_of_lt_of_le e3.1 (Nat.pow_le_pow_right (by omega) (by omega))
theorem op_ready (h : Inv c m) : Ok (f_X5_ready c) (f_X6_ready m) := by
  obtain ⟨n, kd, up, lw, dm, w, kp, hB⟩ := h.2.2.2.2
  have h7 := hB.1.1
  have hly : lyM (w dm) < 2 ^ 17 := mkn_lt _ _
  unfold f_X5_ready f_X6_ready
  rw [hB.2.1.1, hB.2.2.1.1]
  by_cases z : n = 0
  · rw [if_pos (by rw [z]; rfl), if_pos (by rw [z]; rfl)]
    exact Ok.same h _
  obtain ⟨s, c', m', e1, e2, e3, e4, e5, e6, e7⟩ := pay hB hly
  rw [if_neg (nI_ne0 (by omega) (by omega)), if_neg (nI_ne0 (by omega) (by omega)), show ui c 11 4 = _ from hB.2.1.2.2.2.1, e1, bd_some, m_lying hB, bd_some, e2, bd_some]
  dsimp only
  rw [bits_eq e4, bd_some, bitCount_eq e4, lt_eq, m_tells]
  exact Ok.told (h.look e6 e7) _ _
theorem best_l {s0 : Nat} (h0 : PY n kd up lw (w dm) (lyM (w dm)) s0) : ∀ (d i F G B : Nat) (x : Int32) (c m : UU), Inv c m → TB n kd up lw dm w kp c m → i + d = 17 → 2 ≤ i → d < F → d < G → B ≤ 17 → pc s0 ≤ B → Ok (f_X5_best_33 F (nI B) x (nI i) c) (f_X6_best_32 G (nI (lyM (w dm))) x (nI B) (nI i) m) := by
  have hly : lyM (w dm) < 2 ^ 17 := mkn_lt _ _
  intro d
  induction d with
  | zero =>
    intro i F G B x c m h hB h1 h2 h3 h4 h5 h6
    obtain ⟨F, rfl⟩ : ∃ F0, F = F0 + 1 := ⟨F - 1, by omega⟩
    obtain ⟨G, rfl⟩ : ∃ G0, G = G0 + 1 := ⟨G - 1, by omega⟩
    rw [f_X5_best_33, f_X6_best_32, if16 (by omega), if16 (by omega), if_pos (show 17 ≤ i by omega), if_pos (show 17 ≤ i by omega)]
    by_cases z : x = -9
    · rw [if_pos z, if_pos z, z]
      exact Ok.same h _
    · rw [if_neg z, if_neg z, lt_eq, m_tells]
      exact Ok.told h _ _
  | succ d ih =>
    intro i F G B x c m h hB h1 h2 h3 h4 h5 h6
    obtain ⟨F, rfl⟩ : ∃ F0, F = F0 + 1 := ⟨F - 1, by omega⟩
    obtain ⟨G, rfl⟩ : ∃ G0, G = G0 + 1 := ⟨G - 1, by omega⟩
    have hX : lyM (w dm) ||| 2 ^ i < 2 ^ 17 := Nat.or_lt_two_pow hly (Nat.pow_lt_pow_right (by omega) (by omega))
    obtain ⟨s, c', m', e1, e2, e3, e4, e5, e6, e7⟩ := pay hB hX
    rw [f_X5_best_33, f_X6_best_32, if16 (by omega), if16 (by omega), if_neg (show ¬ 17 ≤ i by omega), if_neg (show ¬ 17 ≤ i by omega), show ui c 11 4 = _ from hB.2.1.2.2.2.1, shl1 (by omega), fa_or, e1, bd_some, has_eq (by omega) (by omega), e2, bd_some]
    dsimp only
    rw [bitCount_eq e4, bits_eq e4, bd_some, lt_eq]
    unfold f_X5_best_70 f_X6_best_65 f_X6_best_79 f_X6_best_92
    simp only [lt_eq, nI_1]
    have hT' := hB.fs (up52 e6) (up55 e7)
    by_cases q : (lyM (w dm)).testBit i = true
    · have eX : lyM (w dm) ||| 2 ^ i = lyM (w dm) := by
        refine Nat.eq_of_testBit_eq fun j => ?_
        rw [Nat.testBit_or]
        by_cases r : j = i
        · rw [r, q]; rfl
        · rw [Nat.testBit_two_pow_of_ne (fun e => r e.symm), Bool.or_false]
      rw [eX] at e3
      have es := e3.uni h0
      have hz : (0 : Int32) ≤ nI B := nI_ge0 (by omega)
      rw [if_pos q, if_neg n10, if_pos (nI_le (show pc s ≤ B by rw [es]; exact h6) (by omega)), if_pos hz, if_pos hz]
      exact ih (i + 1) F G B x c' m (h.fs (up52 e6) Fs.rf) (hB.fs (up52 e6) Fs.rf) (by omega) (by omega) (by omega) (by omega) h5 h6
    · rw [if_neg q, if_pos rfl]
      have hI := h.look e6 e7
      by_cases r : pc s ≤ B
      · have rl : nI (pc s) ≤ nI B := nI_le r (by omega)
        rw [if_pos rl, if_pos rl, if_pos rl]
        exact ih (i + 1) F G B x c' m' hI hT' (by omega) (by omega) (by omega) (by omega) h5 h6
      · have rl : ¬ nI (pc s) ≤ nI B := nI_ge (by omega) (by omega)
        rw [if_neg rl, if_neg rl, if_neg rl]
        exact ih (i + 1) F G (pc s) (nI i) c' m' hI hT' (by omega) (by omega) (by omega) (by omega) e5 (by omega)
theorem op_best (h : Inv c m) : Ok (f_X5_best c) (f_X6_best m) := by
  obtain ⟨n, kd, up, lw, dm, w, kp, hB⟩ := h.2.2.2.2
  have h7 := hB.1.1
  have hly : lyM (w dm) < 2 ^ 17 := mkn_lt _ _
  have hb0 := (wf_now hB).1
  unfold f_X5_best f_X6_best
  rw [c_canCut hB, bd_some, i0, c0, m_now hB (by omega)]
  by_cases z : w dm 0 = 0
  · rw [if_pos z, if_pos t00, z, if_pos (show nI 0 = 0 from rfl)]
    exact Ok.same h _
  obtain ⟨s, c', m', e1, e2, e3, e4, e5, e6, e7⟩ := pay hB hly
  rw [if_neg z, if_neg n10, if_neg (nI_ne0 (by omega) (by omega)), show ui c 11 4 = _ from hB.2.1.2.2.2.1, e1, bd_some, m_lying hB, bd_some, e2, bd_some]
  dsimp only
  rw [bits_eq e4, bd_some, bitCount_eq e4, lt_eq]
  exact best_l e3 15 2 fu fu (pc s) (-9) c' m' (h.look e6 e7) (hB.fs (up52 e6) (up55 e7)) (by omega) (by omega) (by unfold fu; omega) (by unfold fu; omega) e5 (Nat.le_refl _)
end Ready
