/-! duel: the model's picks and rounds -/
theorem subz (x : Int32) : x - 0 = x := by simp
theorem fit_iff {kd up lw : Nat → Nat} {v : Nat → Nat} {a d : Nat} (hd : 2 ≤ d) (hd2 : d ≤ 16) : (fitW kd up lw v a).testBit d = (decide (0 < v (1 + d)) && ((KM (kd a)).testBit d && (!(v (18 + a)).testBit d && decide (720720 / d ≤ due up lw a - Sm (v (18 + a)))))) := by
  unfold fitW fitN
  rw [mkn_bit, decide_eq_true (show d < 17 by omega), decide_eq_true hd, Bool.true_and, Bool.true_and]
def P4 (k _j : Nat) : Prop := k = 74
def P3 (k _j : Nat) : Prop := k = 73 ∨ k = 74
theorem P4.pm {u u' : UU} (h : Fs P4 u u') : Fs PM u u' := h.up (fun k j q => by unfold P4 at q; unfold PM; omega)
theorem P4.p3 {u u' : UU} (h : Fs P4 u u') : Fs P3 u u' := h.up (fun k j q => Or.inr q)
theorem P3.pm {u u' : UU} (h : Fs P3 u u') : Fs PM u u' := h.up (fun k j q => by unfold P3 at q; unfold PM; omega)
section PK
variable {n : Nat} {kd up lw : Nat → Nat} {v0 v : Nat → Nat} {u : UU} {i j d : Nat}
theorem pk_even (hn : n ≤ 7) (hi : i < n) (hkd : ui u 65 i = nI (kd i)) (k1 : kd i < 6) (hd : 2 ≤ d) (hd2 : d ≤ 16) (e68 : ui u 68 (1 + d) = nI (v0 (1 + d))) (e74 : ui u 74 d = nI (v0 (1 + d) - v (1 + d))) (hle : v (1 + d) ≤ v0 (1 + d)) (hv0 : v0 (1 + d) < 2 ^ 20) {A H : Nat} (hA : A = due up lw i - Sm (v (18 + i))) (hAl : A < 2 ^ 30) (hH : H = v (18 + i)) (hHl : H < 2 ^ 17) {K : Int32 → Int32 → Int32 → Int32 → Int32 → Int32 → Int32 → Int32 → Int32 → UU → Option (Int32 × UU)} {x3 x4 x6 x8 x9 : Int32} : f_X6_picked_118 K (nI i) (nI j) x3 x4 (nI A) x6 (nI H) x8 x9 (nI d) 1 (nI i) u = if (fitW kd up lw v i).testBit d = true then K (nI i) (nI j) x3 x4 (nI (A - 720720 / d)) x6 (nI (H ||| 2 ^ d)) x8 (x9 + 1) (si u 74 d (nI (v0 (1 + d) - v (1 + d)) + 1)) else some ((-1000000000 : Int32), u) := by
  have hp : 720720 / d ≤ 720720 := Nat.div_le_self _ _
  rw [fit_iff hd hd2, ← hA, ← hH]
  unfold f_X6_picked_118
  rw [ix_n (show i < 7 by omega) (by omega), nI_clamp (by omega), hkd, takesAs_eq k1 (by omega) hd, bd_some]
  by_cases a1 : (KM (kd i)).testBit d = true
  · rw [if_pos a1, if_neg n10, if_neg n10, a1]
    unfold f_X6_picked_147
    rw [has_eq (by omega) (by omega)]
    by_cases a2 : H.testBit d = true
    · rw [if_pos a2, if_neg n10, a2]
      unfold f_X6_picked_179 f_X6_picked_180
      rw [if_pos t00, if_neg (by simp)]
    have a2' : H.testBit d = false := by simpa using a2
    rw [if_neg a2, if_pos t00, if_neg n10, a2']
    unfold f_X6_picked_167
    rw [nz_n (by omega) (by omega), ps_div (by omega) hd2]
    by_cases a3 : 720720 / d ≤ A
    · rw [if_neg (nI_nlt a3 (by omega)), decide_eq_true a3]
      unfold f_X6_picked_180
      rw [if_neg n10, n1p, ix_n (show 1 + d < 25 by omega) (by omega), ix_n (show d < 17 by omega) (by omega), nI_clamp (by omega), nI_clamp (by omega), e68, e74]
      by_cases a4 : 0 < v (1 + d)
      · rw [decide_eq_true a4, if_neg (fun q => by have := (nI_eqi (by omega) (by omega)).mp q; omega), ix_n (show d < 17 by omega) (by omega), ix_n (show d < 17 by omega) (by omega), lt_eq, if_neg n10, nz_n (by omega) (by omega), ps_div (by omega) hd2, if_pos (by rfl)]
        unfold f_X6_picked_236
        rw [lt_eq, if_neg n10]
        unfold f_X6_picked_255
        rw [lt_eq, if_neg n10]
        unfold f_X6_picked_273
        rw [lt_eq, if_neg n10]
        unfold f_X6_picked_291 f_X6_picked_294
        rw [lt_eq, lt_eq, subz, or0, pk_sub a3, shl1 (by omega), fa_or]
      · rw [decide_eq_false a4, if_pos (show nI (v0 (1 + d)) = nI (v0 (1 + d) - v (1 + d)) by congr 1; omega), if_neg (by simp)]
    · rw [if_pos (nI_lt (by omega) (by omega)), decide_eq_false a3]
      unfold f_X6_picked_179 f_X6_picked_180
      rw [if_pos t00, if_neg (by simp)]
  · have a1' : (KM (kd i)).testBit d = false := by simpa using a1
    rw [if_neg a1, if_pos t00, a1']
    unfold f_X6_picked_179 f_X6_picked_180
    rw [if_pos t00, if_neg (by simp)]
theorem pk_odd (hn : n ≤ 7) (hi : j < n) (hkd : ui u 65 j = nI (kd j)) (k1 : kd j < 6) (hd : 2 ≤ d) (hd2 : d ≤ 16) (e68 : ui u 68 (1 + d) = nI (v0 (1 + d))) (e74 : ui u 74 d = nI (v0 (1 + d) - v (1 + d))) (hle : v (1 + d) ≤ v0 (1 + d)) (hv0 : v0 (1 + d) < 2 ^ 20) {A H : Nat} (hA : A = due up lw j - Sm (v (18 + j))) (hAl : A < 2 ^ 30) (hH : H = v (18 + j)) (hHl : H < 2 ^ 17) {K : Int32 → Int32 → Int32 → Int32 → Int32 → Int32 → Int32 → Int32 → Int32 → UU → Option (Int32 × UU)} {x3 x4 x5 x7 x9 : Int32} : f_X6_picked_118 K (nI i) (nI j) x3 x4 x5 (nI A) x7 (nI H) x9 (nI d) 0 (nI j) u = if (fitW kd up lw v j).testBit d = true then K (nI i) (nI j) x3 x4 x5 (nI (A - 720720 / d)) x7 (nI (H ||| 2 ^ d)) (x9 + 1) (si u 74 d (nI (v0 (1 + d) - v (1 + d)) + 1)) else some ((-1000000000 : Int32), u) := by
  have hp : 720720 / d ≤ 720720 := Nat.div_le_self _ _
  rw [fit_iff hd hd2, ← hA, ← hH]
  unfold f_X6_picked_118
  rw [ix_n (show j < 7 by omega) (by omega), nI_clamp (by omega), hkd, takesAs_eq k1 (by omega) hd, bd_some]
  by_cases a1 : (KM (kd j)).testBit d = true
  · rw [if_pos a1, if_neg n10, if_pos t00, a1]
    unfold f_X6_picked_147
    rw [has_eq (by omega) (by omega)]
    by_cases a2 : H.testBit d = true
    · rw [if_pos a2, if_neg n10, a2]
      unfold f_X6_picked_179 f_X6_picked_180
      rw [if_pos t00, if_neg (by simp)]
    have a2' : H.testBit d = false := by simpa using a2
    rw [if_neg a2, if_pos t00, if_pos t00, a2']
    unfold f_X6_picked_167
    rw [nz_n (by omega) (by omega), ps_div (by omega) hd2]
    by_cases a3 : 720720 / d ≤ A
    · rw [if_neg (nI_nlt a3 (by omega)), decide_eq_true a3]
      unfold f_X6_picked_180
      rw [if_neg n10, n1p, ix_n (show 1 + d < 25 by omega) (by omega), ix_n (show d < 17 by omega) (by omega), nI_clamp (by omega), nI_clamp (by omega), e68, e74]
      by_cases a4 : 0 < v (1 + d)
      · rw [decide_eq_true a4, if_neg (fun q => by have := (nI_eqi (by omega) (by omega)).mp q; omega), ix_n (show d < 17 by omega) (by omega), ix_n (show d < 17 by omega) (by omega), lt_eq, if_pos t00, if_pos (by rfl)]
        unfold f_X6_picked_236
        rw [lt_eq, if_pos t00, nz_n (by omega) (by omega), ps_div (by omega) hd2]
        unfold f_X6_picked_255
        rw [lt_eq, if_pos t00]
        unfold f_X6_picked_273
        rw [lt_eq, if_pos t00]
        unfold f_X6_picked_291 f_X6_picked_294
        rw [lt_eq, lt_eq, subz, or0, pk_sub a3, shl1 (by omega), fa_or]
      · rw [decide_eq_false a4, if_pos (show nI (v0 (1 + d)) = nI (v0 (1 + d) - v (1 + d)) by congr 1; omega), if_neg (by simp)]
    · rw [if_pos (nI_lt (by omega) (by omega)), decide_eq_false a3]
      unfold f_X6_picked_179 f_X6_picked_180
      rw [if_pos t00, if_neg (by simp)]
  · have a1' : (KM (kd j)).testBit d = false := by simpa using a1
    rw [if_neg a1, if_pos t00, a1']
    unfold f_X6_picked_179 f_X6_picked_180
    rw [if_pos t00, if_neg (by simp)]
end PK
section PL
variable {n : Nat} {kd up lw : Nat → Nat} {dm : Nat} {w : Nat → Nat → Nat} {kp : KP} {c m : UU} {i j : Nat}
def PSt (n : Nat) (up lw : Nat → Nat) (v0 : Nat → Nat) (i j : Nat) (v : Nat → Nat) (m u : UU) (x5 x6 x7 x8 : Int32) : Prop :=
  x5 = nI (due up lw i - Sm (v (18 + i))) ∧ x6 = nI (due up lw j - Sm (v (18 + j))) ∧ x7 = nI (v (18 + i)) ∧ x8 = nI (v (18 + j)) ∧ (∀ d, d < 17 → v (1 + d) ≤ v0 (1 + d) ∧ ui u 74 d = nI (v0 (1 + d) - v (1 + d))) ∧ DW n up lw v ∧ Fs P4 m u
theorem giveV_1 {v : Nat → Nat} {a d : Nat} : giveV v a d (1 + d) = v (1 + d) - 1 := by simp [giveV]
theorem giveV_h {v : Nat → Nat} {a d : Nat} (h : d ≤ 16) : giveV v a d (18 + a) = v (18 + a) + 2 ^ d := by unfold giveV; rw [if_neg (by omega), if_pos rfl]
theorem giveV_o {v : Nat → Nat} {a d k : Nat} (h1 : k ≠ 1 + d) (h2 : k ≠ 18 + a) : giveV v a d k = v k := by unfold giveV; rw [if_neg h1, if_neg h2]
theorem pick_loop (hB : TB n kd up lw dm w kp c m) (hW0 : DW n up lw (w dm)) (hi : i < n) (hj : j < n) (hij : i ≠ j) {T code : Nat} (hT : T ≤ 4) (hc : code < 2 ^ 31) : ∀ (t s F : Nat) (v : Nat → Nat) (u : UU) (x5 x6 x7 x8 : Int32), s + t = T → t < F → PSt n up lw (w dm) i j v m u x5 x6 x7 x8 → ∃ r u', f_X6_picked_63 F (nI i) (nI j) (nI code) (nI T) x5 x6 x7 x8 (nI s) u = some (r, u') ∧ r.toInt = leafV kd up lw i j (DV i j) t s code v ∧ Fs P4 m u' := by
  have h7 := hB.1.1
  intro t
  induction t with
  | zero =>
    intro s F v u x5 x6 x7 x8 hs hF hP
    obtain ⟨F, rfl⟩ : ∃ F0, F = F0 + 1 := ⟨F - 1, by omega⟩
    obtain ⟨rfl, rfl, rfl, rfl, p5, p6, p7⟩ := hP
    have hBu := hB.fs (Fs.rf (u := c)) (P4.pm p7)
    obtain ⟨i1, i2⟩ := p6.2 i hi
    obtain ⟨j1, j2⟩ := p6.2 j hj
    obtain ⟨-, -, k3, k4, -⟩ := hB.1.2.1 i hi
    obtain ⟨-, -, l3, l4, -⟩ := hB.1.2.1 j hj
    have d1 := due_lt (up := up) k4 k3
    have d2 := due_lt (up := up) l4 l3
    rw [f_X6_picked_63, if_pos (nI_le (by omega) (by omega)), m_due hBu hi, m_due hBu hj, bd_some, bd_some, pk_sub (by omega)]
    refine ⟨_, _, rfl, ?_, p7⟩
    have e1 : (nI (due up lw i - (due up lw i - Sm (v (18 + i))))).toInt = (Sm (v (18 + i)) : Int) := by
      rw [nI_toInt (by omega)]; omega
    have e2 : (nI (due up lw j)).toInt = (due up lw j : Int) := nI_toInt (by omega)
    have e3 : (nI (due up lw j - Sm (v (18 + j)))).toInt = (due up lw j : Int) - Sm (v (18 + j)) := by
      rw [nI_toInt (by omega)]; omega
    have e4 := i_sub (x := nI (due up lw i - (due up lw i - Sm (v (18 + i))))) (y := nI (due up lw j)) (by omega) (by omega)
    rw [i_add (by omega) (by omega), e4, e1, e2, e3, leafV]
    unfold DV
    omega
  | succ t ih =>
    intro s F v u x5 x6 x7 x8 hs hF hP
    obtain ⟨F, rfl⟩ : ∃ F0, F = F0 + 1 := ⟨F - 1, by omega⟩
    obtain ⟨rfl, rfl, rfl, rfl, p5, p6, p7⟩ := id hP
    have hBu := hB.fs (Fs.rf (u := c)) (P4.pm p7)
    have eq : ((nI code >>> (((4 : Int32) * ((nI T - (1 : Int32)) - nI s)) &&& (31 : Int32))) &&& (15 : Int32)) + (1 : Int32) = nI (code / 2 ^ (4 * t) % 16 + 1) := by
      rw [show nI T - (1 : Int32) = nI (T - 1) from pk_sub (b := 1) (by omega), pk_sub (by omega), show (4 : Int32) * nI (T - 1 - s) = nI (4 * (T - 1 - s)) from pk_mul 4 _, show T - 1 - s = t by omega, shr31 hc (by omega), show nI (code / 2 ^ (4 * t)) &&& (15 : Int32) = nI (code / 2 ^ (4 * t) % 2 ^ 4) from fa_mask _ 4, nI_1]
    have es : nI s - nI s / (2 : Int32) * (2 : Int32) = nI (s % 2) := nI_mod (b := 2) (by omega) (by omega) (by omega)
    rw [f_X6_picked_63, if_neg (nI_ge (by omega) (by omega)), eq, lt_eq, es, leafV]
    have hq : code / 2 ^ (4 * t) % 16 < 16 := Nat.mod_lt _ (by omega)
    generalize code / 2 ^ (4 * t) % 16 = q at hq ⊢
    by_cases q0 : q = 0
    · subst q0
      rw [if_pos rfl]
      have hps : ∀ t0 : Int32, f_X6_picked_100 (f_X6_picked_63 F) (nI i) (nI j) (nI code) (nI T) (nI (due up lw i - Sm (v (18 + i)))) (nI (due up lw j - Sm (v (18 + j)))) (nI (v (18 + i))) (nI (v (18 + j))) (nI s) (nI (0 + 1)) t0 u = f_X6_picked_63 F (nI i) (nI j) (nI code) (nI T) (nI (due up lw i - Sm (v (18 + i)))) (nI (due up lw j - Sm (v (18 + j)))) (nI (v (18 + i))) (nI (v (18 + j))) (nI (s + 1)) u := by
        intro t0
        unfold f_X6_picked_100
        rw [if_pos (show nI (0 + 1) < (2 : Int32) by decide)]
        unfold f_X6_picked_294
        rw [lt_eq, nI_1]
      rw [hps, hps, ite_self]
      exact ih (s + 1) F v u _ _ _ _ (by omega) (by omega) hP
    · rw [if_neg q0]
      obtain ⟨pl, pe⟩ := p5 (q + 1) (by omega)
      have hl0 := hW0.1 (q + 1) (by omega)
      have e68 : ui u 68 (1 + (q + 1)) = nI (w dm (1 + (q + 1))) := m_now hBu (by omega)
      have nl : ¬ nI (q + 1) < (2 : Int32) := (show ¬ nI (q + 1) < nI 2 from nI_nlt (by omega) (by omega))
      rcases Nat.mod_two_eq_zero_or_one s with e | e
      · have ea : actr i j s = i := by unfold actr; rw [if_pos e]
        have h2 : 2 ≤ q + 1 := by omega
        have h3 : q + 1 ≤ 16 := by omega
        obtain ⟨k1, -, k3, k4, -⟩ := hB.1.2.1 i hi
        have d1 := due_lt (up := up) k4 k3
        obtain ⟨w1, w2⟩ := p6.2 i hi
        rw [e, if_pos (show nI 0 = (0 : Int32) from rfl), ea]
        unfold f_X6_picked_100
        rw [if_neg nl, if_neg n10, pk_even (n := n) (kd := kd) (up := up) (lw := lw) (v0 := w dm) (v := v) h7 hi (hBu.2.2.1.2.2.1 i hi).1 k1 h2 h3 e68 pe pl hl0 rfl (by omega) rfl w1]
        by_cases z : (fitW kd up lw v i).testBit (q + 1) = true
        · obtain ⟨z1, z2, z3⟩ := fit_bit h2 h3 z
          have hpp := dvp h2 h3
          rw [if_pos z, if_pos z, nI_1, nI_1]
          exact ih (s + 1) F (giveV v i (q + 1)) _ _ _ _ _ (by omega) (by omega) ⟨by rw [giveV_h (by omega), Sm_add z2 h2 h3]; congr 1; generalize 720720 / (q + 1) = p at *; omega, by rw [giveV_o (by omega) (by omega)], by rw [giveV_h (by omega), pw_add z2], by rw [giveV_o (by omega) (by omega)], fun d hd => by
            by_cases y : d = q + 1
            · subst y
              rw [giveV_1, ui_si_r, if_pos ⟨rfl, rfl⟩]
              refine ⟨by omega, ?_⟩
              congr 1
              omega
            · rw [giveV_o (by omega) (by omega), ui_si_r, if_neg (fun x => y x.2)]
              exact p5 d hd, p6.give (kd := kd) hi h2 h3 z, p7.tr (Fs.si rfl)⟩
        · rw [if_neg z, if_neg z]
          exact ⟨_, _, rfl, rfl, p7⟩
      · have ea : actr i j s = j := by unfold actr; rw [if_neg (by omega)]
        have h2 : 2 ≤ q + 1 := by omega
        have h3 : q + 1 ≤ 16 := by omega
        obtain ⟨k1, -, k3, k4, -⟩ := hB.1.2.1 j hj
        have d1 := due_lt (up := up) k4 k3
        obtain ⟨w1, w2⟩ := p6.2 j hj
        rw [e, if_neg (show ¬ nI 1 = (0 : Int32) by decide), ea]
        unfold f_X6_picked_100
        rw [if_neg nl, if_pos t00, pk_odd (n := n) (kd := kd) (up := up) (lw := lw) (v0 := w dm) (v := v) h7 hj (hBu.2.2.1.2.2.1 j hj).1 k1 h2 h3 e68 pe pl hl0 rfl (by omega) rfl w1]
        by_cases z : (fitW kd up lw v j).testBit (q + 1) = true
        · obtain ⟨z1, z2, z3⟩ := fit_bit h2 h3 z
          have hpp := dvp h2 h3
          rw [if_pos z, if_pos z, nI_1, nI_1]
          exact ih (s + 1) F (giveV v j (q + 1)) _ _ _ _ _ (by omega) (by omega) ⟨by rw [giveV_o (by omega) (by omega)], by rw [giveV_h (by omega), Sm_add z2 h2 h3]; congr 1; generalize 720720 / (q + 1) = p at *; omega, by rw [giveV_o (by omega) (by omega)], by rw [giveV_h (by omega), pw_add z2], fun d hd => by
            by_cases y : d = q + 1
            · subst y
              rw [giveV_1, ui_si_r, if_pos ⟨rfl, rfl⟩]
              refine ⟨by omega, ?_⟩
              congr 1
              omega
            · rw [giveV_o (by omega) (by omega), ui_si_r, if_neg (fun x => y x.2)]
              exact p5 d hd, p6.give (kd := kd) hj h2 h3 z, p7.tr (Fs.si rfl)⟩
        · rw [if_neg z, if_neg z]
          exact ⟨_, _, rfl, rfl, p7⟩
end PL
