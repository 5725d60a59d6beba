section PL2
variable {n : Nat} {kd up lw : Nat → Nat} {dm : Nat} {w : Nat → Nat → Nat} {kp : KP} {c m : UU} {i j : Nat}
theorem pick_zero {x1 x2 x3 x4 : Int32} : ∀ (k d F : Nat) (u : UU), d + k = 17 → k < F → (∀ e, e < d → ui u 74 e = 0) → ∃ F' u', f_X6_picked_3 F x1 x2 x3 x4 (nI d) u = f_X6_picked_3 (F' + 1) x1 x2 x3 x4 (nI 17) u' ∧ Fs P4 u u' ∧ ∀ e, e < 17 → ui u' 74 e = 0 := by
  intro k
  induction k with
  | zero =>
    intro d F u hd hF h
    obtain ⟨F, rfl⟩ : ∃ F0, F = F0 + 1 := ⟨F - 1, by omega⟩
    obtain rfl : d = 17 := by omega
    exact ⟨F, u, rfl, Fs.rf, h⟩
  | succ k ih =>
    intro d F u hd hF h
    obtain ⟨F, rfl⟩ : ∃ F0, F = F0 + 1 := ⟨F - 1, by omega⟩
    rw [f_X6_picked_3, if_neg (fun q => by have := (gt16 (show d ≤ 17 by omega)).mp q; omega), ix_n (show d < 17 by omega) (by omega), nI_clamp (by omega), lt_eq, lt_eq, nI_1]
    obtain ⟨F', u', h1, h2, h3⟩ := ih (d + 1) F (si u 74 d 0) (by omega) (by omega) (fun e he => by
      rw [ui_si_r]
      by_cases q : e = d
      · rw [if_pos ⟨rfl, q⟩]
      · rw [if_neg (fun z => q z.2)]; exact h e (by omega))
    exact ⟨F', u', h1, Fs.tr (P := P4) (Fs.si rfl) h2, h3⟩
theorem picked_eq (hB : TB n kd up lw dm w kp c m) (hW0 : DW n up lw (w dm)) (hi : i < n) (hj : j < n) (hij : i ≠ j) {T code : Nat} (hT : T ≤ 4) (hc : code < 2 ^ 31) : ∃ r u', f_X6_picked (nI i) (nI j) (nI code) (nI T) m = some (r, u') ∧ r.toInt = leafV kd up lw i j (DV i j) T 0 code (w dm) ∧ Fs P4 m u' := by
  have h7 := hB.1.1
  obtain ⟨F', u, h1, h2, h3⟩ := pick_zero (x1 := nI i) (x2 := nI j) (x3 := nI code) (x4 := nI T) 17 0 fu m rfl (by unfold fu; omega) (fun e he => by omega)
  have hBu := hB.fs (Fs.rf (u := c)) (P4.pm h2)
  unfold f_X6_picked
  rw [show (0 : Int32) = nI 0 from rfl, h1, f_X6_picked_3, if_pos (show (16 : Int32) < nI 17 by decide), m_lack hBu hi, m_lack hBu hj, bd_some, bd_some, n18, ix_n (show 18 + i < 25 by omega) (by omega), nI_clamp (by omega), lt_eq, n18, ix_n (show 18 + j < 25 by omega) (by omega), nI_clamp (by omega), lt_eq, m_now hBu (by omega), m_now hBu (by omega)]
  exact pick_loop hB hW0 hi hj hij hT hc T 0 fu (w dm) u _ _ _ _ (by omega) (by unfold fu; omega) ⟨rfl, rfl, rfl, rfl, fun d hd => ⟨Nat.le_refl _, by rw [h3 d hd, Nat.sub_self]; rfl⟩, hW0, h2⟩
theorem p16 (s : Nat) : 2 ^ (4 * (s + 1)) = 16 * 2 ^ (4 * s) := by rw [show 4 * (s + 1) = 4 + 4 * s by omega, Nat.pow_add]
theorem p16_le {s : Nat} (h : s ≤ 4) : 2 ^ (4 * s) ≤ 65536 := Nat.le_trans (Nat.pow_le_pow_right (by omega) (show 4 * s ≤ 16 by omega)) (by decide)
theorem p16_le3 {s : Nat} (h : s ≤ 3) : 2 ^ (4 * s) ≤ 4096 := Nat.le_trans (Nat.pow_le_pow_right (by omega) (show 4 * s ≤ 12 by omega)) (by decide)
theorem duel_fill (hB : TB n kd up lw dm w kp c m) (hW0 : DW n up lw (w dm)) (hi : i < n) (hj : j < n) (hij : i ≠ j) {T : Nat} (hT : T ≤ 4) : ∀ (k code F : Nat) (u : UU), code + k = 2 ^ (4 * T) → k < F → Fs P3 m u → (∀ e, e < code → (ui u 73 e).toInt = leafV kd up lw i j (DV i j) T 0 e (w dm)) → ∃ u', f_X6_duel_42 F (nI i) (nI j) (nI T) (nI (2 ^ (4 * T))) (nI code) u = f_X6_duel_76 fu (nI (2 ^ (4 * T))) (nI T - 1) u' ∧ Fs P3 m u' ∧ ∀ e, e < 2 ^ (4 * T) → (ui u' 73 e).toInt = leafV kd up lw i j (DV i j) T 0 e (w dm) := by
  have hp := p16_le hT
  intro k
  induction k with
  | zero =>
    intro code F u hc hF hu h
    obtain ⟨F, rfl⟩ : ∃ F0, F = F0 + 1 := ⟨F - 1, by omega⟩
    rw [f_X6_duel_42, if_pos (nI_le (by omega) (by omega)), lt_eq]
    exact ⟨u, rfl, hu, fun e he => h e (by omega)⟩
  | succ k ih =>
    intro code F u hc hF hu h
    obtain ⟨F, rfl⟩ : ∃ F0, F = F0 + 1 := ⟨F - 1, by omega⟩
    have hBu := hB.fs (Fs.rf (u := c)) (P3.pm hu)
    obtain ⟨r, u1, h1, h2, h3⟩ := picked_eq hBu hW0 hi hj hij (T := T) (code := code) hT (by omega)
    rw [f_X6_duel_42, if_neg (nI_ge (by omega) (by omega)), h1, bd_some, ix_n (show code < 65536 by omega) (by omega), nI_clamp (by omega), lt_eq, lt_eq, nI_1]
    refine ih (code + 1) F _ (by omega) (by omega) ((hu.tr (P4.p3 h3)).tr (Fs.si (Or.inl rfl))) (fun e he => ?_)
    rw [ui_si_r]
    by_cases q : e = code
    · subst q
      rw [if_pos ⟨rfl, rfl⟩]
      exact h2
    · rw [if_neg (fun z => q z.2), h3.1 _ _ (by unfold P4; omega)]
      exact h e (by omega)
theorem fold_loop {k76 : Int32 → Int32 → UU → Option (Int32 × UU)} {k91 : Int32 → Int32 → Int32 → UU → Option (Int32 × UU)} {x4 : Int32} {s x : Nat} {f : Nat → Int} {u : UU} (hs : s ≤ 4) (hx : x < 4096) (hf : ∀ e, e < 16 → (ui u 73 (16 * x + e)).toInt = f e) : ∀ (k q F : Nat) (x7 : Int32), q + k = 16 → k < F → x7.toInt = fdv (decide (s % 2 = 0)) f q → ∃ y, f_X6_duel_105 k76 k91 F x4 (nI s) (nI x) x7 (nI q) u = k91 x4 (nI s) (nI (x + 1)) (si u 73 x y) ∧ y.toInt = fdv (decide (s % 2 = 0)) f 16 := by
  intro k
  induction k with
  | zero =>
    intro q F x7 hq hF h7
    obtain ⟨F, rfl⟩ : ∃ F0, F = F0 + 1 := ⟨F - 1, by omega⟩
    obtain rfl : q = 16 := by omega
    rw [f_X6_duel_105, if_pos (show (16 : Int32) ≤ nI 16 by decide), ix_n (show x < 65536 by omega) (by omega), nI_clamp (by omega), lt_eq, lt_eq, nI_1]
    exact ⟨x7, rfl, h7⟩
  | succ k ih =>
    intro q F x7 hq hF h7
    obtain ⟨F, rfl⟩ : ∃ F0, F = F0 + 1 := ⟨F - 1, by omega⟩
    have es : nI s - nI s / (2 : Int32) * (2 : Int32) = nI (s % 2) := nI_mod (b := 2) (by omega) (by omega) (by omega)
    rw [f_X6_duel_105, if_neg (show ¬ (16 : Int32) ≤ nI q from nI_ge (b := 16) (by omega) (by omega)), show (16 : Int32) * nI x + nI q = nI (16 * x + q) from nI_mulB (pl := 16), ix_n (show 16 * x + q < 65536 by omega) (by omega), nI_clamp (by omega), lt_eq, es]
    have hy := hf q (by omega)
    generalize ui u 73 (16 * x + q) = y at hy
    have key : ∀ z : Int32, z.toInt = fdv (decide (s % 2 = 0)) f (q + 1) → ∃ y, f_X6_duel_105 k76 k91 F x4 (nI s) (nI x) z (nI (q + 1)) u = k91 x4 (nI s) (nI (x + 1)) (si u 73 x y) ∧ y.toInt = fdv (decide (s % 2 = 0)) f 16 := fun z hz => ih (q + 1) F z (by omega) (by omega) hz
    have e2 : fdv (decide (s % 2 = 0)) f (q + 1) = if f q ≠ LOST ∧ (fdv (decide (s % 2 = 0)) f q = LOST ∨ (if decide (s % 2 = 0) = true then fdv (decide (s % 2 = 0)) f q < f q else f q < fdv (decide (s % 2 = 0)) f q)) then f q else fdv (decide (s % 2 = 0)) f q := rfl
    rw [e2, ← h7, ← hy] at key
    have lost : ∀ z : Int32, z = (-1000000000 : Int32) ↔ z.toInt = LOST := fun z => i_eq
    unfold f_X6_duel_169 f_X6_duel_165 f_X6_duel_170 f_X6_duel_184
    rw [lt_eq, lt_eq, nI_1, if_pos t00, if_neg n10]
    by_cases c1 : y = (-1000000000 : Int32)
    · rw [if_pos c1]
      exact key x7 (by rw [if_neg (fun z => z.1 ((lost y).mp c1))])
    · have c1' : y.toInt ≠ LOST := fun z => c1 ((lost y).mpr z)
      rw [if_neg c1]
      by_cases c2 : x7 = (-1000000000 : Int32)
      · rw [if_pos c2]
        exact key y (by rw [if_pos ⟨c1', Or.inl ((lost x7).mp c2)⟩])
      · have c2' : x7.toInt ≠ LOST := fun z => c2 ((lost x7).mpr z)
        rw [if_neg c2]
        rcases Nat.mod_two_eq_zero_or_one s with e | e
        · rw [e, if_pos (show nI 0 = (0 : Int32) from rfl)]
          rw [e] at key
          by_cases c3 : y ≤ x7
          · rw [if_pos c3]
            have := i_le.mp c3
            exact key x7 (by rw [if_neg (fun z => by
              rcases z.2 with z | z
              · exact c2' z
              · rw [if_pos (by rfl)] at z; omega)])
          · rw [if_neg c3]
            have c3' : x7.toInt < y.toInt := Int.not_le.mp (fun z => c3 (i_le.mpr z))
            exact key y (by rw [if_pos ⟨c1', Or.inr (by rw [if_pos (by rfl)]; exact c3')⟩])
        · rw [e, if_neg (show ¬ nI 1 = (0 : Int32) by decide)]
          rw [e] at key
          by_cases c3 : x7 ≤ y
          · rw [if_pos c3]
            have := i_le.mp c3
            exact key x7 (by rw [if_neg (fun z => by
              rcases z.2 with z | z
              · exact c2' z
              · rw [if_neg (by decide)] at z; omega)])
          · rw [if_neg c3]
            have c3' : y.toInt < x7.toInt := Int.not_le.mp (fun z => c3 (i_le.mpr z))
            exact key y (by rw [if_pos ⟨c1', Or.inr (by rw [if_neg (by decide)]; exact c3')⟩])
theorem round_loop {k76 : Int32 → Int32 → UU → Option (Int32 × UU)} {s : Nat} {old : Nat → Int} (hs : s ≤ 3) : ∀ (k x F : Nat) (u : UU), x + k = 2 ^ (4 * s) → k < F → (∀ e, x ≤ e → e < 2 ^ (4 * (s + 1)) → (ui u 73 e).toInt = old e) → (∀ e, e < x → (ui u 73 e).toInt = fdv (decide (s % 2 = 0)) (fun k => old (16 * e + k)) 16) → ∃ u', f_X6_duel_91 k76 F (nI (2 ^ (4 * s))) (nI s) (nI x) u = k76 (nI (2 ^ (4 * s))) (nI s - 1) u' ∧ Fs P3 u u' ∧ ∀ e, e < 2 ^ (4 * s) → (ui u' 73 e).toInt = fdv (decide (s % 2 = 0)) (fun k => old (16 * e + k)) 16 := by
  have hp := p16_le3 hs
  have hp2 := p16 s
  intro k
  induction k with
  | zero =>
    intro x F u hx hF h1 h2
    obtain ⟨F, rfl⟩ : ∃ F0, F = F0 + 1 := ⟨F - 1, by omega⟩
    rw [f_X6_duel_91, if_pos (nI_le (by omega) (by omega)), lt_eq, show nI s + (-1 : Int32) = nI s - 1 by rw [Int32.sub_eq_add_neg]]
    exact ⟨u, rfl, Fs.rf, fun e he => h2 e (by omega)⟩
  | succ k ih =>
    intro x F u hx hF h1 h2
    obtain ⟨F, rfl⟩ : ∃ F0, F = F0 + 1 := ⟨F - 1, by omega⟩
    obtain ⟨y, g1, g2⟩ := fold_loop (k76 := k76) (k91 := f_X6_duel_91 k76 F) (x4 := nI (2 ^ (4 * s))) (s := s) (x := x) (f := fun k => old (16 * x + k)) (u := u) (by omega) (by omega) (fun e he => h1 _ (by omega) (by omega)) 16 0 fu (-1000000000) rfl (by unfold fu; omega) rfl
    rw [f_X6_duel_91, if_neg (nI_ge (by omega) (by omega)), show (0 : Int32) = nI 0 from rfl, g1]
    obtain ⟨u', k1, k2, k3⟩ := ih (x + 1) F (si u 73 x y) (by omega) (by omega) (fun e he1 he2 => by
      rw [ui_si_r, if_neg (fun z => by omega)]
      exact h1 e (by omega) he2) (fun e he => by
      rw [ui_si_r]
      by_cases q : e = x
      · subst q
        rw [if_pos ⟨rfl, rfl⟩]
        exact g2
      · rw [if_neg (fun z => q z.2)]
        exact h2 e (by omega))
    exact ⟨u', k1, Fs.tr (P := P3) (Fs.si (Or.inl rfl)) k2, k3⟩
theorem rounds (hij : i ≠ j) {T : Nat} (hT : T ≤ 4) (v : Nat → Nat) : ∀ (s t F : Nat) (u : UU), s + t = T → s < F → (∀ e, e < 2 ^ (4 * s) → (ui u 73 e).toInt = leafV kd up lw i j (NV kd up lw i j t s) s 0 e v) → ∃ x u', f_X6_duel_76 F (nI (2 ^ (4 * s))) (nI s - 1) u = some ((if x < 0 then -(((999 : Int32) - x) / (1000 : Int32)) else x / (1000 : Int32)) + 5000, u') ∧ Fs P3 u u' ∧ x.toInt = DV i j v + val kd up lw T i j v := by
  intro s
  induction s with
  | zero =>
    intro t F u hs hF h
    obtain ⟨F, rfl⟩ : ∃ F0, F = F0 + 1 := ⟨F - 1, by omega⟩
    have h0 := h 0 (by decide)
    rw [leafV, NV, if_pos rfl, show t = T by omega] at h0
    rw [f_X6_duel_76, if_pos (show nI 0 - 1 < (0 : Int32) by decide), show (0 : Int32) = nI 0 from rfl, ix_n (show 0 < 65536 by omega) (by omega), nI_clamp (by omega), lt_eq]
    generalize ui u 73 0 = x at h0
    refine ⟨x, u, ?_, Fs.rf, h0⟩
    by_cases z : x < nI 0
    · rw [if_pos z, if_pos z]
    · rw [if_neg z, if_neg z]
  | succ s ih =>
    intro t F u hs hF h
    obtain ⟨F, rfl⟩ : ∃ F0, F = F0 + 1 := ⟨F - 1, by omega⟩
    have hp := p16 s
    have hp4 := p16_le3 (show s ≤ 3 by omega)
    rw [f_X6_duel_76, show nI (s + 1) - (1 : Int32) = nI s from pk_sub (b := 1) (by omega), if_neg (nI_pos (by omega)), lt_eq, show nI (2 ^ (4 * (s + 1))) / (16 : Int32) = nI (2 ^ (4 * s)) by
      rw [show nI (2 ^ (4 * (s + 1))) / (16 : Int32) = nI (2 ^ (4 * (s + 1)) / 16) from pk_div (d := 16) (by omega) (by omega) (by omega), hp]
      congr 1
      omega]
    obtain ⟨u', g1, g2, g3⟩ := round_loop (k76 := f_X6_duel_76 F) (s := s) (old := fun e => leafV kd up lw i j (NV kd up lw i j t (s + 1)) (s + 1) 0 e v) (by omega) (2 ^ (4 * s)) 0 fu u (by omega) (by unfold fu; omega) (fun e _ he => h e he) (fun e he => by omega)
    rw [show (0 : Int32) = nI 0 from rfl, g1]
    obtain ⟨x, u2, k1, k2, k3⟩ := ih (t + 1) F u' (by omega) (by omega) (fun e he => by
      rw [g3 e he]
      exact NV_round hij (by omega) e v)
    exact ⟨x, u2, k1, g2.tr k2, k3⟩
end PL2
theorem op_duel {c m : UU} (h : Inv c m) (x y z : Int32) : Ok (f_X5_duel x y z c) (f_X6_duel x y z m) := by
  obtain ⟨n, kd, up, lw, dm, w, kp, hB⟩ := h.2.2.2.2
  have h7 := hB.1.1
  unfold f_X5_duel f_X6_duel
  rcases i_cases x (n := n) (by omega) with hx | ⟨i, hi, rfl⟩
  · rw [c_isW_out hB hx, m_isW_out hB hx, bd_some, bd_some, if_pos t00, if_pos t00]
    exact Ok.same h _
  rw [c_isW_in hB hi, m_isW_in hB hi, bd_some, bd_some, if_neg n10, if_neg n10]
  rcases i_cases y (n := n) (by omega) with hx | ⟨j, hj, rfl⟩
  · rw [c_isW_out hB hx, m_isW_out hB hx, bd_some, bd_some, if_pos t00, if_pos t00]
    exact Ok.same h _
  rw [c_isW_in hB hj, m_isW_in hB hj, bd_some, bd_some, if_neg n10, if_neg n10]
  by_cases hij : i = j
  · subst hij
    rw [if_pos rfl, if_pos rfl]
    exact Ok.same h _
  rw [if_neg (fun q => hij ((nI_eqi (by omega) (by omega)).mp q)), if_neg (fun q => hij ((nI_eqi (by omega) (by omega)).mp q))]
  rcases i_cases z (n := 5) (by omega) with hz | ⟨T, hT, rfl⟩
  · rw [show f_X6_in z 0 4 = 0 from in_out (n := 4) (by omega) hz, if_pos t00]
    by_cases q : z < 0
    · rw [if_pos q]
      exact Ok.same h _
    · rw [if_neg q, if_neg (fun y => by
        have h1 := i_le.mp y
        have h2 := i_le.mp (hz.resolve_left q)
        rw [show (4 : Int32).toInt = 4 from rfl] at h1
        rw [nI_toInt (by omega)] at h2
        omega)]
      exact Ok.same h _
  have hw := wf_now hB
  have hdm := hB.2.1.2.2.2.2.2.2.1
  have hW : DW n up lw (w dm) := ⟨fun d hd => by have := hw.2.1 d hd; omega, fun k hk => ⟨(hw.2.2 k hk).1, (hw.2.2 k hk).2.2⟩⟩
  have hS : DS n kd up lw (w dm) c := ⟨hB.cv, fun k hk => (hB.2.1.2.2.2.2.2.1 k hk).1⟩
  obtain ⟨r, c', g1, g2, g3, g4⟩ := gain_eq h7 (fun k hk => (hB.1.2.1 k hk).1) (fun k hk => due_lt (hB.1.2.1 k hk).2.2.2.1 (hB.1.2.1 k hk).2.2.1) hi hj (show T ≤ 4 by omega) hS hW
  obtain ⟨u1, f1, f2, f3⟩ := duel_fill hB hW hi hj hij (show T ≤ 4 by omega) (2 ^ (4 * T)) 0 fu m (by omega) (by have := p16_le (show T ≤ 4 by omega); unfold fu; omega) Fs.rf (fun e he => by omega)
  have eNV : (fun v => NV kd up lw i j 0 T v) = DV i j := by
    funext v
    unfold NV
    simp only [val]
    split <;> omega
  obtain ⟨X, u2, r1, r2, r3⟩ := rounds (kd := kd) (up := up) (lw := lw) hij (show T ≤ 4 by omega) (w dm) T 0 fu u1 (by omega) (by unfold fu; omega) (fun e he => by
    rw [f3 e he]
    exact congrArg (fun E => leafV kd up lw i j E T 0 e (w dm)) eNV.symm)
  have hV := val_bd kd up lw T i j (w dm)
  have hD := DV_bd i j (w dm)
  have hsi := smn_lt (w dm (18 + i)) 17
  have hsj := smn_lt (w dm (18 + j)) 17
  rw [show f_X6_in (nI T) 0 4 = 1 from in_in (n := 4) (by omega) (by omega), if_neg n10, if_neg (nI_pos (by omega)), if_pos (show nI T ≤ (4 : Int32) from nI_le (b := 4) (by omega) (by omega)), c_had hB hi, c_had hB hj, bd_some, bd_some, lt_eq, g1, bd_some, lt_eq, lt_eq, show (4 : Int32) * nI T = nI (4 * T) from pk_mul 4 T, shl1 (by omega), show (0 : Int32) = nI 0 from rfl, f1, r1]
  have s1 : (nI (Sm (w dm (18 + i)))).toInt = (Sm (w dm (18 + i)) : Int) := nI_toInt (by show smn _ 17 < _; omega)
  have s2 : (nI (Sm (w dm (18 + j)))).toInt = (Sm (w dm (18 + j)) : Int) := nI_toInt (by show smn _ 17 < _; omega)
  have s3 : (nI (Sm (w dm (18 + i))) - nI (Sm (w dm (18 + j)))).toInt = DV i j (w dm) := by
    rw [i_sub (by rw [s1, s2]; show _ ≤ (smn _ 17 : Int) - (smn _ 17 : Int); omega) (by rw [s1, s2]; show (smn _ 17 : Int) - (smn _ 17 : Int) ≤ _; omega), s1, s2]
    rfl
  have s4 : nI (Sm (w dm (18 + i))) - nI (Sm (w dm (18 + j))) + r = X := by
    apply i_eq.mpr
    rw [i_add (by omega) (by omega), s3, g4, r3]
  rw [s4, fd_eq (by omega) (by omega), bd_some]
  have hT2 : TB n kd up lw dm w kp c' m := hB.undo (t := dm) (Nat.le_refl _) g2.1 (by rw [g3.1 _ _ (by unfold PV; omega)]; exact hB.2.1.2.2.1) (g3.up (fun k j q => Or.inl q)) Fs.rf hB.2.2.1.2.1 (fun j hj => m_now hB hj)
  refine ⟨_, c', u2, rfl, rfl, h.tab (g3.up (fun k j q => by unfold PV at q; unfold PTC; omega)) ((P3.pm (f2.tr r2)).up (fun k j q => Or.inr (Or.inr q))) ⟨n, kd, up, lw, dm, w, kp, hT2.fs Fs.rf (P3.pm (f2.tr r2))⟩⟩
