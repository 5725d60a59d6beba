def PU (k j : Nat) : Prop := PV k j ∨ (k = 11 ∧ j = 2)
theorem c_undo_loop {n : Nat} {up lw : Nat → Nat} {dm : Nat} {w : Nat → Nat → Nat} {c : UU} (hn : n ≤ 7) (hS : Seq n up lw dm w (ui c 18) (ui c 19) (ui c 20)) {t : Nat} : ∀ (f k : Nat) (u : UU), t ≤ k → k ≤ dm → k + 1 ≤ t + f → ui u 11 2 = nI k → CV n up lw (w k) u → Fs PU c u → ∃ u', f_X4_undoFrom_0 f (nI t) u = some u' ∧ ui u' 11 2 = nI t ∧ CV n up lw (w t) u' ∧ Fs PU c u' := by
  intro f
  induction f with
  | zero => intro k u h1 h2 h3; omega
  | succ f ih =>
    intro k u h1 h2 h3 h4 h5 h6
    obtain ⟨s1, s2, s3⟩ := hS
    rw [f_X4_undoFrom_0, h4]
    by_cases e : k = t
    · subst e
      rw [if_pos (nI_le (Nat.le_refl _) (by omega))]
      exact ⟨u, rfl, h4, h5, h6⟩
    · have e0 : nI k - (1 : Int32) = nI (k - 1) := pk_sub (b := 1) (by omega)
      rw [if_neg (nI_ge (by omega) (by omega)), if_neg (nI_nle (by omega) (by omega)), e0, lt_eq]
      have e2 : ui (si u 11 2 (nI (k - 1))) 11 2 = nI (k - 1) := by simp [ui_si_r]
      have e18 : ∀ q, ui (si u 11 2 (nI (k - 1))) 18 q = ui c 18 q := fun q => by simp [ui_si_r, h6.1 18 q (by unfold PU PV; omega)]
      have e19 : ∀ q, ui (si u 11 2 (nI (k - 1))) 19 q = ui c 19 q := fun q => by simp [ui_si_r, h6.1 19 q (by unfold PU PV; omega)]
      have e20 : ∀ q, ui (si u 11 2 (nI (k - 1))) 20 q = ui c 20 q := fun q => by simp [ui_si_r, h6.1 20 q (by unfold PU PV; omega)]
      rw [e2, ix_n (show k - 1 < 40 by omega) (by omega), ix_n (show k - 1 < 40 by omega) (by omega), ix_n (show k - 1 < 40 by omega) (by omega), nI_clamp (by omega), e18, e19, e20]
      have hCu : CV n up lw (w (k - 1 + 1)) (si u 11 2 (nI (k - 1))) := by
        rw [show k - 1 + 1 = k by omega]
        obtain ⟨v1, v2, v3, v4⟩ := h5
        exact ⟨by simp only [ui_si_r]; simpa using v1, by simp only [ui_si_r]; simpa using v2, fun d hd => by simp [ui_si_r, v3 d hd], fun i hi => by simp [ui_si_r, v4 i hi]⟩
      obtain ⟨u', k1, k2, k3⟩ := c_undoOne (k := k - 1) hn (by omega) (s2 (k - 1) (by omega)) (s2 (k - 1 + 1) (by omega)) hCu (s3 (k - 1) (by omega))
      rw [k1, bd_some]
      exact ih (k - 1) u' (by omega) (by omega) (by omega) (by rw [k3.1 _ _ (by unfold PV; omega)]; exact e2) k2 ((h6.tr (Fs.si (by unfold PU; omega))).tr (k3.up (fun a b q => Or.inl q)))
theorem undoFrom_eq (x : Int32) (u : UU) (f : Nat) : f_X4_undoFrom x u = f_X4_undoFrom_0 (fu + 1) x u := by
  rw [f_X4_undoFrom_0]
  rfl
theorem m_undo_loop {m : UU} {t : Nat} (ht : t < 40) (x2 : Int32) (hx : ¬ x2 ≤ 0) : ∀ (f k : Nat) (u : UU), k ≤ 25 → 26 ≤ k + f → Fr [68] m u → (∀ j, ui u 68 j = if j < k then ui m 69 (25 * t + j) else ui m 68 j) → ∃ u', f_X6_undo_23 f (nI t) x2 (nI k) u = some (x2, si u' 55 22 (nI t)) ∧ Fr [68] m u' ∧ ∀ j, ui u' 68 j = if j < 25 then ui m 69 (25 * t + j) else ui m 68 j := by
  intro f
  induction f with
  | zero => intro k u h1 h2; omega
  | succ f ih =>
    intro k u h1 h2 h3 h4
    rw [f_X6_undo_23]
    unfold f_X6_undo_56
    by_cases he : k = 25
    · subst he
      rw [if_pos (show (25 : Int32) ≤ nI 25 from nI_le (Nat.le_refl _) (by omega)), lt_eq]
      exact ⟨u, rfl, h3, h4⟩
    · rw [if_neg (show ¬ (25 : Int32) ≤ nI k from nI_ge (b := 25) (by omega) (by omega)), if_neg hx, show (25 : Int32) * nI t + nI k = nI (25 * t + k) from nI_mulB, ix_n (show 25 * t + k < 1000 by omega) (by omega), ix_n (show k < 25 by omega) (by omega), nI_clamp (by omega), nI_clamp (by omega), lt_eq, lt_eq, nI_1]
      refine ih (k + 1) _ (by omega) (by omega) (h3.tr (Fr.si (by simp))) (fun j => ?_)
      rw [ui_si_r]
      by_cases e : j = k
      · rw [if_pos ⟨rfl, e⟩, if_pos (by omega), h3.1 69 (by simp), e]
      · rw [if_neg (fun z => e z.2), h4]
        by_cases q : j < k
        · rw [if_pos q, if_pos (by omega)]
        · rw [if_neg q, if_neg (by omega)]
theorem TB.undo {n : Nat} {kd up lw : Nat → Nat} {dm : Nat} {w : Nat → Nat → Nat} {kp : KP} {c m : UU} (h : TB n kd up lw dm w kp c m) {t : Nat} (ht : t ≤ dm) {c' m' : UU} (hc : CV n up lw (w t) c') (c2 : ui c' 11 2 = nI t) (hf : Fs PU c c') (hm : Fs (fun k j => (k = 55 ∧ j = 22) ∨ k = 68) m m') (m22 : ui m' 55 22 = nI t) (m68 : ∀ j, j < 25 → ui m' 68 j = nI (w t j)) : TB n kd up lw t w kp c' m' := by
  obtain ⟨⟨n1, n2, n3⟩, ⟨t1, t2, t3, t4, t5, t6, t7, t8, t9⟩, ⟨q1, q2, q3, q4, q5, q6⟩, k1⟩ := h
  obtain ⟨v1, v2, v3, v4⟩ := hc
  have eC := hf.1
  have eM := hm.1
  refine ⟨⟨n1, n2, fun e => ?_⟩, ⟨?_, v1, c2, v2, v3, fun i hi => ?_, by omega, fun k hk => t8 k (by omega), fun k hk => ?_⟩, ⟨?_, m22, fun i hi => ?_, m68, fun k hk j hj => ?_, fun k hk => ?_⟩, fun k hk => ?_⟩
  · obtain ⟨z1, z2, z3⟩ := n3 e
    exact ⟨by omega, z2, z3⟩
  · rw [eC _ _ (by unfold PU PV; omega)]; exact t1
  · obtain ⟨z1, z2, z3, -, -⟩ := t6 i hi
    obtain ⟨z4, z5⟩ := v4 i hi
    refine ⟨?_, ?_, ?_, z4, z5⟩
    · rw [eC _ _ (by unfold PU PV; omega)]; exact z1
    · rw [eC _ _ (by unfold PU PV; omega)]; exact z2
    · rw [eC _ _ (by unfold PU PV; omega)]; exact z3
  · have := t9 k (by omega)
    rw [eC _ _ (by unfold PU PV; omega), eC _ _ (by unfold PU PV; omega), eC _ _ (by unfold PU PV; omega)]
    exact this
  · rw [eM _ _ (by omega)]; exact q1
  · rw [eM _ _ (by omega), eM _ _ (by omega), eM _ _ (by omega)]; exact q3 i hi
  · rw [eM _ _ (by omega)]; exact q5 k (by omega) j hj
  · refine ⟨fun e => by rw [eM _ _ (by omega)]; exact (q6 k hk).1 e, fun dk wk e => ?_⟩
    obtain ⟨g1, g2, g3⟩ := (q6 k hk).2 dk wk e
    exact ⟨by rw [eM _ _ (by omega)]; exact g1, fun j hj => by rw [eM _ _ (by omega)]; exact g2 j hj, fun i hi j hj => by rw [eM _ _ (by omega)]; exact g3 i hi j hj⟩
  · exact ⟨fun e => by rw [eC _ _ (by unfold PU PV; omega)]; exact (k1 k hk).1 e, fun dk wk e => ⟨((k1 k hk).2 dk wk e).1, ((k1 k hk).2 dk wk e).2.cong (fun a' j h1 h2 => eC _ _ (by unfold PU PV; omega))⟩⟩
theorem op_undo {c m : UU} (h : Inv c m) (x : Int32) : Ok (f_X5_undo x c) (f_X6_undo x m) := by
  obtain ⟨n, kd, up, lw, dm, w, kp, hB⟩ := h.2.2.2.2
  have hd := hB.2.1.2.2.2.2.2.2.1
  unfold f_X5_undo f_X6_undo
  rw [hB.2.1.2.2.1, hB.2.2.1.2.1]
  by_cases h1 : x < 0
  · rw [if_pos h1, in_0 (Or.inl h1), if_pos t00]
    exact Ok.same h _
  obtain ⟨t, ht, rfl⟩ := nI_nn h1
  by_cases h2 : ¬ t ≤ dm
  · rw [if_neg h1, if_neg (nI_ge (by omega) ht), in_0 (Or.inr (nI_lt (by omega) ht)), if_pos t00]
    exact Ok.same h _
  have h2 := Decidable.not_not.mp h2
  rw [if_neg h1, if_pos (nI_le h2 (by omega)), in_1 h1 (nI_nlt h2 (by omega)), if_neg n10, pk_sub h2, lt_eq, lt_eq, undoFrom_eq _ _ 0]
  obtain ⟨c', k1, k2, k3, k4⟩ := c_undo_loop hB.1.1 hB.2.1.2.2.2.2.2.2 (t := t) (fu + 1) dm c h2 (Nat.le_refl _) (by unfold fu; omega) hB.2.1.2.2.1 hB.cv Fs.rf
  rw [k1, bd_some]
  by_cases e : t = dm
  · subst e
    have : f_X6_undo_23 fu (nI t) (nI (t - t)) 0 m = some (nI (t - t), si m 55 22 (nI t)) := by
      show f_X6_undo_23 (99999 + 1) _ _ _ _ = _
      rw [f_X6_undo_23, if_neg (by decide), if_pos (by rw [Nat.sub_self]; decide)]
      rfl
    rw [this]
    refine ⟨_, _, _, rfl, rfl, h.tab (k4.up (fun a b q => by unfold PU PV at q; unfold PTC; omega)) (Fs.si (by unfold PTM; omega)) ⟨n, kd, up, lw, t, w, kp, hB.undo (Nat.le_refl _) k3 k2 k4 (Fs.si (by omega)) (by simp [ui_si_r]) (fun j hj => by rw [ui_si_r, if_neg (by omega)]; exact m_now hB hj)⟩⟩
  · obtain ⟨m', g1, g2, g3⟩ := m_undo_loop (m := m) (t := t) (by omega) (nI (dm - t)) (nI_nle (by omega) (by omega)) fu 0 m (by omega) (by unfold fu; omega) Fr.rf (fun j => by rw [if_neg (by omega)])
    rw [show (0 : Int32) = nI 0 from rfl, g1]
    refine ⟨_, _, _, rfl, rfl, h.tab (k4.up (fun a b q => by unfold PU PV at q; unfold PTC; omega)) ((g2.fs (fun a b q => by simp at q; unfold PTM; omega)).tr (Fs.si (by unfold PTM; omega))) ⟨n, kd, up, lw, t, w, kp, hB.undo h2 k3 k2 k4 ((g2.fs (fun a b q => by simp at q; omega)).tr (Fs.si (by omega))) (by simp [ui_si_r]) (fun j hj => ?_)⟩⟩
    rw [ui_si_r, if_neg (by omega), g3, if_pos hj]
    exact hB.2.2.1.2.2.2.2.1 t (by omega) j hj
