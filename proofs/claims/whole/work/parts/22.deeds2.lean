section D2
variable {n : Nat} {kd up lw : Nat → Nat} {dm : Nat} {w : Nat → Nat → Nat} {kp : KP} {c m : UU}
theorem c_canCut (h : TB n kd up lw dm w kp c m) : f_X4_canCut c = some (if w dm 0 = 0 then 0 else 1) := by
  have := (wf_now h).1
  unfold f_X4_canCut
  rw [h.2.1.2.1]
  by_cases e : w dm 0 = 0
  · rw [if_pos (by rw [e]; decide), if_pos e]
  · rw [if_neg (nI_nle (by omega) (by omega)), if_neg e]
theorem c_room (h : TB n kd up lw dm w kp c m) {k : Nat} (hk : k ≤ 100) : f_X4_hasRoomFor (nI k) c = some (if dm + k ≤ 40 then 1 else 0) := by
  have hd := h.2.1.2.2.2.2.2.2.1
  unfold f_X4_hasRoomFor
  rw [h.2.1.2.2.1, nI_add]
  by_cases e : dm + k ≤ 40
  · rw [if_neg (show ¬ (40 : Int32) < nI (dm + k) from nI_nlt (a := 40) e (by omega)), if_pos e]
  · rw [if_pos (show (40 : Int32) < nI (dm + k) from nI_lt (a := 40) (by omega) (by omega)), if_neg e]
theorem m_full (h : TB n kd up lw dm w kp c m) : (ui m 55 22 = (40 : Int32)) ↔ ¬ dm + 1 ≤ 40 := by
  have hd := h.2.1.2.2.2.2.2.2.1
  rw [h.2.2.1.2.1, show (40 : Int32) = nI 40 from rfl, nI_eq (by omega) (by omega)]
  omega
theorem n_pos (h : TB n kd up lw dm w kp c m) (h0 : 0 < w dm 0) : 0 < n := by
  rcases Nat.eq_zero_or_pos n with e | e
  · obtain ⟨h1, h2, -⟩ := h.1.2.2 e
    rw [h1, h2] at h0
    omega
  · exact e
theorem c0 : (0 : Int32).toNatClampNeg = 0 := rfl
theorem i0 {α : Type} {x : Option α} : ix (0 : Int32) 25 x = x := ix_n (j := 0) (by omega) (by omega)
theorem c_cut {d : Nat} (h : TB n kd up lw dm w kp c m) (hd : dm < 40) (h2 : 2 ≤ d) (h3 : d ≤ 16) (h0 : 0 < w dm 0) : ∃ c', f_X4_cutLoaf (nI d) c = some (noteC c' dm 1 0 (nI d)) ∧ CV n up lw (cutV (w dm) d) c' ∧ Fs PV c c' := by
  obtain ⟨c1, c2, c3, c4⟩ := h.cv
  obtain ⟨f1, f2, f3⟩ := wf_now h
  have f2d := f2 d (by omega)
  have e0 : nI (w dm 0) - (1 : Int32) = nI (w dm 0 - 1) := pk_sub (b := 1) (by omega)
  have g1 : cutV (w dm) d (1 + d) = w dm (1 + d) + d := by unfold cutV; rw [if_neg (by omega), if_pos rfl]
  refine ⟨si (si (si c 11 1 (nI (w dm 0 - 1))) 12 d (nI (w dm (1 + d) + d))) 11 4 (nI (if w dm (1 + d) + d = 0 then andN (lyM (w dm)) (2 ^ d) else lyM (w dm) ||| 2 ^ d)), ?_, ⟨?_, ?_, fun k hk => ?_, fun k hk => ?_⟩, ?_⟩
  · unfold f_X4_cutLoaf
    rw [c1, e0, lt_eq, chgL (a := w dm (1 + d)) (a' := w dm (1 + d) + d) h2 h3 (by simp [ui_si_r, c3 d (by omega)]) (by simp [ui_si_r]; exact c2) (nI_add _ _) (by omega), bd_some, f_note (dm := dm) (by simp [ui_si_r, h.2.1.2.2.1]) hd, bd_some]
  · simp [ui_si_r, cutV]
  · rw [lyM_upd (v := w dm) (v' := cutV (w dm) d) h2 h3 (fun k e hk => by unfold cutV; rw [if_neg (by omega), if_neg (by omega)]), g1]
    simp [ui_si_r]
  · by_cases e : k = d
    · subst e; rw [g1]; simp [ui_si_r]
    · simp only [ui_si_r]
      simp [e, c3 k hk, cutV]
  · have : cutV (w dm) d (18 + k) = w dm (18 + k) := by unfold cutV; rw [if_neg (by omega), if_neg (by omega)]
    rw [this]
    simp [ui_si_r, c4 k hk]
  · exact ((Fs.si (by unfold PV; omega)).tr (Fs.si (by unfold PV; omega))).tr (Fs.si (by unfold PV; omega))
theorem m_cuts {d : Nat} {u : UU} {v : Nat → Nat} (h2 : 2 ≤ d) (h3 : d ≤ 16) (h0 : 1 ≤ v 0) (hu : ∀ j, j < 25 → ui u 68 j = nI (v j)) : ∃ u', f_X6_cuts (nI d) u = some u' ∧ Fs (fun k _ => k = 68) u u' ∧ ∀ j, j < 25 → ui u' 68 j = nI (cutV v d j) := by
  unfold f_X6_cuts
  have e0 : nI (v 0) - (1 : Int32) = nI (v 0 - 1) := pk_sub (b := 1) h0
  have e1 : ui (si u 68 0 (nI (v 0 - 1))) 68 (1 + d) = nI (v (1 + d)) := by rw [ui_si_r, if_neg (by omega)]; exact hu _ (by omega)
  rw [i0, i0, c0, hu 0 (by omega), e0, lt_eq, n1p, ix_n (show 1 + d < 25 by omega) (by omega), ix_n (show 1 + d < 25 by omega) (by omega), nI_clamp (by omega), e1, nI_add, lt_eq]
  refine ⟨_, rfl, (Fs.si (P := fun k _ => k = 68) rfl).tr (Fs.si rfl), fun j hj => ?_⟩
  rw [ui_si_r, ui_si_r]
  unfold cutV
  by_cases q0 : j = 0
  · subst q0
    rw [if_neg (by omega), if_pos ⟨rfl, rfl⟩, if_pos rfl]
  · by_cases q1 : j = 1 + d
    · subst q1
      rw [if_pos ⟨rfl, rfl⟩, if_neg (by omega), if_pos rfl]
    · rw [if_neg (fun z => q1 z.2), if_neg (fun z => q0 z.2), if_neg q0, if_neg q1]
      exact hu j hj
theorem m_gives {i d : Nat} {u : UU} {v : Nat → Nat} (hi : i < 7) (h2 : 2 ≤ d) (h3 : d ≤ 16) (h0 : 1 ≤ v (1 + d)) (hb : (v (18 + i)).testBit d = false) (hu : ∀ j, j < 25 → ui u 68 j = nI (v j)) : ∃ u', f_X6_gives (nI i) (nI d) u = some u' ∧ Fs (fun k _ => k = 68) u u' ∧ ∀ j, j < 25 → ui u' 68 j = nI (giveV v i d j) := by
  unfold f_X6_gives
  have e0 : nI (v (1 + d)) - (1 : Int32) = nI (v (1 + d) - 1) := pk_sub (b := 1) h0
  have e1 : ui (si u 68 (1 + d) (nI (v (1 + d) - 1))) 68 (18 + i) = nI (v (18 + i)) := by rw [ui_si_r, if_neg (by omega)]; exact hu _ (by omega)
  rw [n1p, ix_n (show 1 + d < 25 by omega) (by omega), ix_n (show 1 + d < 25 by omega) (by omega), nI_clamp (by omega), hu _ (by omega), e0, lt_eq, n18, ix_n (show 18 + i < 25 by omega) (by omega), ix_n (show 18 + i < 25 by omega) (by omega), nI_clamp (by omega), e1, shl1 (by omega), fa_or, ← pw_add hb, lt_eq]
  refine ⟨_, rfl, (Fs.si (P := fun k _ => k = 68) rfl).tr (Fs.si rfl), fun j hj => ?_⟩
  rw [ui_si_r, ui_si_r]
  unfold giveV
  by_cases q0 : j = 1 + d
  · subst q0
    rw [if_neg (by omega), if_pos ⟨rfl, rfl⟩, if_pos rfl]
  · by_cases q1 : j = 18 + i
    · subst q1
      rw [if_pos ⟨rfl, rfl⟩, if_neg (by omega), if_pos rfl]
    · rw [if_neg (fun z => q1 z.2), if_neg (fun z => q0 z.2), if_neg q0, if_neg q1]
      exact hu j hj
theorem m_backs {i d : Nat} {u : UU} {v : Nat → Nat} (hi : i < 7) (h2 : 2 ≤ d) (h3 : d ≤ 16) (hm : v (18 + i) < 2 ^ 17) (hb : (v (18 + i)).testBit d = true) (hu : ∀ j, j < 25 → ui u 68 j = nI (v j)) : ∃ u', f_X6_comesBack (nI i) (nI d) u = some u' ∧ Fs (fun k _ => k = 68) u u' ∧ ∀ j, j < 25 → ui u' 68 j = nI (backV v i d j) := by
  unfold f_X6_comesBack
  have e1 : ui (si u 68 (1 + d) (nI (v (1 + d) + 1))) 68 (18 + i) = nI (v (18 + i)) := by rw [ui_si_r, if_neg (by omega)]; exact hu _ (by omega)
  rw [n1p, ix_n (show 1 + d < 25 by omega) (by omega), ix_n (show 1 + d < 25 by omega) (by omega), nI_clamp (by omega), hu _ (by omega), nI_1, lt_eq, n18, ix_n (show 18 + i < 25 by omega) (by omega), ix_n (show 18 + i < 25 by omega) (by omega), nI_clamp (by omega), e1, shl1 (by omega), andN_eq, (andN_one hb hm).1, lt_eq]
  refine ⟨_, rfl, (Fs.si (P := fun k _ => k = 68) rfl).tr (Fs.si rfl), fun j hj => ?_⟩
  rw [ui_si_r, ui_si_r]
  unfold backV
  by_cases q0 : j = 1 + d
  · subst q0
    rw [if_neg (by omega), if_pos ⟨rfl, rfl⟩, if_pos rfl]
  · by_cases q1 : j = 18 + i
    · subst q1
      rw [if_pos ⟨rfl, rfl⟩, if_neg (by omega), if_pos rfl]
    · rw [if_neg (fun z => q1 z.2), if_neg (fun z => q0 z.2), if_neg q0, if_neg q1]
      exact hu j hj
/-! the new numbers are well formed -/
theorem wf_cut {d : Nat} {v : Nat → Nat} (h : WF n up lw dm v) (h2 : 2 ≤ d) (h3 : d ≤ 16) : WF n up lw (dm + 1) (cutV v d) := by
  obtain ⟨f1, f2, f3⟩ := h
  refine ⟨by simp [cutV]; omega, fun k hk => ?_, fun i hi => ?_⟩
  · have := f2 k hk
    simp only [cutV]
    rw [if_neg (by omega)]
    by_cases e : 1 + k = 1 + d
    · rw [if_pos e, ← e]; omega
    · rw [if_neg e]; omega
  · have : cutV v d (18 + i) = v (18 + i) := by unfold cutV; rw [if_neg (by omega), if_neg (by omega)]
    rw [this]; exact f3 i hi
theorem wf_bake {k : Nat} {v : Nat → Nat} (h : WF n up lw dm v) (hk : v 0 + k ≤ 99) : WF n up lw (dm + 1) (bakeV v k) := by
  obtain ⟨f1, f2, f3⟩ := h
  refine ⟨by simp [bakeV]; omega, fun k hk => ?_, fun i hi => ?_⟩
  · have := f2 k hk
    simp only [bakeV]
    rw [if_neg (by omega)]
    omega
  · have : bakeV v k (18 + i) = v (18 + i) := by unfold bakeV; rw [if_neg (by omega)]
    rw [this]; exact f3 i hi
theorem wf_give {i d : Nat} {v : Nat → Nat} (h : WF n up lw dm v) (h2 : 2 ≤ d) (h3 : d ≤ 16) (hb : (v (18 + i)).testBit d = false) (hs : Sm (v (18 + i)) + 720720 / d ≤ due up lw i) : WF n up lw (dm + 1) (giveV v i d) := by
  obtain ⟨f1, f2, f3⟩ := h
  refine ⟨?_, fun k hk => ?_, fun j hj => ?_⟩
  · unfold giveV; rw [if_neg (by omega), if_neg (by omega)]; exact f1
  · have := f2 k hk
    unfold giveV
    by_cases e : 1 + k = 1 + d
    · rw [if_pos e, ← e]; omega
    · rw [if_neg e, if_neg (by omega)]; omega
  · obtain ⟨g1, g2, g3⟩ := f3 j hj
    unfold giveV
    rw [if_neg (by omega)]
    by_cases e : 18 + j = 18 + i
    · have e' : j = i := by omega
      subst e'
      have := pw4 h2
      rw [if_pos rfl, Sm_add hb h2 h3]
      exact ⟨add_lt17 hb g1 h3, by omega, hs⟩
    · rw [if_neg e]; exact ⟨g1, g2, g3⟩
theorem wf_back {i d : Nat} {v : Nat → Nat} (h : WF n up lw dm v) (hi : i < n) (h2 : 2 ≤ d) (h3 : d ≤ 16) (hb : (v (18 + i)).testBit d = true) : WF n up lw (dm + 1) (backV v i d) := by
  obtain ⟨f1, f2, f3⟩ := h
  refine ⟨?_, fun k hk => ?_, fun j hj => ?_⟩
  · unfold backV; rw [if_neg (by omega), if_neg (by omega)]; exact f1
  · have := f2 k hk
    unfold backV
    by_cases e : 1 + k = 1 + d
    · rw [if_pos e, ← e]; omega
    · rw [if_neg e, if_neg (by omega)]; omega
  · obtain ⟨g1, g2, g3⟩ := f3 j hj
    unfold backV
    rw [if_neg (by omega)]
    by_cases e : 18 + j = 18 + i
    · have e' : j = i := by omega
      subst e'
      obtain ⟨w1, w2, w3⟩ := andN_one hb g1
      have w4 := Sm_add w3 h2 h3
      rw [Nat.sub_add_cancel w2] at w4
      have := pw4 h2
      rw [if_pos rfl]
      exact ⟨Nat.lt_of_le_of_lt (Nat.sub_le _ _) g1, by omega, by rw [w4] at g3; exact Nat.le_trans (Nat.le_add_right _ _) g3⟩
    · rw [if_neg e]; exact ⟨g1, g2, g3⟩
theorem pv_ptc {c c' : UU} {dm : Nat} {a b s : Int32} (h : Fs PV c c') : Fs PTC c (noteC c' dm a b s) := (h.up (fun k j q => by unfold PV at q; unfold PTC; omega)).tr ((((Fs.si (by unfold PTC; omega)).tr (Fs.si (by unfold PTC; omega))).tr (Fs.si (by unfold PTC; omega))).tr (Fs.si (by unfold PTC; omega)))
end D2
theorem op_cut {c m : UU} (h : Inv c m) (x : Int32) : Ok (f_X5_cut x c) (f_X6_cut x m) := by
  obtain ⟨n, kd, up, lw, dm, w, kp, hB⟩ := h.2.2.2.2
  unfold f_X5_cut f_X6_cut
  rcases part_cases x with ⟨e1, e2⟩ | ⟨d, hd, hd2, rfl, e1, e2⟩
  · rw [e1, e2, if_pos t00, if_pos t00]
    exact Ok.same h _
  have hb0 := (wf_now hB).1
  rw [e1, e2, if_neg n10, if_neg n10, c_canCut hB, bd_some, i0, c0, m_now hB (by omega)]
  by_cases z : w dm 0 = 0
  · rw [if_pos z, if_pos t00, z, if_pos (show nI 0 = 0 from rfl)]
    exact Ok.same h _
  rw [if_neg z, if_neg n10, if_neg (nI_ne0 (by omega) (by omega)), show f_X4_hasRoomFor (1 : Int32) c = _ from c_room hB (k := 1) (by omega), bd_some]
  by_cases r : ¬ dm + 1 ≤ 40
  · rw [if_neg r, if_pos t00, if_pos ((m_full hB).mpr r)]
    exact Ok.same h _
  have r := Decidable.not_not.mp r
  have n0 := n_pos hB (by omega)
  obtain ⟨c', g1, g2, g3⟩ := c_cut hB (by omega) hd hd2 (show 0 < w dm 0 by omega)
  obtain ⟨m1, k1, k2, k3, k4⟩ := f_rem (dm := dm) hB.2.2.1.2.1 (by omega)
  obtain ⟨m2, k5, k6, k7⟩ := m_cuts (v := w dm) hd hd2 (by omega) (u := m1) (fun j hj => by rw [k2.1 _ _ (by omega)]; exact m_now hB hj)
  rw [if_pos r, if_neg n10, if_neg (fun q => (m_full hB).mp q r), g1, k1, bd_some, bd_some, k5, bd_some, ix_n (show d < 17 by omega) (by omega), n1p, ix_n (show 1 + d < 25 by omega) (by omega), nI_clamp (by omega), nI_clamp (by omega), k7 _ (by omega)]
  have hT := hB.step (a := 1) (b := 0) (s := nI d) (by omega) n0 (wf_cut (wf_now hB) hd hd2) (Or.inr (Or.inl ⟨rfl, d, hd, hd2, rfl, by omega, rfl⟩)) g2 g3 (m' := m2) ((k2.up (fun k j q => by omega)).tr (k6.up (fun k j q => by omega))) (by rw [k6.1 _ _ (by omega)]; exact k3) k7 (fun j => by rw [k6.1 _ _ (by omega)]; exact k4 j)
  refine ⟨_, _, _, ?_, rfl, h.tab (pv_ptc g3) ((k2.up (fun k j q => by unfold PTM; omega)).tr (k6.up (fun k j q => by unfold PTM; omega))) ⟨_, _, _, _, _, _, _, hT⟩⟩
  have : ui (noteC c' dm 1 0 (nI d)) 12 d = nI (cutV (w dm) d (1 + d)) := by simp [noteC, ui_si_r, g2.2.2.1 d (by omega)]
  rw [this]
theorem fit_bit {kd up lw : Nat → Nat} {v : Nat → Nat} {i d : Nat} (hd : 2 ≤ d) (hd2 : d ≤ 16) (h : (fitW kd up lw v i).testBit d = true) : 1 ≤ v (1 + d) ∧ (v (18 + i)).testBit d = false ∧ 720720 / d ≤ due up lw i - Sm (v (18 + i)) := by
  unfold fitW fitN at h
  rw [mkn_bit] at h
  simp only [Bool.and_eq_true, decide_eq_true_eq, Bool.not_eq_true'] at h
  exact ⟨h.2.1, h.2.2.2.1, h.2.2.2.2⟩
theorem dvp {d : Nat} (hd : 2 ≤ d) (hd2 : d ≤ 16) : 1 ≤ 720720 / d := by
  have := dv16 d (by omega) hd
  rcases Nat.eq_zero_or_pos (720720 / d) with e | e
  · rw [e] at this; omega
  · exact e
theorem op_give {c m : UU} (h : Inv c m) (x y : Int32) : Ok (f_X5_give x y c) (f_X6_give x y m) := by
  obtain ⟨n, kd, up, lw, dm, w, kp, hB⟩ := h.2.2.2.2
  have h7 := hB.1.1
  unfold f_X5_give f_X6_give
  rcases i_cases x (n := n) (by omega) with hx | ⟨i, hi, rfl⟩
  · rw [c_isW_out hB hx, m_isW_out hB hx, bd_some, bd_some, if_pos t00, if_pos t00]
    exact Ok.same h _
  rw [c_isW_in hB hi, m_isW_in hB hi, bd_some, bd_some, if_neg n10, if_neg n10]
  rcases part_cases y with ⟨e1, e2⟩ | ⟨d, hd, hd2, rfl, e1, e2⟩
  · rw [e1, e2, if_pos t00, if_pos t00]
    exact Ok.same h _
  have hfl : fitW kd up lw (w dm) i < 2 ^ 17 := mkn_lt _ _
  unfold f_X4_canGive
  rw [e1, e2, if_neg n10, if_neg n10, c_fit hB hi, bd_some, bd_some, m_fits hB hi, bd_some, holds_eq (by omega) (by omega), has_eq (by omega) (by omega)]
  by_cases z : ¬ (fitW kd up lw (w dm) i).testBit d = true
  · rw [if_neg z, if_pos t00, if_pos t00]
    exact Ok.same h _
  have z := Decidable.not_not.mp z
  obtain ⟨z1, z2, z3⟩ := fit_bit hd hd2 z
  have hp := dvp hd hd2
  obtain ⟨f1, f2, f3⟩ := (wf_now hB).2.2 i hi
  have z4 : Sm (w dm (18 + i)) + 720720 / d ≤ due up lw i := by generalize 720720 / d = p at *; omega
  rw [if_pos z, if_neg n10, if_neg n10, show f_X4_hasRoomFor (1 : Int32) c = _ from c_room hB (k := 1) (by omega), bd_some]
  by_cases r : ¬ dm + 1 ≤ 40
  · rw [if_neg r, if_pos t00, if_pos ((m_full hB).mpr r)]
    exact Ok.same h _
  have r := Decidable.not_not.mp r
  have hly := (wf_now hB).2.1 d (by omega)
  obtain ⟨c', g1, g2, g3⟩ := c_toHand hB.cv h7 hi hd hd2 z1 (by omega) z2 z4
  obtain ⟨m1, k1, k2, k3, k4⟩ := f_rem (dm := dm) hB.2.2.1.2.1 (by omega)
  obtain ⟨m2, k5, k6, k7⟩ := m_gives (v := w dm) (i := i) (by omega) hd hd2 z1 z2 (u := m1) (fun j hj => by rw [k2.1 _ _ (by omega)]; exact m_now hB hj)
  have hW := wf_give (wf_now hB) hd hd2 z2 z4
  have hml := (hW.2.2 i hi).1
  unfold f_X4_givePart
  rw [if_pos r, if_neg n10, if_neg (fun q => (m_full hB).mp q r), g1, k1, bd_some, bd_some, f_note (dm := dm) (by rw [g3.1 _ _ (by unfold PV; omega)]; exact hB.2.1.2.2.1) (by omega), bd_some, bd_some, k5, bd_some, ix_n (show i < 7 by omega) (by omega), n18, ix_n (show 18 + i < 25 by omega) (by omega), nI_clamp (by omega), nI_clamp (by omega), k7 _ (by omega), bits_eq hml, bd_some]
  have hT := hB.step (a := 2) (b := nI i) (s := nI d) (by omega) (by omega) hW (Or.inr (Or.inr (Or.inl ⟨rfl, i, d, hi, hd, hd2, rfl, rfl, z1, z2, rfl⟩))) g2 g3 (m' := m2) ((k2.up (fun k j q => by omega)).tr (k6.up (fun k j q => by omega))) (by rw [k6.1 _ _ (by omega)]; exact k3) k7 (fun j => by rw [k6.1 _ _ (by omega)]; exact k4 j)
  refine ⟨_, _, _, ?_, rfl, h.tab (pv_ptc g3) ((k2.up (fun k j q => by unfold PTM; omega)).tr (k6.up (fun k j q => by unfold PTM; omega))) ⟨_, _, _, _, _, _, _, hT⟩⟩
  have : ui (noteC c' dm 2 (nI i) (nI d)) 16 i = nI (giveV (w dm) i d (18 + i)) := by simp [noteC, ui_si_r, (g2.2.2.2 i hi).1]
  rw [this, bitCount_eq hml]
theorem op_back {c m : UU} (h : Inv c m) (x y : Int32) : Ok (f_X5_back x y c) (f_X6_back x y m) := by
  obtain ⟨n, kd, up, lw, dm, w, kp, hB⟩ := h.2.2.2.2
  have h7 := hB.1.1
  unfold f_X5_back f_X6_back
  rcases i_cases x (n := n) (by omega) with hx | ⟨i, hi, rfl⟩
  · rw [c_isW_out hB hx, m_isW_out hB hx, bd_some, bd_some, if_pos t00, if_pos t00]
    exact Ok.same h _
  rw [c_isW_in hB hi, m_isW_in hB hi, bd_some, bd_some, if_neg n10, if_neg n10]
  rcases part_cases y with ⟨e1, e2⟩ | ⟨d, hd, hd2, rfl, e1, e2⟩
  · rw [e1, e2, if_pos t00, if_pos t00]
    exact Ok.same h _
  obtain ⟨f1, f2, f3⟩ := (wf_now hB).2.2 i hi
  unfold f_X4_canTakeBack
  rw [e1, e2, if_neg n10, if_neg n10, ix_n (show i < 7 by omega) (by omega), nI_clamp (show i < 2 ^ 31 by omega), show ui c 16 i = _ from (hB.2.1.2.2.2.2.2.1 i hi).2.2.2.1, bd_some, n18, ix_n (show 18 + i < 25 by omega) (by omega), nI_clamp (by omega), m_now hB (by omega), holds_eq (by omega) (by omega), has_eq (by omega) (by omega)]
  by_cases z : ¬ (w dm (18 + i)).testBit d = true
  · rw [if_neg z, if_pos t00, if_pos t00]
    exact Ok.same h _
  have z := Decidable.not_not.mp z
  rw [if_pos z, if_neg n10, if_neg n10, show f_X4_hasRoomFor (1 : Int32) c = _ from c_room hB (k := 1) (by omega), bd_some]
  by_cases r : ¬ dm + 1 ≤ 40
  · rw [if_neg r, if_pos t00, if_pos ((m_full hB).mpr r)]
    exact Ok.same h _
  have r := Decidable.not_not.mp r
  have hly := (wf_now hB).2.1 d (by omega)
  obtain ⟨c', g1, g2, g3⟩ := c_fromHand hB.cv h7 hi hd hd2 (by omega) f1 z f3
  obtain ⟨m1, k1, k2, k3, k4⟩ := f_rem (dm := dm) hB.2.2.1.2.1 (by omega)
  obtain ⟨m2, k5, k6, k7⟩ := m_backs (v := w dm) (i := i) (by omega) hd hd2 f1 z (u := m1) (fun j hj => by rw [k2.1 _ _ (by omega)]; exact m_now hB hj)
  have hW := wf_back (wf_now hB) hi hd hd2 z
  have hml := (hW.2.2 i hi).1
  unfold f_X4_takeBack
  rw [if_pos r, if_neg n10, if_neg (fun q => (m_full hB).mp q r), g1, k1, bd_some, bd_some, f_note (dm := dm) (by rw [g3.1 _ _ (by unfold PV; omega)]; exact hB.2.1.2.2.1) (by omega), bd_some, bd_some, k5, bd_some, ix_n (show i < 7 by omega) (by omega), ix_n (show 18 + i < 25 by omega) (by omega), k7 _ (by omega), bits_eq hml, bd_some]
  have hT := hB.step (a := 3) (b := nI i) (s := nI d) (by omega) (by omega) hW (Or.inr (Or.inr (Or.inr (Or.inl ⟨rfl, i, d, hi, hd, hd2, rfl, rfl, z, rfl⟩)))) g2 g3 (m' := m2) ((k2.up (fun k j q => by omega)).tr (k6.up (fun k j q => by omega))) (by rw [k6.1 _ _ (by omega)]; exact k3) k7 (fun j => by rw [k6.1 _ _ (by omega)]; exact k4 j)
  refine ⟨_, _, _, ?_, rfl, h.tab (pv_ptc g3) ((k2.up (fun k j q => by unfold PTM; omega)).tr (k6.up (fun k j q => by unfold PTM; omega))) ⟨_, _, _, _, _, _, _, hT⟩⟩
  have : ui (noteC c' dm 3 (nI i) (nI d)) 16 i = nI (backV (w dm) i d (18 + i)) := by simp [noteC, ui_si_r, (g2.2.2.2 i hi).1]
  rw [this, bitCount_eq hml]
