theorem op_bake {c m : UU} (h : Inv c m) (x : Int32) : Ok (f_X5_bake x c) (f_X6_bake x m) := by
  obtain ⟨n, kd, up, lw, dm, w, kp, hB⟩ := h.2.2.2.2
  have h7 := hB.1.1
  have hb0 := (wf_now hB).1
  unfold f_X5_bake f_X6_bake
  by_cases h1 : x < 1
  · rw [if_pos h1, in_0 (Or.inl h1), if_pos t00]
    exact Ok.same h _
  have a1 : ¬ x.toInt < 1 := fun q => h1 (i_lt.mpr q)
  by_cases h2 : (9 : Int32) < x
  · have : (9 : Int) < x.toInt := i_lt.mp h2
    rw [if_neg h1, if_neg (show ¬ x ≤ 9 from fun q => absurd (i_le.mp q) (by show ¬ x.toInt ≤ 9; omega)), in_0 (Or.inr h2), if_pos t00]
    exact Ok.same h _
  have a2 : ¬ 9 < x.toInt := fun q => h2 (i_lt.mpr q)
  obtain ⟨k, hk, rfl⟩ := le_cases (x := x) (n := 9) (by omega) (i_le.mpr (show 0 ≤ x.toInt by omega)) (i_le.mpr (show x.toInt ≤ 9 by omega))
  rw [nI_toInt (by omega)] at a1
  rw [if_neg h1, if_pos (show nI k ≤ 9 from nI_le (b := 9) hk (by omega)), in_1 h1 h2, if_neg n10]
  unfold f_X4_canBake
  rw [hB.2.1.1, hB.2.2.1.1, hB.2.1.2.1]
  by_cases n0 : n = 0
  · subst n0
    rw [if_pos (by decide), bd_some, if_pos t00, if_pos (show nI 0 = 0 from rfl)]
    exact Ok.same h _
  rw [if_neg (nI_nle (by omega) (by omega)), if_neg (nI_ne0 (by omega) (by omega)), i0, c0, m_now hB (by omega)]
  by_cases l99 : w dm 0 = 99
  · rw [l99, if_pos (show (99 : Int32) ≤ nI 99 from nI_le (Nat.le_refl _) (by omega)), bd_some, if_pos t00, if_pos (show nI 99 = 99 from rfl)]
    exact Ok.same h _
  have l99' : ¬ nI (w dm 0) = (99 : Int32) := fun q => l99 ((nI_eq (by omega) (by omega)).mp (show nI (w dm 0) = nI 99 from q))
  rw [if_neg (show ¬ (99 : Int32) ≤ nI (w dm 0) from nI_ge (b := 99) (by omega) (by omega)), bd_some, if_neg n10, if_neg l99', show f_X4_hasRoomFor (1 : Int32) c = _ from c_room hB (k := 1) (by omega), bd_some]
  by_cases r : ¬ dm + 1 ≤ 40
  · rw [if_neg r, if_pos t00, if_pos ((m_full hB).mpr r)]
    exact Ok.same h _
  have r := Decidable.not_not.mp r
  obtain ⟨m1, k1, k2, k3, k4⟩ := f_rem (dm := dm) hB.2.2.1.2.1 (by omega)
  have m1now : ∀ j, j < 25 → ui m1 68 j = nI (w dm j) := fun j hj => by rw [k2.1 _ _ (by omega)]; exact m_now hB hj
  obtain ⟨bk, hbk⟩ : ∃ bk, bk = min k (99 - w dm 0) := ⟨_, rfl⟩
  have hsum : w dm 0 + bk ≤ 99 := by omega
  have e1 : (if (99 : Int32) - nI (w dm 0) < nI k then (99 : Int32) - nI (w dm 0) else nI k) = nI bk := by
    rw [show (99 : Int32) - nI (w dm 0) = nI (99 - w dm 0) from pk_sub (a := 99) hb0]
    by_cases q : 99 - w dm 0 < k
    · rw [if_pos (nI_lt q (by omega)), hbk, Nat.min_eq_right (by omega)]
    · rw [if_neg (nI_nlt (by omega) (by omega)), hbk, Nat.min_eq_left (by omega)]
  rw [if_pos r, if_neg n10, if_neg (fun q => (m_full hB).mp q r), k1, bd_some, i0, i0, m1now 0 (by omega)]
  unfold f_X4_bakeLoaves f_X6_bake_80
  rw [hB.2.1.2.1, e1, lt_eq, nI_add, lt_eq, f_note (dm := dm) (by simp [ui_si_r, hB.2.1.2.2.1]) (by omega), bd_some, bd_some, nI_add]
  have e2 : (if nI (w dm 0 + k) ≤ (99 : Int32) then ix (0 : Int32) 25 (lt (si m1 68 (0 : Int32).toNatClampNeg (nI (w dm 0 + k))) fun u_11 => ix (0 : Int32) 25 (some (ui u_11 68 (0 : Int32).toNatClampNeg, u_11))) else ix (0 : Int32) 25 (lt (si m1 68 (0 : Int32).toNatClampNeg (99 : Int32)) fun u_11 => ix (0 : Int32) 25 (some (ui u_11 68 (0 : Int32).toNatClampNeg, u_11)))) = some (nI (w dm 0 + bk), si m1 68 0 (nI (w dm 0 + bk))) := by
    by_cases q : w dm 0 + k ≤ 99
    · rw [if_pos (show nI (w dm 0 + k) ≤ (99 : Int32) from nI_le (b := 99) q (by omega)), i0, c0, lt_eq, i0, ui_si_r, if_pos ⟨rfl, rfl⟩, hbk, Nat.min_eq_left (by omega)]
    · rw [if_neg (show ¬ nI (w dm 0 + k) ≤ (99 : Int32) from nI_ge (a := 99) (by omega) (by omega)), i0, c0, lt_eq, i0, ui_si_r, if_pos ⟨rfl, rfl⟩, hbk, Nat.min_eq_right (by omega), show w dm 0 + (99 - w dm 0) = 99 by omega]
      rfl
  rw [e2]
  have g0 : bakeV (w dm) bk 0 = w dm 0 + bk := by simp [bakeV]
  have gj : ∀ j, j ≠ 0 → bakeV (w dm) bk j = w dm j := fun j hj => by simp [bakeV, hj]
  obtain ⟨v1, v2, v3, v4⟩ := hB.cv
  have hC : CV n up lw (bakeV (w dm) bk) (si c 11 1 (nI (w dm 0 + bk))) := by
    refine ⟨by simp [ui_si_r, g0], ?_, fun d hd => ?_, fun i hi => ?_⟩
    · have : lyM (bakeV (w dm) bk) = lyM (w dm) := mkn_cong (fun d _ _ => by rw [gj _ (by omega)])
      rw [this]
      simp only [ui_si_r]
      simpa using v2
    · rw [gj _ (by omega)]; simp [ui_si_r, v3 d hd]
    · rw [gj _ (by omega)]; simp [ui_si_r, v4 i hi]
  have hT := hB.step (a := 4) (b := 0) (s := nI bk) (by omega) (by omega) (wf_bake (wf_now hB) hsum) (Or.inr (Or.inr (Or.inr (Or.inr ⟨rfl, bk, rfl, hsum, rfl⟩)))) hC (Fs.si (by unfold PV; omega)) (m' := si m1 68 0 (nI (w dm 0 + bk))) ((k2.up (fun k j q => by omega)).tr (Fs.si (by omega))) (by simp [ui_si_r, k3]) (fun j hj => by
      rw [ui_si_r]
      by_cases q : j = 0
      · subst q; rw [if_pos ⟨rfl, rfl⟩, g0]
      · rw [if_neg (fun z => q z.2), gj _ q]; exact m1now j hj) (fun j => by rw [ui_si_r, if_neg (by omega)]; exact k4 j)
  refine ⟨_, _, _, ?_, rfl, h.tab (pv_ptc (Fs.si (by unfold PV; omega))) ((k2.up (fun k j q => by unfold PTM; omega)).tr (Fs.si (by unfold PTM; omega))) ⟨_, _, _, _, _, _, _, hT⟩⟩
  have : ui (noteC (si c 11 1 (nI (w dm 0 + bk))) dm 4 0 (nI bk)) 11 1 = nI (w dm 0 + bk) := by simp [noteC, ui_si_r]
  rw [this]
/-! undo -/
theorem back_give {v : Nat → Nat} {i d : Nat} (h2 : d ≤ 16) (h : 1 ≤ v (1 + d)) : backV (giveV v i d) i d = v := by
  funext j
  unfold backV giveV
  by_cases q1 : j = 1 + d
  · subst q1; rw [if_pos rfl, if_pos rfl]; omega
  · by_cases q2 : j = 18 + i
    · subst q2; rw [if_neg q1, if_pos rfl, if_neg q1, if_pos rfl]; omega
    · rw [if_neg q1, if_neg q2, if_neg q1, if_neg q2]
theorem give_back {v : Nat → Nat} {i d : Nat} (h2 : d ≤ 16) (h : 2 ^ d ≤ v (18 + i)) : giveV (backV v i d) i d = v := by
  funext j
  unfold giveV backV
  by_cases q1 : j = 1 + d
  · subst q1; rw [if_pos rfl, if_pos rfl]; omega
  · by_cases q2 : j = 18 + i
    · subst q2; rw [if_neg q1, if_pos rfl, if_neg q1, if_pos rfl]; omega
    · rw [if_neg q1, if_neg q2, if_neg q1, if_neg q2]
theorem neg_nI {a d : Nat} (h : d ≤ a) : nI a + -nI d = nI (a - d) := by
  rw [← Int32.sub_eq_add_neg, pk_sub h]
theorem c_undoOne {n : Nat} {up lw : Nat → Nat} {k : Nat} {v v' : Nat → Nat} {c : UU} {a b s : Int32} (hn : n ≤ 7) (hk : k < 40) (hW : WF n up lw k v) (hW' : WF n up lw (k + 1) v') (hC : CV n up lw v' c) (hS : Step n a b s v v') : ∃ c', f_X4_undoOne a b s c = some c' ∧ CV n up lw v c' ∧ Fs PV c c' := by
  obtain ⟨c1, c2, c3, c4⟩ := id hC
  unfold f_X4_undoOne
  rcases hS with ⟨rfl, rfl⟩ | ⟨rfl, d, h2, h3, rfl, h0, rfl⟩ | ⟨rfl, i, d, hi, h2, h3, rfl, rfl, h1, hb, rfl⟩ | ⟨rfl, i, d, hi, h2, h3, rfl, rfl, hb, rfl⟩ | ⟨rfl, q, rfl, hq, rfl⟩
  · rw [if_neg (by decide), if_neg (by decide), if_neg (by decide), if_neg (by decide)]
    exact ⟨c, rfl, hC, Fs.rf⟩
  · have hly := hW.2.1 d (by omega)
    have g1 : cutV v d (1 + d) = v (1 + d) + d := by unfold cutV; rw [if_neg (by omega), if_pos rfl]
    have g0 : cutV v d 0 = v 0 - 1 := by simp [cutV]
    rw [if_pos rfl, c1, g0, nI_1, show v 0 - 1 + 1 = v 0 by omega, lt_eq, chgL (a := v (1 + d) + d) (a' := v (1 + d)) (M := lyM (cutV v d)) h2 h3 (by simp only [ui_si_r]; simp [c3 d (by omega), g1]) (by simp only [ui_si_r]; simpa using c2) (by rw [neg_nI (by omega)]; congr 1; omega) (by omega), bd_some]
    refine ⟨_, rfl, ⟨by simp [ui_si_r], ?_, fun e he => ?_, fun i hi => ?_⟩, ((Fs.si (by unfold PV; omega)).tr (Fs.si (by unfold PV; omega))).tr (Fs.si (by unfold PV; omega))⟩
    · rw [lyM_upd (v := cutV v d) (v' := v) h2 h3 (fun e q he => by unfold cutV; rw [if_neg (by omega), if_neg (by omega)])]
      simp [ui_si_r]
    · by_cases q : e = d
      · subst q; simp [ui_si_r]
      · simp only [ui_si_r]
        simp [q, c3 e he]
        unfold cutV
        rw [if_neg (by omega), if_neg (by omega)]
    · have := c4 i hi
      have e : cutV v d (18 + i) = v (18 + i) := by unfold cutV; rw [if_neg (by omega), if_neg (by omega)]
      rw [e] at this
      simp [ui_si_r, this]
  · rw [if_neg (by decide), if_pos rfl]
    have hly := hW'.2.1 d (by omega)
    obtain ⟨f1, f2, f3⟩ := hW'.2.2 i hi
    have g2 : giveV v i d (18 + i) = v (18 + i) + 2 ^ d := by unfold giveV; rw [if_neg (by omega), if_pos rfl]
    obtain ⟨c', k1, k2, k3⟩ := c_fromHand hC hn hi h2 h3 (by omega) f1 (by rw [g2, pw_bit hb]; simp) f3
    rw [k1, bd_some]
    rw [back_give h3 h1] at k2
    exact ⟨c', rfl, k2, k3⟩
  · rw [if_neg (by decide), if_neg (by decide), if_pos rfl]
    have hly := hW'.2.1 d (by omega)
    obtain ⟨f1, f2, f3⟩ := hW.2.2 i hi
    obtain ⟨w1, w2, w3⟩ := andN_one hb f1
    have w4 := Sm_add w3 h2 h3
    rw [Nat.sub_add_cancel w2] at w4
    have g1 : backV v i d (1 + d) = v (1 + d) + 1 := by simp [backV]
    have g2 : backV v i d (18 + i) = v (18 + i) - 2 ^ d := by unfold backV; rw [if_neg (by omega), if_pos rfl]
    obtain ⟨c', k1, k2, k3⟩ := c_toHand hC hn hi h2 h3 (by rw [g1]; omega) (by omega) (by rw [g2]; exact w3) (by rw [g2, ← w4]; exact f3)
    rw [k1, bd_some]
    rw [give_back h3 w2] at k2
    exact ⟨c', rfl, k2, k3⟩
  · have g0 : bakeV v q 0 = v 0 + q := by simp [bakeV]
    have gj : ∀ j, j ≠ 0 → bakeV v q j = v j := fun j hj => by simp [bakeV, hj]
    rw [if_neg (by decide), if_neg (by decide), if_neg (by decide), if_pos rfl, c1, g0, pk_sub (by omega), show v 0 + q - q = v 0 by omega, lt_eq]
    refine ⟨_, rfl, ⟨by simp [ui_si_r], ?_, fun e he => ?_, fun i hi => ?_⟩, Fs.si (by unfold PV; omega)⟩
    · have : lyM (bakeV v q) = lyM v := mkn_cong (fun d _ _ => by rw [gj _ (by omega)])
      rw [this] at c2
      simp only [ui_si_r]
      simpa using c2
    · have := c3 e he
      rw [gj _ (by omega)] at this
      simp [ui_si_r, this]
    · have := c4 i hi
      rw [gj _ (by omega)] at this
      simp [ui_si_r, this]
