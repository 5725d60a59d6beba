theorem nI_mod {a b : Nat} (ha : a < 2 ^ 31) (hb : 0 < b) (hb2 : b < 2 ^ 31) : nI a - nI a / nI b * nI b = nI (a % b) := by
  have h2 := Nat.div_add_mod a b
  rw [Nat.mul_comm] at h2
  rw [pk_div ha hb hb2, pk_mul, pk_sub (by omega)]
  congr 1
  omega
theorem wf_up {n : Nat} {up lw : Nat → Nat} {dm : Nat} {v : Nat → Nat} (h : WF n up lw dm v) : WF n up lw (dm + 1) v := ⟨h.1, fun d hd => by have := h.2.1 d hd; omega, h.2.2⟩
theorem lot_step {c m : UU} {n : Nat} {kd up lw : Nat → Nat} {dm : Nat} {w : Nat → Nat → Nat} {kp : KP} (h : Inv c m) (hB : TB n kd up lw dm w kp c m) (hd : dm < 40) (h0 : 0 < n) {X : Nat} (hX : X < 2 ^ 31) {K : Int32 → Int64 → Int32 → UU → Option (Int32 × UU)} {x1 x5 : Int32} :
    ∃ c' m' w', f_X4_deedByLot (nI X) c = some c' ∧ Inv c' m' ∧ TB n kd up lw (dm + 1) w' kp c' m' ∧
      (lt (((((lN X / (8 : Int64)) - (lN X / (8 : Int64)) / (15 : Int64) * (15 : Int64)) : Int64).toInt32) + (2 : Int32)) (fun (x6_9 : Int32) => nzl (((ui m 55 17) : Int32).toInt64) (lt ((((lN X / (128 : Int64)) - (lN X / (128 : Int64)) / (((ui m 55 17) : Int32).toInt64) * (((ui m 55 17) : Int32).toInt64)) : Int64).toInt32) (fun (x7_11 : Int32) => (f_X6_remember m).bind (fun (q_12 : UU) => (if (lg_cmp (lN X - lN X / (4 : Int64) * (4 : Int64)) (0 : Int64)) = 0 then ix (0 : Int32) 25 ((if (ui q_12 68 ((0 : Int32) : Int32).toNatClampNeg) ≤ 0 then f_X6_lots_191 K x1 (lN X) x5 q_12 else (f_X6_cuts x6_9 q_12).bind (fun (q_24 : UU) => f_X6_lots_191 K x1 (lN X) x5 q_24))) else (if (lg_cmp (lN X - lN X / (4 : Int64) * (4 : Int64)) (3 : Int64)) = 0 then ix ((18 : Int32) + x7_11) 25 ((if (f_X6_has (ui q_12 68 (((18 : Int32) + x7_11) : Int32).toNatClampNeg) x6_9) = 0 then f_X6_lots_191 K x1 (lN X) x5 q_12 else (f_X6_comesBack x7_11 x6_9 q_12).bind (fun (q_21 : UU) => f_X6_lots_191 K x1 (lN X) x5 q_21))) else (f_X6_fits x7_11 q_12).bind (fun (q_15 : Int32) => (if (f_X6_has q_15 x6_9) = 0 then f_X6_lots_191 K x1 (lN X) x5 q_12 else (f_X6_gives x7_11 x6_9 q_12).bind (fun (q_18 : UU) => f_X6_lots_191 K x1 (lN X) x5 q_18))))))))) = f_X6_lots_191 K x1 (lN X) x5 m') := by
  have h7 := hB.1.1
  have hq := Nat.div_le_self X 8
  have hq2 := Nat.div_le_self X 128
  have m15 : X / 8 % 15 < 15 := Nat.mod_lt _ (by omega)
  have mn : X / 128 % n < n := Nat.mod_lt _ h0
  have m4 : X % 4 < 4 := Nat.mod_lt _ (by omega)
  generalize ed : X / 8 % 15 + 2 = d at *
  have hd1 : 2 ≤ d := by omega
  have hd2 : d ≤ 16 := by omega
  generalize ei : X / 128 % n = i at *
  unfold f_X4_deedByLot
  rw [hB.2.1.1, if_neg (nI_ne0 h0 (by omega)), show nI X / (8 : Int32) = nI (X / 8) from pk_div (d := 8) hX (by omega) (by omega), show nI (X / 8) - nI (X / 8) / (15 : Int32) * (15 : Int32) = nI (X / 8 % 15) from nI_mod (b := 15) (by omega) (by omega) (by omega), show nI (X / 8 % 15) + (2 : Int32) = nI (X / 8 % 15 + 2) from nI_add _ 2, ed, show nI X / (128 : Int32) = nI (X / 128) from pk_div (d := 128) hX (by omega) (by omega), nI_mod (by omega) h0 (by omega), ei, show nI X - nI X / (4 : Int32) * (4 : Int32) = nI (X % 4) from nI_mod (b := 4) hX (by omega) (by omega), lt_eq, lt_eq, lt_eq]
  rw [show lN X / (8 : Int64) = lN (X / 8) from lN_div (b := 8) (by omega) (by omega), show lN (X / 8) - lN (X / 8) / (15 : Int64) * (15 : Int64) = lN (X / 8 % 15) from lN_mod (b := 15) (by omega) (by omega), lN_i, show nI (X / 8 % 15) + (2 : Int32) = nI (X / 8 % 15 + 2) from nI_add _ 2, ed, hB.2.2.1.1, nI_l (by omega), show lN X / (128 : Int64) = lN (X / 128) from lN_div (b := 128) (by omega) (by omega), lN_mod (by omega) (by omega), lN_i, ei, show lN X - lN X / (4 : Int64) * (4 : Int64) = lN (X % 4) from lN_mod (b := 4) (by omega) (by omega), lt_eq, nzl_ok (lN_ne0 (by omega) h0), lt_eq]
  obtain ⟨m1, k1, k2, k3, k4⟩ := f_rem (dm := dm) hB.2.2.1.2.1 (by omega)
  have u68 : ∀ j, j < 25 → ui m1 68 j = nI (w dm j) := fun j hj => by rw [k2.1 _ _ (by omega)]; exact m_now hB hj
  have hT0 := hB.step (a := 0) (b := 0) (s := 0) hd h0 (wf_up (wf_now hB)) (Or.inl ⟨rfl, rfl⟩) hB.cv Fs.rf (m' := m1) (k2.up (fun k j q => by omega)) k3 u68 k4
  have hI0 : Inv (noteC c dm 0 0 0) m1 := h.tab (pv_ptc Fs.rf) (k2.up (fun k j q => by unfold PTM; omega)) ⟨_, _, _, _, _, _, _, hT0⟩
  have n0 : f_X4_deedByLot_108 c = some (noteC c dm 0 0 0) := by
    unfold f_X4_deedByLot_108
    rw [f_note (dm := dm) hB.2.1.2.2.1 hd]
    rfl
  have hb0 := (wf_now hB).1
  obtain ⟨f1, f2, f3⟩ := (wf_now hB).2.2 i mn
  rw [k1, bd_some]
  have e4 : X % 4 = 0 ∨ X % 4 = 1 ∨ X % 4 = 2 ∨ X % 4 = 3 := by omega
  rcases e4 with e | e | e | e
  · rw [e, if_pos (show nI 0 = 0 from rfl), if_pos cmp_00, i0, c0, u68 0 (by omega), c_canCut hB, bd_some]
    by_cases z : w dm 0 = 0
    · rw [if_pos z, if_pos t00, z, if_pos (show nI 0 ≤ 0 by decide)]
      unfold f_X4_deedByLot_54 f_X4_deedByLot_78
      rw [if_neg (by decide), if_neg (by decide), if_neg (by decide), n0]
      exact ⟨_, m1, _, rfl, hI0, hT0, rfl⟩
    · rw [if_neg z, if_neg n10, if_neg (nI_nle (by omega) (by omega))]
      obtain ⟨c', g1, g2, g3⟩ := c_cut hB hd hd1 hd2 (show 0 < w dm 0 by omega)
      obtain ⟨m2, k5, k6, k7⟩ := m_cuts (v := w dm) hd1 hd2 (by omega) (u := m1) u68
      have hT := hB.step (a := 1) (b := 0) (s := nI d) hd h0 (wf_cut (wf_now hB) hd1 hd2) (Or.inr (Or.inl ⟨rfl, d, hd1, hd2, rfl, by omega, rfl⟩)) g2 g3 (m' := m2) ((k2.up (fun k j q => by omega)).tr (k6.up (fun k j q => by omega))) (by rw [k6.1 _ _ (by omega)]; exact k3) k7 (fun j => by rw [k6.1 _ _ (by omega)]; exact k4 j)
      rw [g1, k5, bd_some, bd_some]
      exact ⟨_, m2, _, rfl, h.tab (pv_ptc g3) ((k2.up (fun k j q => by unfold PTM; omega)).tr (k6.up (fun k j q => by unfold PTM; omega))) ⟨_, _, _, _, _, _, _, hT⟩, hT, rfl⟩
  · have hfl : fitW kd up lw (w dm) i < 2 ^ 17 := mkn_lt _ _
    have mf := m_fits hT0 mn
    rw [show upw w (dm + 1) (w dm) (dm + 1) = w dm by simp [upw]] at mf
    rw [e, if_neg (show ¬ nI 1 = 0 by decide), if_neg (show ¬ lg_cmp (lN 1) 0 = 0 from cmp_0 (by omega) (by omega)), if_neg (show ¬ lg_cmp (lN 1) 3 = 0 from fun q => absurd (cmp_eq.mp q) (by decide)), mf, bd_some]
    unfold f_X4_deedByLot_54 f_X4_deedByLot_78 f_X4_deedByLot_90 f_X4_canGive
    rw [if_neg (show ¬ nI 1 = 3 by decide), if_pos (show nI 1 = 1 from rfl), c_fit hB mn, bd_some, bd_some, holds_eq (by omega) (by omega), has_eq (by omega) (by omega)]
    by_cases z : (fitW kd up lw (w dm) i).testBit d = true
    · obtain ⟨z1, z2, z3⟩ := fit_bit hd1 hd2 z
      have hp := dvp hd1 hd2
      have z4 : Sm (w dm (18 + i)) + 720720 / d ≤ due up lw i := by generalize 720720 / d = p at *; omega
      have hly := (wf_now hB).2.1 d (by omega)
      obtain ⟨c', g1, g2, g3⟩ := c_toHand hB.cv h7 mn hd1 hd2 z1 (by omega) z2 z4
      obtain ⟨m2, k5, k6, k7⟩ := m_gives (v := w dm) (i := i) (by omega) hd1 hd2 z1 z2 (u := m1) u68
      have hW := wf_give (wf_now hB) hd1 hd2 z2 z4
      unfold f_X4_givePart
      rw [if_pos z, if_neg n10, if_neg n10, g1, bd_some, f_note (dm := dm) (by rw [g3.1 _ _ (by unfold PV; omega)]; exact hB.2.1.2.2.1) (by omega), bd_some, bd_some, k5, bd_some]
      have hT := hB.step (a := 2) (b := nI i) (s := nI d) hd h0 hW (Or.inr (Or.inr (Or.inl ⟨rfl, i, d, mn, hd1, hd2, rfl, rfl, z1, z2, rfl⟩))) g2 g3 (m' := m2) ((k2.up (fun k j q => by omega)).tr (k6.up (fun k j q => by omega))) (by rw [k6.1 _ _ (by omega)]; exact k3) k7 (fun j => by rw [k6.1 _ _ (by omega)]; exact k4 j)
      exact ⟨_, m2, _, rfl, h.tab (pv_ptc g3) ((k2.up (fun k j q => by unfold PTM; omega)).tr (k6.up (fun k j q => by unfold PTM; omega))) ⟨_, _, _, _, _, _, _, hT⟩, hT, rfl⟩
    · rw [if_neg z, if_pos t00, if_pos t00, n0]
      exact ⟨_, m1, _, rfl, hI0, hT0, rfl⟩
  · have hfl : fitW kd up lw (w dm) i < 2 ^ 17 := mkn_lt _ _
    have mf := m_fits hT0 mn
    rw [show upw w (dm + 1) (w dm) (dm + 1) = w dm by simp [upw]] at mf
    rw [e, if_neg (show ¬ nI 2 = 0 by decide), if_neg (show ¬ lg_cmp (lN 2) 0 = 0 from cmp_0 (by omega) (by omega)), if_neg (show ¬ lg_cmp (lN 2) 3 = 0 from fun q => absurd (cmp_eq.mp q) (by decide)), mf, bd_some]
    unfold f_X4_deedByLot_54 f_X4_deedByLot_78 f_X4_deedByLot_90 f_X4_canGive
    rw [if_neg (show ¬ nI 2 = 3 by decide), if_neg (show ¬ nI 2 = 1 by decide), if_pos (show nI 2 = 2 from rfl), c_fit hB mn, bd_some, bd_some, holds_eq (by omega) (by omega), has_eq (by omega) (by omega)]
    by_cases z : (fitW kd up lw (w dm) i).testBit d = true
    · obtain ⟨z1, z2, z3⟩ := fit_bit hd1 hd2 z
      have hp := dvp hd1 hd2
      have z4 : Sm (w dm (18 + i)) + 720720 / d ≤ due up lw i := by generalize 720720 / d = p at *; omega
      have hly := (wf_now hB).2.1 d (by omega)
      obtain ⟨c', g1, g2, g3⟩ := c_toHand hB.cv h7 mn hd1 hd2 z1 (by omega) z2 z4
      obtain ⟨m2, k5, k6, k7⟩ := m_gives (v := w dm) (i := i) (by omega) hd1 hd2 z1 z2 (u := m1) u68
      have hW := wf_give (wf_now hB) hd1 hd2 z2 z4
      unfold f_X4_givePart
      rw [if_pos z, if_neg n10, if_neg n10, g1, bd_some, f_note (dm := dm) (by rw [g3.1 _ _ (by unfold PV; omega)]; exact hB.2.1.2.2.1) (by omega), bd_some, bd_some, k5, bd_some]
      have hT := hB.step (a := 2) (b := nI i) (s := nI d) hd h0 hW (Or.inr (Or.inr (Or.inl ⟨rfl, i, d, mn, hd1, hd2, rfl, rfl, z1, z2, rfl⟩))) g2 g3 (m' := m2) ((k2.up (fun k j q => by omega)).tr (k6.up (fun k j q => by omega))) (by rw [k6.1 _ _ (by omega)]; exact k3) k7 (fun j => by rw [k6.1 _ _ (by omega)]; exact k4 j)
      exact ⟨_, m2, _, rfl, h.tab (pv_ptc g3) ((k2.up (fun k j q => by unfold PTM; omega)).tr (k6.up (fun k j q => by unfold PTM; omega))) ⟨_, _, _, _, _, _, _, hT⟩, hT, rfl⟩
    · rw [if_neg z, if_pos t00, if_pos t00, n0]
      exact ⟨_, m1, _, rfl, hI0, hT0, rfl⟩
  · rw [e, if_neg (show ¬ nI 3 = 0 by decide), if_neg (show ¬ lg_cmp (lN 3) 0 = 0 from cmp_0 (by omega) (by omega)), if_pos (show lg_cmp (lN 3) 3 = 0 from cmp_eq.mpr rfl), n18, ix_n (show 18 + i < 25 by omega) (by omega), nI_clamp (by omega), u68 _ (by omega)]
    unfold f_X4_deedByLot_54 f_X4_canTakeBack f_X4_deedByLot_78
    rw [if_pos (show nI 3 = 3 from rfl), if_neg (show ¬ nI 3 = 1 by decide), if_neg (show ¬ nI 3 = 2 by decide), ix_n (show i < 7 by omega) (by omega), nI_clamp (show i < 2 ^ 31 by omega), show ui c 16 i = _ from (hB.2.1.2.2.2.2.2.1 i mn).2.2.2.1, bd_some, holds_eq (by omega) (by omega), has_eq (by omega) (by omega)]
    by_cases z : (w dm (18 + i)).testBit d = true
    · have hly := (wf_now hB).2.1 d (by omega)
      obtain ⟨c', g1, g2, g3⟩ := c_fromHand hB.cv h7 mn hd1 hd2 (by omega) f1 z f3
      obtain ⟨m2, k5, k6, k7⟩ := m_backs (v := w dm) (i := i) (by omega) hd1 hd2 f1 z (u := m1) u68
      have hW := wf_back (wf_now hB) mn hd1 hd2 z
      unfold f_X4_takeBack
      rw [if_pos z, if_neg n10, if_neg n10, g1, bd_some, f_note (dm := dm) (by rw [g3.1 _ _ (by unfold PV; omega)]; exact hB.2.1.2.2.1) (by omega), bd_some, bd_some, k5, bd_some]
      have hT := hB.step (a := 3) (b := nI i) (s := nI d) hd h0 hW (Or.inr (Or.inr (Or.inr (Or.inl ⟨rfl, i, d, mn, hd1, hd2, rfl, rfl, z, rfl⟩)))) g2 g3 (m' := m2) ((k2.up (fun k j q => by omega)).tr (k6.up (fun k j q => by omega))) (by rw [k6.1 _ _ (by omega)]; exact k3) k7 (fun j => by rw [k6.1 _ _ (by omega)]; exact k4 j)
      exact ⟨_, m2, _, rfl, h.tab (pv_ptc g3) ((k2.up (fun k j q => by unfold PTM; omega)).tr (k6.up (fun k j q => by unfold PTM; omega))) ⟨_, _, _, _, _, _, _, hT⟩, hT, rfl⟩
    · rw [if_neg z, if_pos t00, if_pos t00, n0]
      exact ⟨_, m1, _, rfl, hI0, hT0, rfl⟩
theorem lots_l {n : Nat} {kd up lw : Nat → Nat} {kp : KP} (h0 : 0 < n) {N : Nat} (hN : N ≤ 20) : ∀ (d i F G X dm : Nat) (w : Nat → Nat → Nat) (c m : UU), i + d = N → d < F → d < G → X < 2 ^ 31 → dm + d ≤ 40 → Inv c m → TB n kd up lw dm w kp c m → Ok (f_X5_lots_58 F (nI N) (lN X) (nI i) c) (f_X6_lots_52 G (nI N) (lN X) (nI i) m) := by
  intro d
  induction d with
  | zero =>
    intro i F G X dm w c m h1 h2 h3 h4 h5 h hB
    obtain ⟨F, rfl⟩ : ∃ F0, F = F0 + 1 := ⟨F - 1, by omega⟩
    obtain ⟨G, rfl⟩ : ∃ G0, G = G0 + 1 := ⟨G - 1, by omega⟩
    obtain ⟨a, e1, e2⟩ := counted h (k := 3) (by omega)
    obtain ⟨b, e3, e4⟩ := ct3 hB
    have e5 : f_X6_counted 3 m = f_X6_counted_75 fu 0 2 m := by
      unfold f_X6_counted
      rw [if_neg (by decide), if_neg (by decide), if_neg (by decide), if_pos rfl]
    rw [f_X5_lots_58, f_X6_lots_52, if_pos (nI_le (by omega) (by omega)), if_pos (nI_le (by omega) (by omega)), e3, e5, e4]
    exact ⟨_, _, _, rfl, rfl, h⟩
  | succ d ih =>
    intro i F G X dm w c m h1 h2 h3 h4 h5 h hB
    obtain ⟨F, rfl⟩ : ∃ F0, F = F0 + 1 := ⟨F - 1, by omega⟩
    obtain ⟨G, rfl⟩ : ∃ G0, G = G0 + 1 := ⟨G - 1, by omega⟩
    have hx : X * 48271 % 2147483647 < 2147483647 := Nat.mod_lt _ (by omega)
    have ex : lN X * (48271 : Int64) - lN X * (48271 : Int64) / (2147483647 : Int64) * (2147483647 : Int64) = lN (X * 48271 % 2147483647) := by
      rw [show lN X * (48271 : Int64) = lN (X * 48271) from lN_mul _ _]
      exact lN_mod (b := 2147483647) (by omega) (by omega)
    have ey : (48271 : Int64) * lN X - (48271 : Int64) * lN X / (2147483647 : Int64) * (2147483647 : Int64) = lN (X * 48271 % 2147483647) := by
      rw [show (48271 : Int64) * lN X = lN (48271 * X) from lN_mul _ _, Nat.mul_comm 48271]
      exact lN_mod (b := 2147483647) (by omega) (by omega)
    obtain ⟨c', m', w', e1, e2, e3, e4⟩ := lot_step (x1 := nI N) (x5 := nI i) (K := f_X6_lots_52 G) h hB (by omega) h0 (X := X * 48271 % 2147483647) (by omega)
    rw [f_X5_lots_58, f_X6_lots_52, if_neg (nI_ge (by omega) (by omega)), if_neg (nI_ge (by omega) (by omega)), ex, ey, lt_eq, lt_eq, lN_i, e1, bd_some, lt_eq, nI_1, e4]
    unfold f_X6_lots_191
    rw [lt_eq, nI_1]
    exact ih (i + 1) F G _ (dm + 1) w' c' m' (by omega) (by omega) (by omega) (by omega) (by omega) e2 e3
theorem op_lots {c m : UU} (h : Inv c m) (x y : Int32) : Ok (f_X5_lots x y c) (f_X6_lots x y m) := by
  obtain ⟨n, kd, up, lw, dm, w, kp, hB⟩ := h.2.2.2.2
  have h7 := hB.1.1
  have hd40 := hB.2.1.2.2.2.2.2.2.1
  unfold f_X5_lots f_X6_lots
  by_cases a1 : x < 1
  · rw [if_pos a1, in_0 (Or.inl a1), if_pos t00]
    exact Ok.same h _
  by_cases a2 : (20 : Int32) < x
  · rw [if_neg a1, if_pos a2, in_0 (Or.inr a2), if_pos t00]
    exact Ok.same h _
  rw [if_neg a1, if_neg a2, in_1 a1 a2, if_neg n10]
  by_cases b1 : y < 1
  · rw [if_pos b1, in_0 (Or.inl b1), if_pos t00]
    exact Ok.same h _
  have b1' : ¬ y.toInt < 1 := fun q => b1 (i_lt.mpr q)
  have hmax : (2147483647 : Int32).toInt = 2147483647 := rfl
  have hmax2 : (2147483646 : Int32).toInt = 2147483646 := rfl
  by_cases b2 : y < 2147483647
  · have b3 : ¬ (2147483646 : Int32) < y := fun q => by
      have q1 := i_lt.mp q
      have q2 := i_lt.mp b2
      omega
    have q2 := i_lt.mp b2
    rw [if_neg b1, if_pos b2, in_1 b1 b3, if_neg n10, hB.2.1.1, hB.2.2.1.1]
    by_cases z : n = 0
    · rw [if_pos (by rw [z]; rfl), if_pos (by rw [z]; rfl)]
      exact Ok.same h _
    have x1 : ¬ x.toInt < 1 := fun q => a1 (i_lt.mpr q)
    have x2 : ¬ 20 < x.toInt := fun q => a2 (i_lt.mpr q)
    obtain ⟨N, hN, rfl⟩ := le_cases (x := x) (n := 20) (by omega) (i_le.mpr (show 0 ≤ x.toInt by omega)) (i_le.mpr (show x.toInt ≤ 20 by omega))
    have ey : y = nI y.toInt.toNat := i_eq.mpr (by rw [nI_toInt (by omega)]; omega)
    rw [if_neg (nI_ne0 (by omega) (by omega)), if_neg (nI_ne0 (by omega) (by omega)), c_room hB (by omega), bd_some, hB.2.2.1.2.1, nI_add]
    by_cases r : dm + N ≤ 40
    · rw [if_pos r, if_neg n10, if_pos (show nI (dm + N) ≤ 40 from nI_le (b := 40) r (by omega)), lt_eq, lt_eq, ey, nI_l (by omega)]
      exact lots_l (by omega) hN N 0 fu fu _ dm w c m (by omega) (by unfold fu; omega) (by unfold fu; omega) (by omega) r h hB
    · rw [if_neg r, if_pos t00, if_neg (show ¬ nI (dm + N) ≤ 40 from nI_ge (a := 40) (by omega) (by omega))]
      exact Ok.same h _
  · rw [if_neg b1, if_neg b2, in_0 (Or.inr (i_lt.mpr (by
      have : ¬ y.toInt < 2147483647 := fun q => b2 (i_lt.mpr q)
      omega))), if_pos t00]
    exact Ok.same h _
