theorem cpk_17 {α : Type} {x : Option α} : cpk (0 : Int32) 17 (0 : Int32) 17 (17 : Int32) x = x := if_neg (by decide)
theorem cpk_7 {α : Type} {x : Option α} : cpk (0 : Int32) 7 (0 : Int32) 7 (7 : Int32) x = x := if_neg (by decide)
theorem cpk_40 {α : Type} {x : Option α} : cpk (0 : Int32) 40 (0 : Int32) 40 (40 : Int32) x = x := if_neg (by decide)
theorem l17 : (17 : Int32).toNatClampNeg = 17 := rfl
theorem l7 : (7 : Int32).toNatClampNeg = 7 := rfl
theorem l40 : (40 : Int32).toNatClampNeg = 40 := rfl
def tp (b b2 : Nat) : Prop := (b = 11 ∧ (b2 = 22 ∨ b2 = 32 ∨ b2 = 42)) ∨ (b2 = 11 ∧ (b = 22 ∨ b = 32 ∨ b = 42))
set_option maxHeartbeats 4000000 in
theorem become {b b2 : Nat} (h : tp b b2) (u : UU) : ∃ u', f_X4_becomeLike b b2 u = some u' ∧ (∀ j, j = 0 ∨ j = 1 ∨ j = 2 ∨ j = 4 → ui u' b j = ui u b2 j) ∧ (∀ j, j < 17 → ui u' (b + 1) j = ui u (b2 + 1) j) ∧ (∀ j, j < 7 → ui u' (b + 2) j = ui u (b2 + 2) j ∧ ui u' (b + 3) j = ui u (b2 + 3) j ∧ ui u' (b + 4) j = ui u (b2 + 4) j ∧ ui u' (b + 5) j = ui u (b2 + 5) j ∧ ui u' (b + 6) j = ui u (b2 + 6) j) ∧ (∀ j, j < 40 → ui u' (b + 7) j = ui u (b2 + 7) j ∧ ui u' (b + 8) j = ui u (b2 + 8) j ∧ ui u' (b + 9) j = ui u (b2 + 9) j) ∧ Fs (fun k _ => b ≤ k ∧ k ≤ b + 9) u u' := by
  unfold f_X4_becomeLike
  simp only [lt_eq, cpk_17, cpk_7, cpk_40, c0, l17, l7, l40]
  refine ⟨_, rfl, ?_, ?_, ?_, ?_, ?_⟩
  · intro j hj
    rcases h with ⟨rfl, rfl | rfl | rfl⟩ | ⟨rfl, rfl | rfl | rfl⟩ <;> rcases hj with rfl | rfl | rfl | rfl <;> simp [ui_sc_r, ui_si_r]
  · intro j hj
    rcases h with ⟨rfl, rfl | rfl | rfl⟩ | ⟨rfl, rfl | rfl | rfl⟩ <;> simp [ui_sc_r, ui_si_r, hj]
  · intro j hj
    rcases h with ⟨rfl, rfl | rfl | rfl⟩ | ⟨rfl, rfl | rfl | rfl⟩ <;> simp [ui_sc_r, ui_si_r, hj]
  · intro j hj
    rcases h with ⟨rfl, rfl | rfl | rfl⟩ | ⟨rfl, rfl | rfl | rfl⟩ <;> simp [ui_sc_r, ui_si_r, hj]
  · have fsi : ∀ (v : UU) (j : Nat) (x : Int32), Fs (fun k _ => b ≤ k ∧ k ≤ b + 9) v (si v b j x) := fun v j x => Fs.si (by omega)
    have fsc : ∀ (v : UU) (q k0 n : Nat), q ≤ 9 → Fs (fun k _ => b ≤ k ∧ k ≤ b + 9) v (sc v k0 0 (b + q) 0 n) := fun v q k0 n hq => (Fr.sc (ks := [b + q]) (by simp)).fs (fun a _ z => by simp at z; omega)
    exact ((((((((((((fsi _ _ _).tr (fsi _ _ _)).tr (fsi _ _ _)).tr (fsi _ _ _)).tr (fsc _ 1 _ _ (by omega))).tr (fsc _ 2 _ _ (by omega))).tr (fsc _ 3 _ _ (by omega))).tr (fsc _ 4 _ _ (by omega))).tr (fsc _ 5 _ _ (by omega))).tr (fsc _ 6 _ _ (by omega))).tr (fsc _ 7 _ _ (by omega))).tr (fsc _ 8 _ _ (by omega))).tr (fsc _ 9 _ _ (by omega))
theorem TC.copy {b b2 n : Nat} {kd up lw : Nat → Nat} {dm : Nat} {w : Nat → Nat → Nat} {u u' : UU} (hn : n ≤ 7) (h : TC b2 n kd up lw dm w u) (e1 : ∀ j, j = 0 ∨ j = 1 ∨ j = 2 ∨ j = 4 → ui u' b j = ui u b2 j) (e2 : ∀ j, j < 17 → ui u' (b + 1) j = ui u (b2 + 1) j) (e3 : ∀ j, j < 7 → ui u' (b + 2) j = ui u (b2 + 2) j ∧ ui u' (b + 3) j = ui u (b2 + 3) j ∧ ui u' (b + 4) j = ui u (b2 + 4) j ∧ ui u' (b + 5) j = ui u (b2 + 5) j ∧ ui u' (b + 6) j = ui u (b2 + 6) j) (e4 : ∀ j, j < 40 → ui u' (b + 7) j = ui u (b2 + 7) j ∧ ui u' (b + 8) j = ui u (b2 + 8) j ∧ ui u' (b + 9) j = ui u (b2 + 9) j) : TC b n kd up lw dm w u' := by
  obtain ⟨t1, t2, t3, t4, t5, t6, t7, t8, t9⟩ := h
  refine ⟨by rw [e1 _ (by omega)]; exact t1, by rw [e1 _ (by omega)]; exact t2, by rw [e1 _ (by omega)]; exact t3, by rw [e1 _ (by omega)]; exact t4, fun d hd => by rw [e2 d hd]; exact t5 d hd, fun i hi => ?_, t7, t8, fun k hk => ?_⟩
  · obtain ⟨z1, z2, z3, z4, z5⟩ := e3 i (by omega)
    rw [z1, z2, z3, z4, z5]
    exact t6 i hi
  · obtain ⟨z1, z2, z3⟩ := e4 k (by omega)
    rw [z1, z2, z3]
    exact t9 k hk
theorem keep_1 {m : UU} {q : Nat} (hq : q < 3) : ∀ (f k : Nat) (u : UU), k ≤ 25 → 26 ≤ k + f → Fr [71] m u → (∀ j, ui u 71 j = if 1025 * q ≤ j ∧ j < 1025 * q + k then ui m 68 (j - 1025 * q) else ui m 71 j) → ∃ u', f_X6_keep_33 f (nI q) (nI k) u = f_X6_keep_65 fu (nI q) 0 u' ∧ Fr [71] m u' ∧ ∀ j, ui u' 71 j = if 1025 * q ≤ j ∧ j < 1025 * q + 25 then ui m 68 (j - 1025 * q) else ui m 71 j := by
  intro f
  induction f with
  | zero => intro k u h1 h2; omega
  | succ f ih =>
    intro k u h1 h2 h3 h4
    rw [f_X6_keep_33]
    by_cases he : k = 25
    · subst he
      rw [if_pos (show (25 : Int32) ≤ nI 25 from nI_le (Nat.le_refl _) (by omega))]
      exact ⟨u, rfl, h3, h4⟩
    · rw [if_neg (show ¬ (25 : Int32) ≤ nI k from nI_ge (b := 25) (by omega) (by omega)), ix_n (show k < 25 by omega) (by omega), show (1025 : Int32) * nI q + nI k = nI (1025 * q + k) from nI_mulB, ix_n (show 1025 * q + k < 3075 by omega) (by omega), nI_clamp (by omega), nI_clamp (by omega), lt_eq, lt_eq, nI_1]
      refine ih (k + 1) _ (by omega) (by omega) (h3.tr (Fr.si (by simp))) (fun j => ?_)
      rw [ui_si_r]
      by_cases e : j = 1025 * q + k
      · rw [if_pos ⟨rfl, e⟩, if_pos (by omega), h3.1 68 (by simp)]
        congr 1
        omega
      · rw [if_neg (fun z => e z.2), h4]
        by_cases z : 1025 * q ≤ j ∧ j < 1025 * q + k
        · rw [if_pos z, if_pos (by omega)]
        · rw [if_neg z, if_neg (by omega)]
theorem keep_2 {m : UU} {q dm : Nat} (hq : q < 3) (hd : dm ≤ 40) (h22 : ui m 55 22 = nI dm) : ∀ (f k : Nat) (u : UU), k ≤ 25 * dm → 25 * dm + 1 ≤ k + f → Fr [71] m u → (∀ j, ui u 71 j = if 1025 * q + 25 ≤ j ∧ j < 1025 * q + 25 + k then ui m 69 (j - (1025 * q + 25)) else ui m 71 j) → ∃ u', f_X6_keep_65 f (nI q) (nI k) u = some (nI dm, u') ∧ Fr [71] m u' ∧ ∀ j, ui u' 71 j = if 1025 * q + 25 ≤ j ∧ j < 1025 * q + 25 + 25 * dm then ui m 69 (j - (1025 * q + 25)) else ui m 71 j := by
  intro f
  induction f with
  | zero => intro k u h1 h2; omega
  | succ f ih =>
    intro k u h1 h2 h3 h4
    rw [f_X6_keep_65, h3.1 55 (by simp), h22, show (25 : Int32) * nI dm = nI (25 * dm) from pk_mul 25 dm]
    by_cases he : k = 25 * dm
    · subst he
      rw [if_pos (nI_le (Nat.le_refl _) (by omega))]
      exact ⟨u, rfl, h3, h4⟩
    · rw [if_neg (nI_ge (by omega) (by omega)), ix_n (show k < 1000 by omega) (by omega), show (1025 : Int32) * nI q + (25 : Int32) = nI (1025 * q + 25) from nI_mulB (i := 25), nI_add, ix_n (show 1025 * q + 25 + k < 3075 by omega) (by omega), nI_clamp (by omega), nI_clamp (by omega), lt_eq, lt_eq, nI_1]
      refine ih (k + 1) _ (by omega) (by omega) (h3.tr (Fr.si (by simp))) (fun j => ?_)
      rw [ui_si_r]
      by_cases e : j = 1025 * q + 25 + k
      · rw [if_pos ⟨rfl, e⟩, if_pos (by omega), h3.1 69 (by simp)]
        congr 1
        omega
      · rw [if_neg (fun z => e z.2), h4]
        by_cases z : 1025 * q + 25 ≤ j ∧ j < 1025 * q + 25 + k
        · rw [if_pos z, if_pos (by omega)]
        · rw [if_neg z, if_neg (by omega)]
theorem on_1 {m : UU} {q : Nat} (hq : q < 3) : ∀ (f k : Nat) (u : UU), k ≤ 25 → 26 ≤ k + f → Fr [68] m u → (∀ j, ui u 68 j = if j < k then ui m 71 (1025 * q + j) else ui m 68 j) → ∃ u', f_X6_on_38 f (nI q) (nI k) u = f_X6_on_70 fu (nI q) 0 u' ∧ Fr [68] m u' ∧ ∀ j, ui u' 68 j = if j < 25 then ui m 71 (1025 * q + j) else ui m 68 j := by
  intro f
  induction f with
  | zero => intro k u h1 h2; omega
  | succ f ih =>
    intro k u h1 h2 h3 h4
    rw [f_X6_on_38]
    by_cases he : k = 25
    · subst he
      rw [if_pos (show (25 : Int32) ≤ nI 25 from nI_le (Nat.le_refl _) (by omega))]
      exact ⟨u, rfl, h3, h4⟩
    · rw [if_neg (show ¬ (25 : Int32) ≤ nI k from nI_ge (b := 25) (by omega) (by omega)), show (1025 : Int32) * nI q + nI k = nI (1025 * q + k) from nI_mulB, ix_n (show 1025 * q + k < 3075 by omega) (by omega), ix_n (show k < 25 by omega) (by omega), nI_clamp (by omega), nI_clamp (by omega), lt_eq, lt_eq, nI_1]
      refine ih (k + 1) _ (by omega) (by omega) (h3.tr (Fr.si (by simp))) (fun j => ?_)
      rw [ui_si_r]
      by_cases e : j = k
      · rw [if_pos ⟨rfl, e⟩, if_pos (by omega), h3.1 71 (by simp), e]
      · rw [if_neg (fun z => e z.2), h4]
        by_cases z : j < k
        · rw [if_pos z, if_pos (by omega)]
        · rw [if_neg z, if_neg (by omega)]
theorem on_2 {m : UU} {q dm : Nat} (hq : q < 3) (hd : dm ≤ 40) (h22 : ui m 55 22 = nI dm) : ∀ (f k : Nat) (u : UU), k ≤ 25 * dm → 25 * dm + 1 ≤ k + f → Fr [69] m u → (∀ j, ui u 69 j = if j < k then ui m 71 (1025 * q + 25 + j) else ui m 69 j) → ∃ u', f_X6_on_70 f (nI q) (nI k) u = some (nI dm, u') ∧ Fr [69] m u' ∧ ∀ j, ui u' 69 j = if j < 25 * dm then ui m 71 (1025 * q + 25 + j) else ui m 69 j := by
  intro f
  induction f with
  | zero => intro k u h1 h2; omega
  | succ f ih =>
    intro k u h1 h2 h3 h4
    rw [f_X6_on_70, h3.1 55 (by simp), h22, show (25 : Int32) * nI dm = nI (25 * dm) from pk_mul 25 dm]
    by_cases he : k = 25 * dm
    · subst he
      rw [if_pos (nI_le (Nat.le_refl _) (by omega))]
      exact ⟨u, rfl, h3, h4⟩
    · rw [if_neg (nI_ge (by omega) (by omega)), show (1025 : Int32) * nI q + (25 : Int32) = nI (1025 * q + 25) from nI_mulB (i := 25), nI_add, ix_n (show 1025 * q + 25 + k < 3075 by omega) (by omega), ix_n (show k < 1000 by omega) (by omega), nI_clamp (by omega), nI_clamp (by omega), lt_eq, lt_eq, nI_1]
      refine ih (k + 1) _ (by omega) (by omega) (h3.tr (Fr.si (by simp))) (fun j => ?_)
      rw [ui_si_r]
      by_cases e : j = k
      · rw [if_pos ⟨rfl, e⟩, if_pos (by omega), h3.1 71 (by simp), e]
      · rw [if_neg (fun z => e z.2), h4]
        by_cases z : j < k
        · rw [if_pos z, if_pos (by omega)]
        · rw [if_neg z, if_neg (by omega)]
theorem tp_k {k : Nat} (h : k < 3) : tp (22 + 10 * k) 11 ∧ tp 11 (22 + 10 * k) := by
  rcases (show k = 0 ∨ k = 1 ∨ k = 2 by omega) with rfl | rfl | rfl <;> exact ⟨by unfold tp; omega, by unfold tp; omega⟩
theorem lt3 {x : Int32} (h : ¬ x < 0) (h2 : nI 3 ≤ x) : ¬ x < 3 := fun q => absurd (i_lt.mp q) (by have := i_le.mp h2; rw [nI_toInt (by omega)] at this; show ¬ x.toInt < 3; omega)
theorem op_keep {c m : UU} (h : Inv c m) (x : Int32) : Ok (f_X5_keep x c) (f_X6_keep x m) := by
  obtain ⟨n, kd, up, lw, dm, w, kp, hB⟩ := h.2.2.2.2
  have h7 := hB.1.1
  have hd := hB.2.1.2.2.2.2.2.2.1
  unfold f_X5_keep f_X6_keep
  rcases i_cases x (n := 3) (by omega) with hx | ⟨q, hq, rfl⟩
  · rw [show f_X6_in x 0 2 = 0 from in_out (n := 2) (by omega) hx, if_pos t00]
    by_cases h1 : x < 0
    · rw [if_pos h1]; exact Ok.same h _
    · rw [if_neg h1, if_neg (lt3 h1 (hx.resolve_left h1))]; exact Ok.same h _
  rw [show f_X6_in (nI q) 0 2 = 1 from in_in (n := 2) (by omega) (by omega), if_neg n10, if_neg (nI_pos (by omega)), if_pos (show nI q < 3 from nI_lt (b := 3) hq (by omega)), hB.2.1.1, hB.2.2.1.1]
  by_cases n0 : n = 0
  · subst n0
    rw [if_pos (show nI 0 = 0 from rfl), if_pos (show nI 0 = 0 from rfl)]
    exact Ok.same h _
  rw [if_neg (nI_ne0 (by omega) (by omega)), if_neg (nI_ne0 (by omega) (by omega)), ix_n hq (by omega), ix_n hq (by omega), nI_clamp (by omega), lt_eq, hB.2.2.1.2.1]
  obtain ⟨c', k1, k2, k3, k4, k5, k6⟩ := become (tp_k hq).1 c
  obtain ⟨m1, g1, g2, g3⟩ := keep_1 (m := si m 70 q (nI dm)) hq fu 0 _ (by omega) (by unfold fu; omega) Fr.rf (fun j => by rw [if_neg (by omega)])
  have m1_22 : ui m1 55 22 = nI dm := by rw [g2.1 55 (by simp), ui_si_r, if_neg (by omega)]; exact hB.2.2.1.2.1
  obtain ⟨m2, g4, g5, g6⟩ := keep_2 (m := m1) hq hd m1_22 fu 0 _ (by omega) (by unfold fu; omega) Fr.rf (fun j => by rw [if_neg (by omega)])
  rw [k1, bd_some, show (0 : Int32) = nI 0 from rfl, g1, show (0 : Int32) = nI 0 from rfl, g4]
  have eC : ∀ a j, ¬ (22 + 10 * q ≤ a ∧ a ≤ 22 + 10 * q + 9) → ui c' a j = ui c a j := k6.1
  have eM : Fs (fun a j => (a = 70 ∧ j = q) ∨ a = 71) m m2 := ((Fs.si (by omega)).tr (g2.fs (fun a b z => by simp at z; omega))).tr (g5.fs (fun a b z => by simp at z; omega))
  have hT : TB n kd up lw dm w (fun k => if k = q then some (dm, w) else kp k) c' m2 := by
    obtain ⟨⟨n1, n2, n3⟩, hC, hM, k8⟩ := hB
    obtain ⟨q1, q2, q3, q4, q5, q6⟩ := hM
    refine ⟨⟨n1, n2, fun e => absurd e n0⟩, hC.cong (fun a j h1 h2 => eC a j (by omega)), ⟨?_, ?_, fun i hi => ?_, fun j hj => ?_, fun k hk j hj => ?_, fun k hk => ?_⟩, fun k hk => ?_⟩
    · rw [eM.1 _ _ (by omega)]; exact q1
    · rw [eM.1 _ _ (by omega)]; exact q2
    · rw [eM.1 _ _ (by omega), eM.1 _ _ (by omega), eM.1 _ _ (by omega)]; exact q3 i hi
    · rw [eM.1 _ _ (by omega)]; exact q4 j hj
    · rw [eM.1 _ _ (by omega)]; exact q5 k hk j hj
    · by_cases e : k = q
      · subst e
        refine ⟨fun z => by simp at z, fun dk wk z => ?_⟩
        simp at z
        obtain ⟨rfl, rfl⟩ := z
        refine ⟨?_, fun j hj => ?_, fun i hi j hj => ?_⟩
        · rw [g5.1 70 (by simp), g2.1 70 (by simp)]; simp [ui_si_r]
        · rw [g6, if_neg (by omega), g3, if_pos (by omega), ui_si_r, if_neg (by omega), show 1025 * k + j - 1025 * k = j by omega]
          exact q4 j hj
        · rw [g6, if_pos (by omega), g2.1 69 (by simp), ui_si_r, if_neg (by omega), show 1025 * k + 25 + (25 * i + j) - (1025 * k + 25) = 25 * i + j by omega]
          exact q5 i hi j hj
      · simp only [e, if_false]
        have e71 : ∀ j, j < 1025 → ui m2 71 (1025 * k + j) = ui m 71 (1025 * k + j) := fun j hj => by
          rw [g6, if_neg (by omega), g3, if_neg (by omega), ui_si_r, if_neg (by omega)]
        refine ⟨fun z => by rw [eM.1 _ _ (by omega)]; exact (q6 k hk).1 z, fun dk wk z => ?_⟩
        obtain ⟨y1, y2, y3⟩ := (q6 k hk).2 dk wk z
        have hdk := ((k8 k hk).2 dk wk z).2.2.2.2.2.2.2.1
        refine ⟨by rw [eM.1 _ _ (by omega)]; exact y1, fun j hj => by rw [e71 j (by omega)]; exact y2 j hj, fun i hi j hj => ?_⟩
        have := e71 (25 + (25 * i + j)) (by omega)
        rw [show 1025 * k + (25 + (25 * i + j)) = 1025 * k + 25 + (25 * i + j) by omega] at this
        rw [this]
        exact y3 i hi j hj
    · by_cases e : k = q
      · subst e
        refine ⟨fun z => by simp at z, fun dk wk z => ?_⟩
        simp at z
        obtain ⟨rfl, rfl⟩ := z
        exact ⟨by omega, hC.copy h7 k2 k3 k4 k5⟩
      · simp only [e, if_false]
        exact ⟨fun z => by rw [eC _ _ (by omega)]; exact (k8 k hk).1 z, fun dk wk z => ⟨((k8 k hk).2 dk wk z).1, ((k8 k hk).2 dk wk z).2.cong (fun a j h1 h2 => eC _ _ (by omega))⟩⟩
  refine ⟨nI dm, _, _, ?_, rfl, h.tab (k6.up (fun a b z => by unfold PTC; omega)) (eM.up (fun a b z => by unfold PTM; omega)) ⟨_, _, _, _, _, _, _, hT⟩⟩
  rw [eC _ _ (by omega), hB.2.1.2.2.1]
theorem op_on {c m : UU} (h : Inv c m) (x : Int32) : Ok (f_X5_on x c) (f_X6_on x m) := by
  obtain ⟨n, kd, up, lw, dm, w, kp, hB⟩ := h.2.2.2.2
  have h7 := hB.1.1
  unfold f_X5_on f_X6_on
  rcases i_cases x (n := 3) (by omega) with hx | ⟨q, hq, rfl⟩
  · rw [show f_X6_in x 0 2 = 0 from in_out (n := 2) (by omega) hx, if_pos t00]
    by_cases h1 : x < 0
    · rw [if_pos h1]; exact Ok.same h _
    · rw [if_neg h1, if_neg (lt3 h1 (hx.resolve_left h1))]; exact Ok.same h _
  rw [show f_X6_in (nI q) 0 2 = 1 from in_in (n := 2) (by omega) (by omega), if_neg n10, if_neg (nI_pos (by omega)), if_pos (show nI q < 3 from nI_lt (b := 3) hq (by omega)), ix_n hq (by omega), ix_n hq (by omega), nI_clamp (by omega)]
  cases hk : kp q with
  | none =>
    rw [(hB.2.2.2 q hq).1 hk, (hB.2.2.1.2.2.2.2.2 q hq).1 hk, if_pos rfl, ix_n hq (by omega), if_neg m1_neg, show f_X5_found (1 : Int32) c = _ from f_found (f := 1) (by omega), show f_X6_meets (1 : Int32) m = _ from f_meets (f := 1) (by omega)]
    exact Ok.found h (f := 1) (by omega)
  | some p =>
    obtain ⟨dk, wk⟩ := p
    obtain ⟨n0, hCk⟩ := (hB.2.2.2 q hq).2 dk wk hk
    obtain ⟨y1, y2, y3⟩ := (hB.2.2.1.2.2.2.2.2 q hq).2 dk wk hk
    have hdk := hCk.2.2.2.2.2.2.1
    rw [hCk.1, if_neg (nI_ne0 (by omega) (by omega)), y1, if_pos (nI_ge0 (by omega)), ix_n hq (by omega), ix_n hq (by omega), lt_eq]
    obtain ⟨c', k1, k2, k3, k4, k5, k6⟩ := become (tp_k hq).2 c
    obtain ⟨m1, g1, g2, g3⟩ := on_1 (m := si m 55 22 (nI dk)) hq fu 0 _ (by omega) (by unfold fu; omega) Fr.rf (fun j => by rw [if_neg (by omega)])
    have m1_22 : ui m1 55 22 = nI dk := by rw [g2.1 55 (by simp)]; simp [ui_si_r]
    obtain ⟨m2, g4, g5, g6⟩ := on_2 (m := m1) hq hdk m1_22 fu 0 _ (by omega) (by unfold fu; omega) Fr.rf (fun j => by rw [if_neg (by omega)])
    rw [k1, bd_some, show (0 : Int32) = nI 0 from rfl, g1, show (0 : Int32) = nI 0 from rfl, g4]
    have eC : ∀ a j, ¬ (11 ≤ a ∧ a ≤ 20) → ui c' a j = ui c a j := k6.1
    have eM : Fs (fun a j => (a = 55 ∧ j = 22) ∨ a = 68 ∨ a = 69) m m2 := ((Fs.si (by omega)).tr (g2.fs (fun a b z => by simp at z; omega))).tr (g5.fs (fun a b z => by simp at z; omega))
    have hT : TB n kd up lw dk wk kp c' m2 := by
      obtain ⟨⟨n1, n2, n3⟩, hC, ⟨q1, q2, q3, q4, q5, q6⟩, k8⟩ := hB
      refine ⟨⟨n1, n2, fun e => by omega⟩, hCk.copy h7 k2 k3 k4 k5, ⟨?_, ?_, fun i hi => ?_, fun j hj => ?_, fun k hk j hj => ?_, fun k hk => ?_⟩, fun k hk => ?_⟩
      · rw [eM.1 _ _ (by omega)]; exact q1
      · rw [g5.1 55 (by simp)]; exact m1_22
      · rw [eM.1 _ _ (by omega), eM.1 _ _ (by omega), eM.1 _ _ (by omega)]; exact q3 i hi
      · rw [g5.1 68 (by simp), g3, if_pos hj, ui_si_r, if_neg (by omega)]; exact y2 j hj
      · rw [g6, if_pos (by omega), g2.1 71 (by simp), ui_si_r, if_neg (by omega)]; exact y3 k hk j hj
      · refine ⟨fun z => by rw [eM.1 _ _ (by omega)]; exact (q6 k hk).1 z, fun d2 w2 z => ?_⟩
        obtain ⟨z1, z2, z3⟩ := (q6 k hk).2 d2 w2 z
        exact ⟨by rw [eM.1 _ _ (by omega)]; exact z1, fun j hj => by rw [eM.1 _ _ (by omega)]; exact z2 j hj, fun i hi j hj => by rw [eM.1 _ _ (by omega)]; exact z3 i hi j hj⟩
      · exact ⟨fun z => by rw [eC _ _ (by omega)]; exact (k8 k hk).1 z, fun d2 w2 z => ⟨((k8 k hk).2 d2 w2 z).1, ((k8 k hk).2 d2 w2 z).2.cong (fun a j h1 h2 => eC _ _ (by omega))⟩⟩
    refine ⟨nI dk, _, _, ?_, rfl, h.tab (k6.up (fun a b z => by unfold PTC; omega)) (eM.up (fun a b z => by unfold PTM; omega)) ⟨_, _, _, _, _, _, _, hT⟩⟩
    rw [k2 2 (by omega), hCk.2.2.1]
