theorem clear_l {b : Nat} : ∀ (n i : Nat) (u : UU), i ≤ 17 → 18 ≤ i + n → ∃ u', f_X4_clear_22 b n (nI i) u = some u' ∧ Fs (fun k _ => k = b + 1) u u' ∧ ∀ d, d < 17 → (i ≤ d → ui u' (b + 1) d = 0) ∧ (d < i → ui u' (b + 1) d = ui u (b + 1) d) := by
  intro n
  induction n with
  | zero => intro i u h1 h2; omega
  | succ n ih =>
    intro i u h1 h2
    rw [f_X4_clear_22]
    by_cases q : 17 ≤ i
    · rw [if_pos (show (17 : Int32) ≤ nI i from nI_le (a := 17) q (by omega))]
      exact ⟨u, rfl, Fs.rf, fun d hd => ⟨fun e => absurd e (by omega), fun _ => rfl⟩⟩
    · rw [if_neg (show ¬ (17 : Int32) ≤ nI i from nI_ge (b := 17) (by omega) (by omega)), ix_n (by omega) (by omega), nI_clamp (by omega), lt_eq, lt_eq, nI_1]
      obtain ⟨u', e1, e2, e3⟩ := ih (i + 1) (si u (b + 1) i 0) (by omega) (by omega)
      refine ⟨u', e1, Fs.tr (P := fun k _ => k = b + 1) (Fs.si rfl) e2, fun d hd => ⟨fun e => ?_, fun e => ?_⟩⟩
      · by_cases z : d = i
        · rw [(e3 d hd).2 (by omega), z, ui_si_r, if_pos ⟨rfl, rfl⟩]
        · exact (e3 d hd).1 (by omega)
      · rw [(e3 d hd).2 (by omega), ui_si_r, if_neg (by omega)]
theorem clear_e {b : Nat} {u : UU} : ∃ u', f_X4_clear b u = some u' ∧ Fs (fun k _ => k = b ∨ k = b + 1) u u' ∧ ui u' b 0 = 0 ∧ ui u' b 1 = 0 ∧ ui u' b 2 = 0 ∧ ui u' b 4 = 0 ∧ ∀ d, d < 17 → ui u' (b + 1) d = 0 := by
  unfold f_X4_clear
  rw [lt_eq, lt_eq, lt_eq, lt_eq]
  obtain ⟨u', e1, e2, e3⟩ := clear_l (b := b) fu 0 (si (si (si (si u b 0 0) b 1 0) b 2 0) b 4 0) (by omega) (by unfold fu; omega)
  have f0 : Fs (fun k _ => k = b ∨ k = b + 1) u (si (si (si (si u b 0 0) b 1 0) b 2 0) b 4 0) := (((Fs.si (Or.inl rfl)).tr (Fs.si (Or.inl rfl))).tr (Fs.si (Or.inl rfl))).tr (Fs.si (Or.inl rfl))
  refine ⟨u', e1, f0.tr (e2.up (fun k j h => Or.inr h)), ?_, ?_, ?_, ?_, fun d hd => (e3 d hd).1 (by omega)⟩ <;> (rw [e2.1 _ _ (by omega)]; simp [ui_si_r])
theorem begin_l {k : Nat} {kd up lw : Nat → Nat} (hk : k ≤ 7) : ∀ (n i : Nat) (u : UU), RW k kd up lw (ui u 8) (ui u 9) (ui u 10) → ui u 11 0 = nI k → i ≤ k → k + 1 ≤ i + n → ∃ u', f_X4_begin_22 n (nI i) u = some u' ∧ Fs (fun k _ => 13 ≤ k ∧ k ≤ 17) u u' ∧ ∀ q, q < k → (i ≤ q → ui u' 13 q = nI (kd q) ∧ ui u' 14 q = nI (up q) ∧ ui u' 15 q = nI (lw q) ∧ ui u' 16 q = nI 0 ∧ ui u' 17 q = nI (due up lw q)) ∧ (q < i → ∀ a, ui u' a q = ui u a q) := by
  intro n
  induction n with
  | zero => intro i u h0 h1 h2 h3; omega
  | succ n ih =>
    intro i u h0 h1 h2 h3
    rw [f_X4_begin_22, h1]
    by_cases q : k ≤ i
    · rw [if_pos (nI_le q (by omega))]
      exact ⟨u, rfl, Fs.rf, fun d hd => ⟨fun e => absurd e (by omega), fun _ _ => rfl⟩⟩
    · have i7 : i < 7 := by omega
      obtain ⟨r1, r2, r3, r4, r5, r6, r7, r8⟩ := h0 i (by omega)
      rw [if_neg (nI_ge (by omega) (by omega)), ix_n i7 (by omega), ix_n i7 (by omega), nI_clamp (by omega), lt_eq, ix_n i7 (by omega), ix_n i7 (by omega), lt_eq, ix_n i7 (by omega), ix_n i7 (by omega), lt_eq, ix_n i7 (by omega), lt_eq, r1, ui_si_r, if_neg (by omega), r2, ui_si_r, if_neg (by omega), ui_si_r, if_neg (by omega), r3]
      generalize hv : si (si (si (si u 13 i (nI (kd i))) 14 i (nI (up i))) 15 i (nI (lw i))) 16 i (0 : Int32) = v
      have hdue : f_X4_dueOf (nI i) v = some (nI (due up lw i)) := by
        unfold f_X4_dueOf
        rw [ix_n i7 (by omega), ix_n i7 (by omega), ix_n i7 (by omega), nI_clamp (by omega), show ui v 15 i = nI (lw i) by rw [← hv]; simp [ui_si_r], show ui v 14 i = nI (up i) by rw [← hv]; simp [ui_si_r], if_neg (nI_nle (by omega) (by omega)), ps_div r7 (by omega), pk_mul]
        rfl
      rw [hdue, bd_some, ix_n i7 (by omega), lt_eq, lt_eq, nI_1]
      have fv : Fs (fun k _ => 13 ≤ k ∧ k ≤ 17) u (si v 17 i (nI (due up lw i))) := by
        rw [← hv]
        exact ((((Fs.si ⟨by omega, by omega⟩).tr (Fs.si ⟨by omega, by omega⟩)).tr (Fs.si ⟨by omega, by omega⟩)).tr (Fs.si ⟨by omega, by omega⟩)).tr (Fs.si ⟨by omega, by omega⟩)
      obtain ⟨u', e1, e2, e3⟩ := ih (i + 1) (si v 17 i (nI (due up lw i))) (fun q hq => by rw [fv.1 _ _ (by omega), fv.1 _ _ (by omega), fv.1 _ _ (by omega)]; exact h0 q hq) (by rw [fv.1 _ _ (by omega)]; exact h1) (by omega) (by omega)
      refine ⟨u', e1, fv.tr e2, fun d hd => ⟨fun e => ?_, fun e a => ?_⟩⟩
      · by_cases z : d = i
        · have := (e3 d hd).2 (by omega)
          rw [this, this, this, this, this, z, ← hv]
          simp [ui_si_r]
          rfl
        · exact (e3 d hd).1 (by omega)
      · rw [(e3 d hd).2 (by omega), ← hv]
        simp only [ui_si_r]
        rw [if_neg (by omega), if_neg (by omega), if_neg (by omega), if_neg (by omega), if_neg (by omega)]
theorem tab49_l {k : Nat} : ∀ (n i : Nat) (u : UU), ui u 11 0 = nI k → i ≤ 3 → 4 ≤ i + n → ∃ u', f_X5_table_49 n (nI i) u = some (nI k, u') ∧ Fs (fun k _ => 22 ≤ k ∧ k ≤ 51) u u' ∧ ∀ q, q < 3 → (i ≤ q → ui u' (22 + 10 * q) 0 = 0) ∧ (q < i → ui u' (22 + 10 * q) 0 = ui u (22 + 10 * q) 0) := by
  intro n
  induction n with
  | zero => intro i u h0 h1 h2; omega
  | succ n ih =>
    intro i u h0 h1 h2
    rw [f_X5_table_49]
    by_cases q : 3 ≤ i
    · rw [if_pos (show (3 : Int32) ≤ nI i from nI_le (a := 3) q (by omega)), h0]
      exact ⟨u, rfl, Fs.rf, fun d hd => ⟨fun e => absurd e (by omega), fun _ => rfl⟩⟩
    · obtain ⟨v, v1, v2, v3, -⟩ := clear_e (b := 22 + 10 * i) (u := u)
      rw [if_neg (show ¬ (3 : Int32) ≤ nI i from nI_ge (b := 3) (by omega) (by omega)), ix_n (by omega) (by omega), nI_clamp (by omega), v1, bd_some, lt_eq, nI_1]
      obtain ⟨u', e1, e2, e3⟩ := ih (i + 1) v (by rw [v2.1 _ _ (by omega)]; exact h0) (by omega) (by omega)
      refine ⟨u', e1, (v2.up (fun k j h => by omega)).tr e2, fun d hd => ⟨fun e => ?_, fun e => ?_⟩⟩
      · by_cases z : d = i
        · rw [(e3 d hd).2 (by omega), z]; exact v3
        · exact (e3 d hd).1 (by omega)
      · rw [(e3 d hd).2 (by omega), v2.1 _ _ (by omega)]
theorem tab135_l {k : Nat} : ∀ (n i : Nat) (u : UU), ui u 55 17 = nI k → i ≤ 3 → 4 ≤ i + n → ∃ u', f_X6_table_135 n (nI i) u = some (nI k, u') ∧ Fs (fun k _ => k = 70) u u' ∧ ∀ q, q < 3 → (i ≤ q → ui u' 70 q = -1) ∧ (q < i → ui u' 70 q = ui u 70 q) := by
  intro n
  induction n with
  | zero => intro i u h0 h1 h2; omega
  | succ n ih =>
    intro i u h0 h1 h2
    rw [f_X6_table_135]
    by_cases q : 3 ≤ i
    · rw [if_pos (show (3 : Int32) ≤ nI i from nI_le (a := 3) q (by omega)), h0]
      exact ⟨u, rfl, Fs.rf, fun d hd => ⟨fun e => absurd e (by omega), fun _ => rfl⟩⟩
    · rw [if_neg (show ¬ (3 : Int32) ≤ nI i from nI_ge (b := 3) (by omega) (by omega)), ix_n (by omega) (by omega), nI_clamp (by omega), lt_eq, lt_eq, nI_1]
      obtain ⟨u', e1, e2, e3⟩ := ih (i + 1) (si u 70 i (-1)) (by rw [ui_si_r, if_neg (by omega)]; exact h0) (by omega) (by omega)
      refine ⟨u', e1, Fs.tr (P := fun k _ => k = 70) (Fs.si rfl) e2, fun d hd => ⟨fun e => ?_, fun e => ?_⟩⟩
      · by_cases z : d = i
        · rw [(e3 d hd).2 (by omega), z, ui_si_r, if_pos ⟨rfl, rfl⟩]
        · exact (e3 d hd).1 (by omega)
      · rw [(e3 d hd).2 (by omega), ui_si_r, if_neg (by omega)]
def tabV (lo : Nat) : Nat → Nat := fun j => if j = 0 then lo else 0
theorem tab99_l {k lo : Nat} : ∀ (n i : Nat) (u : UU), ui u 55 17 = nI k → ui u 55 12 = nI lo → i ≤ 25 → 26 ≤ i + n → (∀ j, j < i → ui u 68 j = 0) → ∃ u', f_X6_table_99 n (nI i) u = some (nI k, u') ∧ Fs (fun k j => k = 68 ∨ k = 70 ∨ (k = 55 ∧ j = 22)) u u' ∧ (∀ q, q < 3 → ui u' 70 q = -1) ∧ ui u' 55 22 = nI 0 ∧ ∀ j, j < 25 → ui u' 68 j = nI (tabV lo j) := by
  intro n
  induction n with
  | zero => intro i u h0 h1 h2; omega
  | succ n ih =>
    intro i u h0 h1 h2 h3 h4
    rw [f_X6_table_99]
    by_cases q : 25 ≤ i
    · rw [if_pos (show (25 : Int32) ≤ nI i from nI_le (a := 25) q (by omega)), show (0 : Int32) = nI 0 from rfl, ix_n (by omega) (by omega), nI_clamp (by omega), h1, lt_eq, lt_eq]
      obtain ⟨u', e1, e2, e3⟩ := tab135_l (k := k) fu 0 (si (si u 68 0 (nI lo)) 55 22 (nI 0)) (by rw [ui_si_r, if_neg (by omega), ui_si_r, if_neg (by omega)]; exact h0) (by omega) (by unfold fu; omega)
      refine ⟨u', e1, ((Fs.si (by omega)).tr (Fs.si (by omega))).tr (e2.up (fun k j h => by omega)), fun q hq => (e3 q hq).1 (by omega), by rw [e2.1 _ _ (by omega), ui_si_r, if_pos ⟨rfl, rfl⟩], fun j hj => ?_⟩
      rw [e2.1 _ _ (by omega), ui_si_r, if_neg (by omega), ui_si_r]
      unfold tabV
      by_cases z : j = 0
      · rw [if_pos ⟨rfl, z⟩, if_pos z]
      · rw [if_neg (by omega), if_neg z, h4 j (by omega)]
        rfl
    · rw [if_neg (show ¬ (25 : Int32) ≤ nI i from nI_ge (b := 25) (by omega) (by omega)), ix_n (by omega) (by omega), nI_clamp (by omega), lt_eq, lt_eq, nI_1]
      obtain ⟨u', e1, e2, e3⟩ := ih (i + 1) (si u 68 i 0) (by rw [ui_si_r, if_neg (by omega)]; exact h0) (by rw [ui_si_r, if_neg (by omega)]; exact h1) (by omega) (by omega) (fun j hj => by
        rw [ui_si_r]
        by_cases z : j = i
        · rw [if_pos ⟨rfl, z⟩]
        · rw [if_neg (by omega), h4 j (by omega)])
      exact ⟨u', e1, (Fs.si (by omega)).tr e2, e3⟩
theorem tab47_l {k lo : Nat} {kd up lw : Nat → Nat} (hk : k ≤ 7) : ∀ (n i : Nat) (u : UU), RW k kd up lw (ui u 62) (ui u 63) (ui u 64) → ui u 55 17 = nI k → ui u 55 12 = nI lo → i ≤ k → k + 1 ≤ i + n → (∀ q, q < i → ui u 65 q = nI (kd q) ∧ ui u 66 q = nI (up q) ∧ ui u 67 q = nI (lw q)) → ∃ u', f_X6_table_47 n (nI i) u = some (nI k, u') ∧ Fs (fun k j => (65 ≤ k ∧ k ≤ 68) ∨ k = 70 ∨ (k = 55 ∧ j = 22)) u u' ∧ (∀ q, q < 3 → ui u' 70 q = -1) ∧ ui u' 55 22 = nI 0 ∧ (∀ j, j < 25 → ui u' 68 j = nI (tabV lo j)) ∧ ∀ q, q < k → ui u' 65 q = nI (kd q) ∧ ui u' 66 q = nI (up q) ∧ ui u' 67 q = nI (lw q) := by
  intro n
  induction n with
  | zero => intro i u h0 h1 h2; omega
  | succ n ih =>
    intro i u h0 h1 h2 h3 h4 h5
    rw [f_X6_table_47, h1]
    by_cases q : k ≤ i
    · rw [if_pos (nI_le q (by omega))]
      obtain ⟨u', e1, e2, e3, e4, e5⟩ := tab99_l (k := k) (lo := lo) fu 0 u h1 h2 (by omega) (by unfold fu; omega) (fun j hj => absurd hj (by omega))
      refine ⟨u', e1, e2.up (fun k j h => by omega), e3, e4, e5, fun d hd => ?_⟩
      rw [e2.1 _ _ (by omega), e2.1 _ _ (by omega), e2.1 _ _ (by omega)]
      exact h5 d (by omega)
    · have i7 : i < 7 := by omega
      obtain ⟨r1, r2, r3, r4, r5, r6, r7, r8⟩ := h0 i (by omega)
      rw [if_neg (nI_ge (by omega) (by omega)), ix_n i7 (by omega), ix_n i7 (by omega), nI_clamp (by omega), lt_eq, ix_n i7 (by omega), ix_n i7 (by omega), lt_eq, ix_n i7 (by omega), ix_n i7 (by omega), lt_eq, lt_eq, r1, ui_si_r, if_neg (by omega), r2, ui_si_r, if_neg (by omega), ui_si_r, if_neg (by omega), r3, nI_1]
      generalize hv : si (si (si u 65 i (nI (kd i))) 66 i (nI (up i))) 67 i (nI (lw i)) = v
      have fv : Fs (fun k j => 65 ≤ k ∧ k ≤ 67) u v := by
        rw [← hv]
        exact ((Fs.si ⟨by omega, by omega⟩).tr (Fs.si ⟨by omega, by omega⟩)).tr (Fs.si ⟨by omega, by omega⟩)
      obtain ⟨u', e1, e2, e3⟩ := ih (i + 1) v (fun q hq => by rw [fv.1 _ _ (by omega), fv.1 _ _ (by omega), fv.1 _ _ (by omega)]; exact h0 q hq) (by rw [fv.1 _ _ (by omega)]; exact h1) (by rw [fv.1 _ _ (by omega)]; exact h2) (by omega) (by omega) (fun d hd => by
        rw [← hv]
        simp only [ui_si_r]
        by_cases z : d = i
        · subst z; simp
        · simpa [z] using h5 d (by omega))
      exact ⟨u', e1, (fv.up (fun k j h => by omega)).tr e2, e3⟩

def tabW (lo : Nat) : Nat → Nat → Nat := fun _ => tabV lo
theorem tabV_0 {lo q : Nat} : tabW lo q 0 = lo := rfl
theorem tabV_s {lo q j : Nat} (h : 0 < j) : tabW lo q j = 0 := if_neg (by omega)
theorem lyM_tab {lo q : Nat} : lyM (tabW lo q) = 0 := by
  simp [lyM, mkn, tabW, tabV]
theorem Sm_0 : Sm 0 = 0 := by
  simp [Sm, smn]
theorem op_table {c m : UU} (h : Inv c m) (r : Int32) : Ok (f_X5_table r c) (f_X6_table r m) := by
  unfold f_X5_table f_X6_table
  rcases i_cases r (n := 4) (by omega) with hr | ⟨j, hj, rfl⟩
  · rw [s_miss_out hr, text_out hr, bp_neg nm1, if_pos t00]
    exact Ok.same h _
  · rw [text_in hj, if_neg n10, ix_n hj (by omega), nI_clamp (by omega)]
    rcases tx_get h hj with ⟨a, b⟩ | ⟨l, hc, hm⟩
    · rw [s_miss_none hj (by omega) a, bp_neg nm3, b, if_neg m1_neg, show f_X6_meets (1 : Int32) m = _ from f_meets (f := 1) (by omega)]
      exact Ok.found h (by omega)
    · rw [s_miss_some hj (by omega) (show l.length ≤ 100 by have := hc.1; omega) hc.2.2.1, bp_zero, hm.2.1, if_pos (nI_ge0 (by have := hc.1; omega))]
      dsimp only
      obtain ⟨a, c1, m1, e1, e2, e3, e4, e5⟩ := rd_whole hj hc hm
      rw [e1, e2, bd_some, bd_some]
      dsimp only
      by_cases q : a = -9
      · rw [if_pos q, if_pos q]
        obtain ⟨k, kd, up, lw, lo, k2, hlo, ⟨k7, d1, d2, d3, d4⟩, d5, d6⟩ := e5 q
        unfold f_X4_begin
        obtain ⟨u, u1, u2, u3, u4, u5, u6, u7⟩ := clear_e (b := 11) (u := c1)
        rw [u1, bd_some, lt_eq, lt_eq, u2.1 7 4 (by omega), d1, ui_si_r, if_neg (by omega), u2.1 7 3 (by omega), d5]
        generalize hv : si (si u 11 0 (nI k)) 11 1 (nI lo) = v
        have fv : Fs (fun k _ => k = 11 ∨ k = 12) c1 v := by
          rw [← hv]
          exact u2.tr ((Fs.si (by omega)).tr (Fs.si (by omega)))
        have v0 : ui v 11 0 = nI k := by rw [← hv]; simp [ui_si_r]
        have v1 : ui v 11 1 = nI lo := by rw [← hv]; simp [ui_si_r]
        have v2 : ui v 11 2 = 0 := by rw [← hv]; simpa [ui_si_r] using u5
        have v4 : ui v 11 4 = 0 := by rw [← hv]; simpa [ui_si_r] using u6
        have v5 : ∀ d, d < 17 → ui v 12 d = 0 := by rw [← hv]; intro d hd; simpa [ui_si_r] using u7 d hd
        obtain ⟨b, b1, b2, b3⟩ := begin_l k7 fu 0 v (fun q hq => by rw [fv.1 _ _ (by omega), fv.1 _ _ (by omega), fv.1 _ _ (by omega)]; exact d3 q hq) v0 (by omega) (by unfold fu; omega)
        obtain ⟨c', g1, g2, g3⟩ := tab49_l (k := k) fu 0 b (by rw [b2.1 _ _ (by omega)]; exact v0) (by omega) (by unfold fu; omega)
        rw [show (0 : Int32) = nI 0 from rfl, b1, bd_some, g1, lt_eq, d2]
        obtain ⟨m', s1, s2, s3, s4, s5, s6⟩ := tab47_l (k := k) (lo := lo) k7 fu 0 (si m1 55 17 (nI k)) (fun q hq => by rw [ui_si_r, if_neg (by omega), ui_si_r, if_neg (by omega), ui_si_r, if_neg (by omega)]; exact d4 q hq) (by simp [ui_si_r]) (by simpa [ui_si_r] using d6) (by omega) (by unfold fu; omega) (fun q hq => absurd hq (by omega))
        rw [s1]
        have gc : ∀ a j, 11 ≤ a → a ≤ 17 → ui c' a j = ui b a j := fun a j x y => g2.1 a j (by omega)
        have bc : ∀ j, (ui b 11 j = ui v 11 j ∧ ui b 12 j = ui v 12 j) := fun j => ⟨b2.1 _ _ (by omega), b2.1 _ _ (by omega)⟩
        have fC : Fs PTC c c' := (e3.up (fun k j h => Or.inr (Or.inr h))).tr ((fv.up (fun k j h => by omega)).tr ((b2.up (fun k j h => by omega)).tr (g2.up (fun k j h => by omega))))
        have fM : Fs PTM m m' := (e4.up (fun k j h => Or.inr (Or.inr h))).tr (Fs.tr (P := PTM) (Fs.si (by unfold PTM; omega)) (s2.up (fun k j h => by unfold PTM; omega)))
        refine ⟨nI k, c', m', rfl, rfl, h.tab fC fM ⟨k, kd, up, lw, 0, tabW lo, fun _ => none, ⟨k7, fun i hi => (d3 i hi).2.2.2, fun z => absurd z (by omega)⟩, ⟨?_, ?_, ?_, ?_, fun d hd => ?_, fun i hi => ?_, by omega, fun q hq => ?_, fun q hq => absurd hq (by omega)⟩, ⟨?_, s4, s6, s5, fun k hk => absurd hk (by omega), fun q hq => ⟨fun _ => s3 q hq, fun dk wk z => by cases z⟩⟩, fun q hq => ⟨fun _ => (g3 q hq).1 (by omega), fun dk wk z => by cases z⟩⟩⟩
        · rw [gc _ _ (by omega) (by omega), (bc _).1, v0]
        · rw [gc _ _ (by omega) (by omega), (bc _).1, v1, tabV_0]
        · rw [gc _ _ (by omega) (by omega), (bc _).1, v2]; rfl
        · rw [gc _ _ (by omega) (by omega), (bc _).1, v4, lyM_tab]; rfl
        · rw [gc _ _ (by omega) (by omega), show ui b (11 + 1) d = _ from (bc _).2, v5 d hd, tabV_s (by omega)]; rfl
        · rw [gc _ _ (by omega) (by omega), gc _ _ (by omega) (by omega), gc _ _ (by omega) (by omega), gc _ _ (by omega) (by omega), gc _ _ (by omega) (by omega), tabV_s (by omega), Sm_0]
          exact (b3 i hi).1 (by omega)
        · refine ⟨by rw [tabV_0]; exact hlo, fun d hd => by rw [tabV_s (by omega)]; omega, fun i hi => ?_⟩
          rw [tabV_s (by omega), Sm_0]
          omega
        · rw [s2.1 _ _ (by omega), ui_si_r, if_pos ⟨rfl, rfl⟩]
      · rw [if_neg q, if_neg q]
        exact ⟨_, c1, m1, rfl, rfl, h.fs e3 e4⟩
