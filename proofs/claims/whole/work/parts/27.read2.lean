theorem RW.step {k : Nat} {kd up lw : Nat → Nat} {a b c a' b' c' : Nat → Int32} (h : RW k kd up lw a b c) {x y z : Nat} (hx : x < 6) (hy1 : 1 ≤ y) (hy : y ≤ 9) (hz1 : 1 ≤ z) (hz : z ≤ 9) (ea : ∀ q, a' q = if q = k then nI x else a q) (eb : ∀ q, b' q = if q = k then nI y else b q) (ec : ∀ q, c' q = if q = k then nI z else c q) : RW (k + 1) (fun q => if q = k then x else kd q) (fun q => if q = k then y else up q) (fun q => if q = k then z else lw q) a' b' c' := by
  intro q hq
  rw [ea, eb, ec]
  show _ = nI (if q = k then x else kd q) ∧ _ = nI (if q = k then y else up q) ∧ _ = nI (if q = k then z else lw q) ∧ (if q = k then x else kd q) < 6 ∧ 1 ≤ (if q = k then y else up q) ∧ (if q = k then y else up q) ≤ 9 ∧ 1 ≤ (if q = k then z else lw q) ∧ (if q = k then z else lw q) ≤ 9
  by_cases e : q = k
  · rw [if_pos e, if_pos e, if_pos e, if_pos e, if_pos e, if_pos e]
    exact ⟨rfl, rfl, rfl, hx, hy1, hy, hz1, hz⟩
  · rw [if_neg e, if_neg e, if_neg e, if_neg e, if_neg e, if_neg e]
    exact h q (by omega)
def RD (k : Nat) (kd up lw : Nat → Nat) (c m : UU) : Prop := k ≤ 7 ∧ ui c 7 4 = nI k ∧ ui m 55 11 = nI k ∧ RW k kd up lw (ui c 8) (ui c 9) (ui c 10) ∧ RW k kd up lw (ui m 62) (ui m 63) (ui m 64)
theorem rd_loop {t : Nat} {l : List Int32} (ht : t < 4) : ∀ (d i k F G : Nat) (kd up lw : Nat → Nat) (c m : UU), HC t l c → HM t l m → RD k kd up lw c m → ¬ ui m 55 13 = 0 → ui m 55 10 = nI i → i < 1000 → (l.length ≤ i ∨ ¬ l.getD i 0 = 32) → l.length ≤ i + d → l.length + 1 ≤ i + F → 1 ≤ F → l.length + 2 ≤ i + G → 1 ≤ G →
    ∃ r c' m', f_X2_readTable_89 F (nI t) (nI l.length) (nI i) (nI k) c = some (r, c') ∧ f_X6_faultOf_15 G (nI t) m = some (r, m') ∧ Fs PC c c' ∧ Fs PM m m' ∧ ui c' 7 3 = ui c 7 3 ∧ ui m' 55 12 = ui m 55 12 ∧ (r = -9 → ∃ k' kd' up' lw', 2 ≤ k' ∧ RD k' kd' up' lw' c' m') := by
  intro d
  induction d with
  | zero =>
    intro i k F G kd up lw c m hc hm hR h13 h10 hi hb hd hF hF1 hG hG1
    obtain ⟨F, rfl⟩ : ∃ F0, F = F0 + 1 := ⟨F - 1, by omega⟩
    obtain ⟨G, rfl⟩ : ∃ G0, G = G0 + 1 := ⟨G - 1, by omega⟩
    obtain ⟨hk, hk1, hk2, hk3, hk4⟩ := id hR
    have e0 : f_X2_readTable_89 (F + 1) (nI t) (nI l.length) (nI i) (nI k) c = f_X2_readTable_139 (nI l.length) (nI i) c := by
      rw [f_X2_readTable_89]
      by_cases q7 : (7 : Int32) ≤ nI k
      · rw [if_pos q7]
      · rw [if_neg q7, if_pos (nI_le (by omega) (by omega))]
    rw [e0, f_X2_readTable_139, if_pos (nI_le (by omega) (by omega)), hk1, f_X6_faultOf_15, ix_n ht (by omega), nI_clamp (by omega), hm.2.1, h10, if_pos (nI_le (by omega) (by omega)), hk2, ix_n ht (by omega)]
    by_cases q : 2 ≤ k
    · rw [if_pos (show (2 : Int32) ≤ nI k from nI_le (a := 2) q (by omega)), if_pos (show (2 : Int32) ≤ nI k from nI_le (a := 2) q (by omega))]
      exact ⟨_, _, _, rfl, rfl, Fs.rf, Fs.rf, rfl, rfl, fun _ => ⟨k, kd, up, lw, q, hR⟩⟩
    · rw [if_neg (show ¬ (2 : Int32) ≤ nI k from nI_ge (b := 2) (by omega) (by omega)), if_neg (show ¬ (2 : Int32) ≤ nI k from nI_ge (b := 2) (by omega) (by omega))]
      exact ⟨_, _, _, rfl, rfl, Fs.rf, Fs.rf, rfl, rfl, fun e => absurd e (nI_m9 (by have := hc.1; omega))⟩
  | succ d ih =>
    intro i k F G kd up lw c m hc hm hR h13 h10 hi hb hd hF hF1 hG hG1
    by_cases q0 : l.length ≤ i
    · exact ih i k F G kd up lw c m hc hm hR h13 h10 hi hb (by omega) hF hF1 hG hG1
    have h60 := hc.1
    obtain ⟨F, rfl⟩ : ∃ F0, F = F0 + 1 := ⟨F - 1, by omega⟩
    obtain ⟨G, rfl⟩ : ∃ G0, G = G0 + 1 := ⟨G - 1, by omega⟩
    obtain ⟨hk, hk1, hk2, hk3, hk4⟩ := id hR
    obtain ⟨w1, w2, w3, w4⟩ := m_worker hm ht hi hk hk2 h10
    have nb : ¬ Lt l i = 32 := by
      unfold Lt
      rw [if_pos (by omega)]
      rcases hb with hb | hb
      · exact absurd hb q0
      · exact hb
    rw [f_X2_readTable_89, if_neg (show ¬ nI l.length ≤ nI i from nI_ge (by omega) (by omega)), f_X6_faultOf_15, ix_n ht (by omega), nI_clamp (by omega), hm.2.1, h10, if_neg (nI_ge (by omega) (by omega)), m_rd hm ht (by omega), bd_some, if_neg nb, if_neg h13]
    by_cases q7 : k = 7
    · rw [if_pos (show (7 : Int32) ≤ nI k from nI_le (a := 7) (by omega) (by omega)), f_X2_readTable_139, if_neg (nI_ge (by omega) (by omega)), w1 (Or.inr q7), bd_some, if_pos rfl]
      refine ⟨_, _, _, rfl, congrArg (fun z => some (z, _)) h10, Fs.rf, Fs.rf, rfl, rfl, fun e => absurd e (nI_m9 (by omega))⟩
    · rw [if_neg (show ¬ (7 : Int32) ≤ nI k from nI_ge (b := 7) (by omega) (by omega)), c_worker hc ht hi (by omega) hk1]
      obtain ⟨-, ck⟩ := byL_cases (Lt l i)
      by_cases a : f_X6_kindOf (Lt l i) = -9
      · rw [if_pos a, bd_some, if_neg (nI_m9 (by omega)), w1 (Or.inl a), bd_some, if_pos rfl]
        exact ⟨_, _, _, rfl, congrArg (fun z => some (z, _)) h10, Fs.rf, Fs.rf, rfl, rfl, fun e => absurd e (nI_m9 (by omega))⟩
      · rw [if_neg a]
        by_cases b : dg (nI 1) (Lt l (i + 1)) = -9
        · rw [if_pos b, bd_some, if_neg (nI_m9 (by omega)), w2 a (by omega) b, bd_some, if_pos rfl]
          exact ⟨_, _, _, rfl, congrArg (fun z => some (z, _)) (by simp [ui_si_r]), Fs.rf, Fs.si (by unfold PM; omega), rfl, by simp [ui_si_r], fun e => absurd e (nI_m9 (by omega))⟩
        · rw [if_neg b]
          by_cases e : dg (nI 1) (Lt l (i + 2)) = -9
          · rw [if_pos e, bd_some, if_neg (nI_m9 (by omega)), w3 a (by omega) b e, bd_some, if_pos rfl]
            exact ⟨_, _, _, rfl, congrArg (fun z => some (z, _)) (by simp [ui_si_r]), Fs.rf, Fs.si (by unfold PM; omega), rfl, by simp [ui_si_r], fun e => absurd e (nI_m9 (by omega))⟩
          · rw [if_neg e, bd_some, if_pos rfl, w4 a (by omega) b e, bd_some, if_neg n10]
            obtain ⟨x, hx, ex⟩ := ck.resolve_left a
            obtain ⟨y, hy1, hy, ey⟩ := (dg_cases (lo := 1) (by omega) (Lt l (i + 1))).resolve_left b
            obtain ⟨z, hz1, hz, ez⟩ := (dg_cases (lo := 1) (by omega) (Lt l (i + 2))).resolve_left e
            rw [ex, ey, ez]
            clear ck w1 w2 w3 w4
            generalize hc1 : si (si (si (si c 8 k (nI x)) 9 k (nI y)) 10 k (nI z)) 7 4 (nI (k + 1)) = c1
            generalize hm1 : si (si (si (si (si m 55 10 (nI (i + 3))) 62 k (nI x)) 63 k (nI y)) 64 k (nI z)) 55 11 (nI (k + 1)) = m1
            have fc : Fs PC c c1 := by
              rw [← hc1]
              exact (((Fs.si (by unfold PC; omega)).tr (Fs.si (by unfold PC; omega))).tr (Fs.si (by unfold PC; omega))).tr (Fs.si (by unfold PC; omega))
            have fm : Fs PM m m1 := by
              rw [← hm1]
              exact ((((Fs.si (by unfold PM; omega)).tr (Fs.si (by unfold PM; omega))).tr (Fs.si (by unfold PM; omega))).tr (Fs.si (by unfold PM; omega))).tr (Fs.si (by unfold PM; omega))
            have hR1 : RD (k + 1) (fun q => if q = k then x else kd q) (fun q => if q = k then y else up q) (fun q => if q = k then z else lw q) c1 m1 := by
              rw [← hc1, ← hm1]
              refine ⟨by omega, by simp [ui_si_r], by simp [ui_si_r], hk3.step hx hy1 hy hz1 hz ?_ ?_ ?_, hk4.step hx hy1 hy hz1 hz ?_ ?_ ?_⟩ <;> (intro q; simp [ui_si_r])
            have bl := c_blank (hc.fs fc) ht (i := i + 3) (by omega)
            obtain ⟨p1, p2, p3⟩ := pbl_bd (l := l) 60 (i + 3) (by omega)
            obtain ⟨G', ⟨g1, hg1⟩, g2⟩ := m_blank ht 60 (i + 3) G m1 (hm.fs fm) (by rw [← hm1]; simp [ui_si_r]) (by omega) (by omega) (by omega) (by omega)
            have fm2 : Fs PM m1 (si m1 55 10 (nI (pbl l (i + 3)))) := Fs.si (by unfold PM; omega)
            obtain ⟨r, c', m', r1, r2, r3, r4, r5, r6, r7⟩ := ih (pbl l (i + 3)) (k + 1) F G' _ _ _ c1 (si m1 55 10 (nI (pbl l (i + 3)))) (hc.fs fc) ((hm.fs fm).fs fm2) ⟨hR1.1, hR1.2.1, by rw [ui_si_r, if_neg (by omega)]; exact hR1.2.2.1, hR1.2.2.2.1, by
              intro q hq
              simpa [ui_si_r] using hR1.2.2.2.2 q hq⟩ (by rw [ui_si_r, if_neg (by omega), ← hm1]; simpa [ui_si_r] using h13) (by simp [ui_si_r]) (by omega) p3 (by omega) (by omega) (by omega) g1 hg1
            rw [show nI i + (3 : Int32) = nI (i + 3) from nI_add i 3, bl, bd_some, lt_eq, show nI k + (1 : Int32) = nI (k + 1) from nI_add k 1, r1, g2, r2]
            refine ⟨r, c', m', rfl, rfl, fc.tr r3, (fm.tr fm2).tr r4, r5.trans (by rw [← hc1]; simp [ui_si_r]), r6.trans (by rw [ui_si_r, if_neg (by omega), ← hm1]; simp [ui_si_r]), r7⟩
