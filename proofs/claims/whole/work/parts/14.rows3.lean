theorem op_put {c m : UU} (h : Inv c m) (r i v : Int32) : Ok (f_X5_put r i v c) (f_X6_put r i v m) := by
  unfold f_X5_put f_X6_put
  rcases i_cases r (n := 4) (by omega) with hr | ⟨j, hj, rfl⟩
  · rw [s_place_out hr, text_out hr, bp_neg nm1, if_pos t00]
    exact Ok.same h _
  · obtain ⟨-, -, -, ⟨S, r1, r2, r3⟩, -⟩ := id h
    obtain ⟨a1, a2⟩ := r2 j hj
    obtain ⟨b1, b2⟩ := r3 j hj
    rw [text_in hj, if_neg n10, ix_n hj (by omega), nI_clamp (by omega), b1]
    cases hS : S j with
    | none =>
      rw [hS] at a1
      rw [s_place_none hj (by omega) a1, bp_neg nm3, szI_none, if_neg m1_neg, show (1 : Int32) = nI 1 from rfl, f_meets (by omega)]
      exact Ok.found h (by omega)
    | some l =>
      rw [hS] at a1
      obtain ⟨a3, a4⟩ := a2 l hS
      obtain ⟨b3, b4⟩ := b2 l hS
      rw [szI_some, if_pos (nI_ge0 (by omega)), ix_n hj (by omega)]
      rcases i_cases i (n := l.length) (by omega) with hi | ⟨k, hk, rfl⟩
      · rw [s_place_bey hj (by omega) (by omega) a1 hi, bp_neg nm3, in_sz_out (by omega) hi, if_pos t00, show (2 : Int32) = nI 2 from rfl, f_meets (by omega)]
        exact Ok.found h (by omega)
      · rw [s_place_in hj (by omega) (by omega) a1 hk, bp_zero]
        dsimp only
        rw [s_read (pl := 60) hj (by omega) (by omega) a3 (by omega) r1 a1 hk, bd_some, s_write (pl := 60) (n := l.length) hj (by omega) (by omega) a3 (by omega) r1 a1 hk, bd_some, in_sz_in (by omega) hk, if_neg n10, show (60 : Int32) * nI j + nI k = nI (60 * j + k) from nI_mulB, ix_n (by omega) (by omega), nI_clamp (by omega), lt_eq, ix_n (by omega) (by omega), lt_eq, pk_vb, b4 k hk, a4 k hk, Int32.add_comm]
        refine ⟨_, _, _, rfl, rfl, ?_⟩
        refine h.texts (Fs.si (by omega)) (Fs.si (by omega)) (S := upS S j (some (l.set k v.toInt8.toInt32))) ?_ ?_
        · refine shR.lay (ce := ui c 6) ?_ hj hS hk (fun q => ?_)
          · exact r2.cong (fun q => by simp [ui_si_r]) (fun q => rfl)
          · rw [ui_si_r]
            by_cases e : q = 60 * j + k
            · rw [if_pos ⟨rfl, e⟩, if_pos e]
            · rw [if_neg (fun z => e z.2), if_neg e]
        · refine shR.lay (ce := ui m 61) ?_ hj hS hk (fun q => ?_)
          · exact r3.cong (fun q => by simp [ui_si_r]) (fun q => rfl)
          · rw [ui_si_r]
            by_cases e : q = 60 * j + k
            · rw [if_pos ⟨rfl, e⟩, if_pos e]
            · rw [if_neg (fun z => e z.2), if_neg e]
theorem mean_loop {c m : UU} {j : Nat} {l : List Int32} (hj : j < 6) (hl : l.length ≤ 40) (h0 : 0 < l.length) (r1 : ui c 1 0 = nI 40) (a1 : ui c 2 j = nI l.length) (a4 : ∀ i, i < l.length → ui c 3 (40 * j + i) = l.getD i 0) (b1 : ui m 57 j = nI l.length) (b4 : ∀ i, i < l.length → ui m 58 (40 * j + i) = l.getD i 0) :
    ∀ (n i : Nat) (s : Int64), i ≤ l.length → l.length + 1 ≤ i + n → ∃ q, f_X5_mean_41 n (nI j) (nI l.length) s (nI i) c = some (1, si c 0 9 q) ∧ f_X6_mean_44 n (nI j) s (nI i) m = some (1, si m 55 0 q) := by
  intro n
  induction n with
  | zero => intro i s h1 h2; omega
  | succ n ih =>
    intro i s h1 h2
    rw [f_X5_mean_41, f_X6_mean_44, ix_n hj (by omega), nI_clamp (by omega), b1]
    by_cases he : i = l.length
    · subst he
      have hz : ¬ (nI l.length).toInt64 = 0 := by
        rw [nI_l (by omega)]
        intro q
        have := (lN_eq (a := l.length) (b := 0) (by omega) (by omega)).mp q
        omega
      rw [if_pos (nI_le (Nat.le_refl _) (by omega)), if_pos (nI_le (Nat.le_refl _) (by omega)), nzl_ok hz, ix_n hj (by omega), nzl_ok hz, lt_eq, m_tells, bd_some]
      exact ⟨_, rfl, rfl⟩
    · rw [if_neg (nI_ge (by omega) (by omega)), if_neg (nI_ge (by omega) (by omega)), s_read (pl := 40) hj (by omega) (by omega) hl (by omega) r1 a1 (show i < l.length by omega), m_rowAt hj (by omega), bd_some, bd_some, lt_eq, lt_eq, lt_eq, lt_eq, nI_1, a4 i (by omega), b4 i (by omega)]
      exact ih (i + 1) _ (by omega) (by omega)
theorem op_mean {c m : UU} (h : Inv c m) (r : Int32) : Ok (f_X5_mean r c) (f_X6_mean r m) := by
  unfold f_X5_mean f_X6_mean
  rcases i_cases r (n := 6) (by omega) with hr | ⟨j, hj, rfl⟩
  · rw [s_miss_out hr, row_out hr, bp_neg nm1, if_pos t00]
    exact Ok.same h _
  · obtain ⟨-, -, ⟨S, r1, r2, r3⟩, -, -⟩ := id h
    obtain ⟨a1, a2⟩ := r2 j hj
    obtain ⟨b1, b2⟩ := r3 j hj
    rw [row_in hj, if_neg n10, ix_n hj (by omega), nI_clamp (by omega), b1]
    cases hS : S j with
    | none =>
      rw [hS] at a1
      rw [s_miss_none hj (by omega) a1, bp_neg nm3, szI_none, if_neg m1_neg, show f_X6_meets (1 : Int32) m = _ from f_meets (f := 1) (by omega)]
      exact Ok.found h (by omega)
    | some l =>
      rw [hS] at a1 b1
      obtain ⟨a3, a4⟩ := a2 l hS
      obtain ⟨b3, b4⟩ := b2 l hS
      rw [szI_some, if_pos (nI_ge0 (by omega)), ix_n hj (by omega), s_miss_some hj (by omega) (show l.length ≤ 100 by omega) a1, bp_zero]
      dsimp only
      rw [s_size_in hj (by omega), bd_some, show ui c (1 + 1) j = nI l.length from a1]
      by_cases h0 : l.length = 0
      · rw [h0, if_neg (by decide), if_pos (by decide), show f_X5_found (4 : Int32) c = _ from f_found (f := 4) (by omega), show f_X6_meets (4 : Int32) m = _ from f_meets (f := 4) (by omega)]
        exact Ok.found h (by omega)
      · have hp : (0 : Int32) < nI l.length := nI_lt (a := 0) (by omega) (by omega)
        rw [if_pos hp, if_neg (nI_ne0 (by omega) (by omega))]
        obtain ⟨q, e1, e2⟩ := mean_loop hj a3 (by omega) r1 a1 a4 b1 b4 fu 0 0 (by omega) (by unfold fu; omega)
        rw [show (0 : Int32) = nI 0 from rfl, e1, e2]
        exact Ok.told h _ _
/-! what is told -/
theorem op_asked {c m : UU} (h : Inv c m) : Oc (f_X5_asked c) (f_X6_asked m) := ⟨_, rfl, by unfold f_X6_asked; rw [h.2.1.1]⟩
theorem op_finding {c m : UU} (h : Inv c m) : Oc (f_X5_finding c) (f_X6_finding m) := ⟨_, rfl, by unfold f_X6_finding; rw [h.1.1]⟩
theorem op_upper {c m : UU} (h : Inv c m) : ∃ a, f_X5_upper c = some a ∧ f_X6_upper m = some a := ⟨_, rfl, by unfold f_X6_upper; rw [h.2.1.2.1]⟩
theorem op_lower {c m : UU} (h : Inv c m) : ∃ a, f_X5_lower c = some a ∧ f_X6_lower m = some a := ⟨_, rfl, by unfold f_X6_lower; rw [h.2.1.2.2]⟩
theorem op_findings {c m : UU} (h : Inv c m) (f : Int32) : Oc (f_X5_findings f c) (f_X6_findings f m) := by
  unfold f_X5_findings f_X6_findings
  by_cases h1 : f < 1
  · rw [if_pos h1, in_0 (Or.inl h1), if_pos t00]
    exact ⟨_, rfl, rfl⟩
  · by_cases h2 : (5 : Int32) < f
    · have h3 : ¬ f ≤ (5 : Int32) := fun q => absurd (i_lt.mp h2) (by have := i_le.mp q; omega)
      rw [if_neg h1, if_neg h3, in_0 (Or.inr h2), if_pos t00]
      exact ⟨_, rfl, rfl⟩
    · have h3 : f ≤ (5 : Int32) := i_le.mpr (by have : ¬ (5 : Int32).toInt < f.toInt := fun q => h2 (i_lt.mpr q); omega)
      obtain ⟨j, hj, rfl⟩ := le_cases (n := 5) (by omega) (i_le.mpr (by
        have : ¬ f.toInt < (1 : Int32).toInt := fun q => h1 (i_lt.mpr q)
        have e : (1 : Int32).toInt = 1 := rfl
        have e0 : (0 : Int32).toInt = 0 := rfl
        omega)) h3
      rw [if_neg h1, if_pos h3, in_1 h1 h2, if_neg n10, ix_n (by omega) (by omega), ix_n (by omega) (by omega), nI_clamp (by omega), h.1.2 j (by omega)]
      exact ⟨_, rfl, rfl⟩
