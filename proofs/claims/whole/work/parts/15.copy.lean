theorem no3 {a b c : Prop} (ha : ¬ a) (hb : ¬ b) (hc : ¬ c) : ¬ (a ∨ b ∨ c) := fun q => q.elim ha (fun q => q.elim hb hc)
def spl (ls ld : List Int32) (i j n : Nat) : List Int32 := (List.range ld.length).map (fun k => if j ≤ k ∧ k < j + n then ls.getD (i + (k - j)) 0 else ld.getD k 0)
theorem spl_len {ls ld : List Int32} {i j n : Nat} : (spl ls ld i j n).length = ld.length := by simp [spl]
theorem spl_at {ls ld : List Int32} {i j n k : Nat} (h : k < ld.length) : (spl ls ld i j n).getD k 0 = if j ≤ k ∧ k < j + n then ls.getD (i + (k - j)) 0 else ld.getD k 0 := by
  simp [spl, List.getD, h]
section ST
variable {b nr : Nat} {u : UU}
theorem s_str {j z : Nat} {i n : Int32} (hj : j < nr) (hn : nr < 2 ^ 31) (hz : z ≤ 100) (hs : ui u (b + 1) j = nI z) : f_X3_hasStretch b nr (nI j) i n u = some (if i < 0 ∨ n < 0 ∨ (z : Int) < i.toInt + n.toInt then 0 else 1) := by
  have hi := i_rng i
  have hnn := i_rng n
  unfold f_X3_hasStretch
  by_cases h1 : i < 0
  · rw [if_pos h1, if_pos (Or.inl h1)]
  · rw [if_neg h1]
    by_cases h2 : n < 0
    · rw [if_pos h2, if_pos (Or.inr (Or.inl h2))]
    · rw [if_neg h2, s_size_in hj hn, bd_some, hs]
      have e : (i.toInt64 + n.toInt64).toInt = i.toInt + n.toInt := by
        rw [l_add, l_i, l_i]
        · rw [l_i, l_i]; omega
        · rw [l_i, l_i]; omega
      have e2 : (nI z).toInt64.toInt = (z : Int) := by rw [l_i, nI_toInt (by omega)]
      by_cases h3 : (z : Int) < i.toInt + n.toInt
      · rw [if_pos (cmp_gt.mpr (by rw [e, e2]; exact h3)), if_pos (Or.inr (Or.inr h3))]
      · rw [if_neg (fun q => h3 (by have := cmp_gt.mp q; rwa [e, e2] at this)), if_neg (no3 h1 h2 h3)]
end ST
theorem cp_1 {m : UU} {r i n : Nat} (hr : r < 6) (hn : i + n ≤ 40) (x3 x4 : Int32) : ∀ (f k : Nat) (u : UU), k ≤ n → n + 1 ≤ k + f → (∀ a, ui u 58 a = ui m 58 a) → (∀ a, a < k → ui u 59 a = ui m 58 (40 * r + (i + a))) → Fr [59] m u → ∃ u', f_X6_copy_104 f (nI r) (nI i) x3 x4 (nI n) (nI k) u = f_X6_copy_136 fu x3 x4 (nI n) 0 u' ∧ Fr [59] m u' ∧ ∀ a, a < n → ui u' 59 a = ui m 58 (40 * r + (i + a)) := by
  intro f
  induction f with
  | zero => intro k u h1 h2; omega
  | succ f ih =>
    intro k u h1 h2 h3 h4 h5
    rw [f_X6_copy_104]
    by_cases he : k = n
    · subst he
      rw [if_pos (nI_le (Nat.le_refl _) (by omega))]
      exact ⟨u, rfl, h5, h4⟩
    · rw [if_neg (nI_ge (by omega) (by omega)), nI_add, m_rowAt hr (by omega), bd_some, ix_n (by omega) (by omega), nI_clamp (by omega), lt_eq, lt_eq, nI_1]
      refine ih (k + 1) _ (by omega) (by omega) (fun a => by rw [ui_si_r, if_neg (by omega)]; exact h3 a) (fun a ha => ?_) (h5.tr (Fr.si (by simp)))
      rw [ui_si_r]
      by_cases e : a = k
      · rw [if_pos ⟨rfl, e⟩, h3, e]
      · rw [if_neg (fun z => e z.2)]; exact h4 a (by omega)
theorem cp_2 {m : UU} {t j n : Nat} (ht : t < 6) (hn : j + n ≤ 40) (g : Nat → Int32) : ∀ (f k : Nat) (u : UU), k ≤ n → n + 1 ≤ k + f → (∀ a, a < n → ui u 59 a = g a) → (∀ a, ui u 58 a = if 40 * t + j ≤ a ∧ a < 40 * t + j + k then g (a - (40 * t + j)) else ui m 58 a) → Fr [58, 59] m u → ∃ u', f_X6_copy_136 f (nI t) (nI j) (nI n) (nI k) u = some (1, u') ∧ Fr [58, 59] m u' ∧ ∀ a, ui u' 58 a = if 40 * t + j ≤ a ∧ a < 40 * t + j + n then g (a - (40 * t + j)) else ui m 58 a := by
  intro f
  induction f with
  | zero => intro k u h1 h2; omega
  | succ f ih =>
    intro k u h1 h2 h3 h4 h5
    rw [f_X6_copy_136]
    by_cases he : k = n
    · subst he
      rw [if_pos (nI_le (Nat.le_refl _) (by omega))]
      exact ⟨u, rfl, h5, h4⟩
    · rw [if_neg (nI_ge (by omega) (by omega)), show (40 : Int32) * nI t + nI j = nI (40 * t + j) from nI_mulB, nI_add, ix_n (by omega) (by omega), ix_n (by omega) (by omega), nI_clamp (by omega), nI_clamp (by omega), lt_eq, lt_eq, nI_1]
      refine ih (k + 1) _ (by omega) (by omega) (fun a ha => by rw [ui_si_r, if_neg (by omega)]; exact h3 a ha) (fun a => ?_) (h5.tr (Fr.si (by simp)))
      rw [ui_si_r]
      by_cases e : a = 40 * t + j + k
      · rw [if_pos ⟨rfl, e⟩, if_pos (by omega), h3 k (by omega)]
        congr 1
        omega
      · rw [if_neg (fun z => e z.2), h4]
        by_cases q : 40 * t + j ≤ a ∧ a < 40 * t + j + k
        · rw [if_pos q, if_pos (by omega)]
        · rw [if_neg q, if_neg (by omega)]
theorem nI_nn {x : Int32} (h : ¬ x < 0) : ∃ k : Nat, k < 2 ^ 31 ∧ x = nI k := nI_of h
theorem op_copy {c m : UU} (h : Inv c m) (r i t j n : Int32) : Ok (f_X5_copy r i t j n c) (f_X6_copy r i t j n m) := by
  unfold f_X5_copy f_X6_copy
  rcases i_cases r (n := 6) (by omega) with hr | ⟨r, hr, rfl⟩
  · rw [s_isNum_out hr, row_out hr, bd_some, if_pos t00, if_pos t00]
    exact Ok.same h _
  rw [s_isNum_in hr (by omega), row_in hr, bd_some, if_neg n10, if_neg n10]
  rcases i_cases t (n := 6) (by omega) with ht | ⟨t, ht, rfl⟩
  · rw [s_isNum_out ht, row_out ht, bd_some, if_pos t00, if_pos t00]
    exact Ok.same h _
  rw [s_isNum_in ht (by omega), row_in ht, bd_some, if_neg n10, if_neg n10]
  by_cases h0 : ¬ 0 ≤ n
  · rw [if_neg h0, if_neg h0, show f_X5_found (5 : Int32) c = _ from f_found (f := 5) (by omega), show f_X6_meets (5 : Int32) m = _ from f_meets (f := 5) (by omega)]
    exact Ok.found h (by omega)
  have h0 : 0 ≤ n := Decidable.not_not.mp h0
  have n0 : ¬ n < 0 := fun q => absurd (i_lt.mp q) (by have := i_le.mp h0; omega)
  obtain ⟨-, -, ⟨S, r1, r2, r3⟩, -, -⟩ := id h
  obtain ⟨a1, a2⟩ := r2 r hr
  obtain ⟨b1, b2⟩ := r3 r hr
  obtain ⟨c1, c2⟩ := r2 t ht
  obtain ⟨d1, d2⟩ := r3 t ht
  rw [if_pos h0, if_pos h0, s_there_in hr (by omega), bd_some, s_there_in ht (by omega), ix_n hr (by omega), nI_clamp (show r < 2 ^ 31 by omega), b1, nI_clamp (show t < 2 ^ 31 by omega), d1, show ui c (1 + 1) r = _ from a1, show ui c (1 + 1) t = _ from c1]
  have e1 : f_X5_copy_57 c = some (-3, foC c 1) := by unfold f_X5_copy_57; rw [show f_X5_found (1 : Int32) c = _ from f_found (f := 1) (by omega)]; rfl
  have e2 : f_X5_copy_92 c = some (-3, foC c 2) := by unfold f_X5_copy_92; rw [show f_X5_found (2 : Int32) c = _ from f_found (f := 2) (by omega)]; rfl
  have e3 : f_X6_copy_45 m = some (-3, foM m 1) := by unfold f_X6_copy_45; rw [show f_X6_meets (1 : Int32) m = _ from f_meets (f := 1) (by omega)]; rfl
  have e4 : f_X6_copy_95 m = some (-3, foM m 2) := by unfold f_X6_copy_95; rw [show f_X6_meets (2 : Int32) m = _ from f_meets (f := 2) (by omega)]; rfl
  rw [e1, e2, e3, e4]
  cases hS : S r with
  | none =>
    rw [szI_none, if_pos rfl, if_pos t00, if_pos (by decide)]
    exact Ok.found h (by omega)
  | some ls =>
    rw [hS] at a1
    obtain ⟨a3, a4⟩ := a2 ls hS
    obtain ⟨b3, b4⟩ := b2 ls hS
    rw [szI_some, if_neg (szI_neg (by omega)), if_neg n10, if_neg (nI_pos (by omega)), ix_n ht (by omega), bd_some]
    cases hT : S t with
    | none =>
      rw [szI_none, if_pos rfl, if_pos t00, if_neg m1_neg]
      exact Ok.found h (by omega)
    | some ld =>
      rw [hT] at c1
      obtain ⟨c3, c4⟩ := c2 ld hT
      obtain ⟨d3, d4⟩ := d2 ld hT
      rw [szI_some, if_neg (szI_neg (by omega)), if_neg n10, if_pos (nI_ge0 (by omega)), s_str hr (by omega) (show ls.length ≤ 100 by omega) a1, bd_some, s_str ht (by omega) (show ld.length ≤ 100 by omega) c1, bd_some]
      have hi := i_rng i
      have hjj := i_rng j
      have hnn := i_rng n
      have g1 : (i.toInt64 + n.toInt64).toInt = i.toInt + n.toInt := by
        rw [l_add, l_i, l_i]
        · rw [l_i, l_i]; omega
        · rw [l_i, l_i]; omega
      have g2 : (j.toInt64 + n.toInt64).toInt = j.toInt + n.toInt := by
        rw [l_add, l_i, l_i]
        · rw [l_i, l_i]; omega
        · rw [l_i, l_i]; omega
      have g3 : (nI ls.length).toInt64.toInt = (ls.length : Int) := by rw [l_i, nI_toInt (by omega)]
      have g4 : (nI ld.length).toInt64.toInt = (ld.length : Int) := by rw [l_i, nI_toInt (by omega)]
      by_cases p1 : i < 0
      · rw [if_pos p1, if_pos (Or.inl p1), if_pos t00]
        exact Ok.found h (by omega)
      rw [if_neg p1]
      by_cases p2 : j < 0
      · rw [if_pos p2, if_pos (c := j < 0 ∨ _) (Or.inl p2), if_pos t00]
        by_cases p3 : i < 0 ∨ n < 0 ∨ (ls.length : Int) < i.toInt + n.toInt
        · rw [if_pos p3, if_pos t00]
          exact Ok.found h (by omega)
        · rw [if_neg p3, if_neg n10]
          exact Ok.found h (by omega)
      rw [if_neg p2, ix_n hr (by omega)]
      by_cases p3 : (ls.length : Int) < i.toInt + n.toInt
      · rw [if_pos (c := i < 0 ∨ _) (Or.inr (Or.inr p3)), if_pos t00, if_pos (cmp_gt.mpr (by rw [g1, g3]; exact p3))]
        exact Ok.found h (by omega)
      have q3 : ¬ (0 : Int32) < lg_cmp (i.toInt64 + n.toInt64) (nI ls.length).toInt64 := fun q => p3 (by have := cmp_gt.mp q; rwa [g1, g3] at this)
      rw [if_neg (c := i < 0 ∨ _) (no3 p1 n0 p3), if_neg n10, if_neg q3, ix_n ht (by omega)]
      by_cases p4 : (ld.length : Int) < j.toInt + n.toInt
      · have z4 : (0 : Int32) < lg_cmp (j.toInt64 + n.toInt64) (nI ld.length).toInt64 := cmp_gt.mpr (by rw [g2, g4]; exact p4)
        have q4 : ¬ lg_cmp (j.toInt64 + n.toInt64) (nI ld.length).toInt64 ≤ 0 := fun q => absurd (i_lt.mp z4) (by have := i_le.mp q; omega)
        rw [if_pos (c := j < 0 ∨ _) (Or.inr (Or.inr p4)), if_pos t00, if_neg q4]
        exact Ok.found h (by omega)
      have q4 : lg_cmp (j.toInt64 + n.toInt64) (nI ld.length).toInt64 ≤ 0 := i_le.mpr (by
        have : ¬ (0 : Int32) < lg_cmp (j.toInt64 + n.toInt64) (nI ld.length).toInt64 := fun q => p4 (by have := cmp_gt.mp q; rwa [g2, g4] at this)
        have : ¬ (0 : Int32).toInt < (lg_cmp (j.toInt64 + n.toInt64) (nI ld.length).toInt64).toInt := fun q => this (i_lt.mpr q)
        omega)
      rw [if_neg (c := j < 0 ∨ _) (no3 p2 n0 p4), if_neg n10, if_pos q4]
      obtain ⟨i, hi1, rfl⟩ := nI_nn p1
      obtain ⟨j, hj1, rfl⟩ := nI_nn p2
      obtain ⟨n, hn1, rfl⟩ := nI_nn n0
      rw [nI_toInt hi1, nI_toInt hn1] at p3
      rw [nI_toInt hj1, nI_toInt hn1] at p4
      have w1 : i + n ≤ ls.length := by omega
      have w2 : j + n ≤ ld.length := by omega
      have w3 : f_X3_move 1 6 (nI r) (nI i) (nI t) (nI j) (nI n) c = some (sc c 3 (40 * r + i) 3 (40 * t + j) n) := by
        unfold f_X3_move
        rw [s_str hr (by omega) (show ls.length ≤ 100 by omega) a1, bd_some, if_neg (c := nI i < 0 ∨ _) (no3 p1 n0 (by rw [nI_toInt hi1, nI_toInt hn1]; exact p3)), if_neg n10, s_str ht (by omega) (show ld.length ≤ 100 by omega) c1, bd_some, if_neg (c := nI j < 0 ∨ _) (no3 p2 n0 (by rw [nI_toInt hj1, nI_toInt hn1]; exact p4)), if_neg n10, r1, nI_mulA, nI_mulA]
        unfold cpk
        rw [nI_clamp (by omega), nI_clamp (by omega), nI_clamp (by omega), if_neg]
        · rfl
        · rintro (q | q | q | q | q)
          · exact nI_pos (by omega) q
          · exact nI_pos (by omega) q
          · exact n0 q
          · omega
          · omega
      rw [w3, bd_some]
      obtain ⟨m1, k1, k2, k3⟩ := cp_1 (m := m) hr (show i + n ≤ 40 by omega) (nI t) (nI j) fu 0 m (by omega) (by unfold fu; omega) (fun _ => rfl) (fun a ha => by omega) Fr.rf
      rw [show (0 : Int32) = nI 0 from rfl, k1]
      obtain ⟨m2, k4, k5, k6⟩ := cp_2 (m := m) ht (show j + n ≤ 40 by omega) (fun a => ui m 58 (40 * r + (i + a))) fu 0 m1 (by omega) (by unfold fu; omega) k3 (fun a => by rw [if_neg (by omega), k2.1 58 (by simp)]) (k2.up (by simp))
      rw [show (0 : Int32) = nI 0 from rfl, k4]
      refine ⟨1, _, _, rfl, rfl, ?_⟩
      refine h.rows ((Fr.sc (ks := [3]) (by simp)).fs (fun a b q => by simp at q; omega)) (k5.fs (fun a b q => ?_)) (S := upS S t (some (spl ls ld i j n))) ?_ ?_
      · unfold PM; simp at q; omega
      · refine r2.put (by rw [spl_len]; exact c3) (fun k => ?_) (fun k hk => ?_) (fun k hk => ?_)
        · rw [spl_len]
          show ui c 2 k = _
          unfold upd
          by_cases e : k = t
          · rw [if_pos e, e]; exact c1
          · rw [if_neg e]
        · rw [spl_len] at hk
          rw [spl_at hk, ui_sc_r]
          by_cases e : j ≤ k ∧ k < j + n
          · rw [if_pos ⟨rfl, by omega, by omega⟩, if_pos e, ← a4 _ (by omega)]
            congr 1
            omega
          · rw [if_neg (by omega), if_neg e]; exact c4 k hk
        · rw [ui_sc_r, if_neg (by omega)]
      · refine r3.put (by rw [spl_len]; exact d3) (fun k => ?_) (fun k hk => ?_) (fun k hk => ?_)
        · rw [spl_len, k5.1 57 (by simp)]
          unfold upd
          by_cases e : k = t
          · rw [if_pos e, e, d1, hT]; rfl
          · rw [if_neg e]
        · rw [spl_len] at hk
          rw [spl_at hk, k6]
          by_cases e : j ≤ k ∧ k < j + n
          · rw [if_pos (by omega), if_pos e, ← b4 _ (by omega)]
            congr 1
            omega
          · rw [if_neg (by omega), if_neg e]; exact d4 k hk
        · rw [k6, if_neg (by omega)]
