theorem mkrow {c m : UU} (h : Inv c m) {j k : Nat} (hj : j < 6) (hk : k ≤ 40) : ∃ c' m', f_X3_make 1 6 (nI j) (nI k) 0 c = some c' ∧ f_X6_row (nI j) (nI k) m = some (nI k, m') ∧ Inv c' m' ∧ ui c' 2 j = nI k ∧ Fs (fun a _ => 2 ≤ a ∧ a ≤ 3) c c' ∧ Fs (fun a _ => 57 ≤ a ∧ a ≤ 58) m m' := by
  obtain ⟨-, -, ⟨S, r1, r2, r3⟩, -, -⟩ := id h
  obtain ⟨c', e1, e2, e3, e4⟩ := s_make (b := 1) (nr := 6) (pl := 40) (u := c) (by omega) (by omega) (by omega) r1 hj hk 0
  obtain ⟨m', g1, g2, g3⟩ := m_row_loop hj (nI k) fu 0 (si m 57 j (nI k)) (by omega) (by unfold fu; omega)
  have fc : Fs (fun a _ => 2 ≤ a ∧ a ≤ 3) c c' := e2.fs (fun a b q => by simp at q; omega)
  have fm : Fs (fun a _ => 57 ≤ a ∧ a ≤ 58) m m' := Fs.tr (P := fun a _ => 57 ≤ a ∧ a ≤ 58) (Fs.si ⟨by omega, by omega⟩) (g2.fs (fun a b q => by simp at q; omega))
  refine ⟨c', m', e1, ?_, ?_, by rw [show ui c' 2 = _ from e3]; simp [upd], fc, fm⟩
  · unfold f_X6_row
    rw [row_in hj, if_neg n10, if_pos (show nI k ≤ 40 from nI_le (b := 40) hk (by omega)), if_pos (nI_ge0 (by omega)), ix_n hj (by omega), nI_clamp (by omega), lt_eq, show (0 : Int32) = nI 0 from rfl, g1]
  · refine h.rows (fc.up (fun a b q => Or.inl q)) (fm.up (fun a b q => Or.inl q)) (S := upS S j (some (List.replicate k 0))) ?_ ?_
    · refine r2.put (by simpa using hk) (fun q => by rw [e3]; simp) (fun i hi => ?_) (fun q hq => ?_)
      · simp only [List.length_replicate] at hi
        rw [e4, if_pos (by omega), rep_getD hi]
      · rw [e4, if_neg (by omega)]
    · refine r3.put (by simpa using hk) (fun q => ?_) (fun i hi => ?_) (fun q hq => ?_)
      · rw [g2.1 57 (by simp), ui_si]; simp
      · simp only [List.length_replicate] at hi
        rw [g3, if_pos (by omega), rep_getD hi]
      · rw [g3, if_neg (by omega), ui_si_r, if_neg (by omega)]
theorem wrow {c m : UU} (h : Inv c m) {j P t : Nat} (hj : j < 6) (hP : P ≤ 40) (hs : ui c 2 j = nI P) (ht : t < P) (v : Int32) : f_X3_write 1 6 (nI j) (nI t) v c = some (si c 3 (40 * j + t) v) ∧ Inv (si c 3 (40 * j + t) v) (si m 58 (40 * j + t) v) := by
  obtain ⟨-, -, ⟨S, r1, r2, r3⟩, -, -⟩ := id h
  have e : szI (S j) = nI P := (r2 j hj).1.symm.trans hs
  cases hS : S j with
  | none => rw [hS] at e; exact absurd e.symm (szI_neg (by omega))
  | some l =>
    rw [hS] at e
    have el : l.length = P := (nI_eqi (by have := ((r2 j hj).2 l hS).1; omega) (by omega)).mp e
    refine ⟨s_write (pl := 40) (n := P) hj (by omega) (by omega) hP (by omega) r1 hs ht, ?_⟩
    refine h.rows (Fs.si (by omega)) (Fs.si (by omega)) (S := upS S j (some (l.set t v))) ?_ ?_
    · refine shR.lay (ce := ui c 3) ?_ hj hS (by omega) (fun q => ?_)
      · exact r2.cong (fun q => by simp [ui_si_r]) (fun q => rfl)
      · rw [ui_si_r]
        by_cases e : q = 40 * j + t
        · rw [if_pos ⟨rfl, e⟩, if_pos e]
        · rw [if_neg (fun z => e z.2), if_neg e]
    · refine shR.lay (ce := ui m 58) ?_ hj hS (by omega) (fun q => ?_)
      · exact r3.cong (fun q => by simp [ui_si_r]) (fun q => rfl)
      · rw [ui_si_r]
        by_cases e : q = 40 * j + t
        · rw [if_pos ⟨rfl, e⟩, if_pos e]
        · rw [if_neg (fun z => e z.2), if_neg e]
theorem pcn_mono (b d : Nat) : ∀ e, pcn b d ≤ pcn b (d + e) := by
  intro e
  induction e with
  | zero => exact Nat.le_refl _
  | succ e ih =>
    show pcn b d ≤ pcn b (d + e) + _
    omega
theorem wr_l {j b : Nat} (hj : j < 6) (hb : b < 2 ^ 17) (hP : pc b ≤ 15) : ∀ (e d F G : Nat) (c m : UU), d + e = 17 → 2 ≤ d → e < F → e < G → Inv c m → ui c 2 j = nI (pc b) → ui c 52 3 = nI (pc b) → ui m 55 27 = nI (pc b) → ui c 52 4 = nI b → ui m 55 28 = nI b → Ok (f_X5_writes_82 F (nI j) (nI (pcn b d)) (nI d) c) (f_X6_writes_56 G (nI j) (nI (pcn b d)) (nI d) m) := by
  intro e
  induction e with
  | zero =>
    intro d F G c m h1 h2 h3 h4 h hs q3 q4 q5 q6
    obtain ⟨F, rfl⟩ : ∃ F0, F = F0 + 1 := ⟨F - 1, by omega⟩
    obtain ⟨G, rfl⟩ : ∃ G0, G = G0 + 1 := ⟨G - 1, by omega⟩
    rw [f_X5_writes_82, f_X6_writes_56, if16 (by omega), if16 (by omega), if_pos (show 17 ≤ d by omega), if_pos (show 17 ≤ d by omega), q3, q4]
    exact Ok.same h _
  | succ e ih =>
    intro d F G c m h1 h2 h3 h4 h hs q3 q4 q5 q6
    obtain ⟨F, rfl⟩ : ∃ F0, F = F0 + 1 := ⟨F - 1, by omega⟩
    obtain ⟨G, rfl⟩ : ∃ G0, G = G0 + 1 := ⟨G - 1, by omega⟩
    have st : pcn b (d + 1) = pcn b d + if b.testBit d = true then 1 else 0 := rfl
    have mono := pcn_mono b (d + 1) e
    rw [show d + 1 + e = 17 by omega] at mono
    rw [f_X5_writes_82, f_X6_writes_56, if16 (by omega), if16 (by omega), if_neg (show ¬ 17 ≤ d by omega), if_neg (show ¬ 17 ≤ d by omega), q5, q6, holds_eq (by omega) (by omega), has_eq (by omega) (by omega)]
    unfold f_X5_writes_118 f_X6_writes_91
    simp only [lt_eq, nI_1]
    by_cases q : b.testBit d = true
    · rw [if_pos q] at st
      have ht : pcn b d < pc b := by unfold pc; omega
      obtain ⟨w1, w2⟩ := wrow h hj (by omega) hs ht (nI d)
      rw [if_pos q, if_neg n10, if_neg n10, w1, bd_some, show (40 : Int32) * nI j + nI (pcn b d) = nI (40 * j + pcn b d) from nI_mulB, ix_n (by omega) (by omega), nI_clamp (by omega), ← st]
      exact ih (d + 1) F G _ _ (by omega) (by omega) (by omega) (by omega) w2 (by rw [ui_si_r, if_neg (by omega)]; exact hs) (by rw [ui_si_r, if_neg (by omega)]; exact q3) (by rw [ui_si_r, if_neg (by omega)]; exact q4) (by rw [ui_si_r, if_neg (by omega)]; exact q5) (by rw [ui_si_r, if_neg (by omega)]; exact q6)
    · rw [if_neg q] at st
      rw [if_neg q, if_pos rfl, if_pos rfl, show pcn b d = pcn b (d + 1) from st.symm]
      exact ih (d + 1) F G c m (by omega) (by omega) (by omega) (by omega) h hs q3 q4 q5 q6
theorem op_writes {c m : UU} (h : Inv c m) (x y : Int32) : Ok (f_X5_writes x y c) (f_X6_writes x y m) := by
  obtain ⟨n, kd, up, lw, dm, w, kp, hB⟩ := h.2.2.2.2
  have h7 := hB.1.1
  unfold f_X5_writes f_X6_writes
  rcases i_cases x (n := n) (by omega) with hx | ⟨i, hi, rfl⟩
  · rw [c_isW_out hB hx, m_isW_out hB hx, bd_some, bd_some, if_pos t00, if_pos t00]
    exact Ok.same h _
  rw [c_isW_in hB hi, m_isW_in hB hi, bd_some, bd_some, if_neg n10, if_neg n10]
  rcases i_cases y (n := 6) (by omega) with hr | ⟨j, hj, rfl⟩
  · rw [s_isNum_out hr, row_out hr, bd_some, if_pos t00, if_pos t00]
    exact Ok.same h _
  have k6 := (hB.1.2.1 i hi).1
  have hd := due_lt (hB.1.2.1 i hi).2.2.2.1 (hB.1.2.1 i hi).2.2.1
  obtain ⟨k, b, g, c', m', a1, a2, ⟨l1, l2, l3, l4⟩, a4, a5, -⟩ := looks (M := andN (KM (kd i)) (w dm (18 + i))) (T := due up lw i - Sm (w dm (18 + i))) c m (andN_lt17 (KM_lt _ k6)) (andN4 k6) (by omega)
  rw [s_isNum_in hj (by omega), row_in hj, bd_some, if_neg n10, if_neg n10, ix_n (by omega) (by omega), nI_clamp (by omega), c_open hB hi, bd_some, show ui c 17 i = _ from (hB.2.1.2.2.2.2.2.1 i hi).2.2.2.2, a1, bd_some, m_may hB hi, bd_some, m_lack hB hi, bd_some, a2, bd_some, l1, l2]
  have hI := h.look a4 a5
  by_cases z : k = 0
  · rw [if_pos (by rw [z]; rfl), if_pos (by rw [z]; rfl)]
    exact Ok.same hI _
  · obtain ⟨q1, q2, q3, q4, q5, q6, q7, q8, q9, -⟩ := l4 (by omega)
    have hP := pc15 q9
    obtain ⟨c2, m2, e1, e2, e3, e4, e5, e6⟩ := mkrow hI hj (show pc b ≤ 40 by omega)
    rw [if_neg (nI_ne0 (by omega) (by omega)), if_neg (nI_ne0 (by omega) (by omega)), q3, q4, e1, e2, bd_some, bd_some]
    have p0 : pcn b 2 = 0 := by
      exact Nat.le_zero.mp (pcn15 (mod4_lo q9).1 (mod4_lo q9).2 0)
    have := wr_l hj q8 hP 15 2 fu fu c2 m2 (by omega) (by omega) (by unfold fu; omega) (by unfold fu; omega) e3 e4 (by rw [e5.1 _ _ (by omega)]; exact q3) (by rw [e6.1 _ _ (by omega)]; exact q4) (by rw [e5.1 _ _ (by omega)]; exact q5) (by rw [e6.1 _ _ (by omega)]; exact q6)
    rw [p0] at this
    exact this
