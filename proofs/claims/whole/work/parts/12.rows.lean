theorem bd_some {α β : Type} {a : α} {f : α → Option β} : (some a).bind f = f a := rfl
theorem t00 : (0 : Int32) = 0 := rfl
theorem n10 : ¬ (1 : Int32) = 0 := by decide
theorem in_0 {x lo hi : Int32} (h : x < lo ∨ hi < x) : f_X6_in x lo hi = 0 := by
  unfold f_X6_in
  by_cases h1 : x < lo
  · rw [if_pos h1]
  · rw [if_neg h1, if_pos (h.resolve_left h1)]
theorem in_1 {x lo hi : Int32} (h1 : ¬ x < lo) (h2 : ¬ hi < x) : f_X6_in x lo hi = 1 := by
  unfold f_X6_in
  rw [if_neg h1, if_neg h2]
theorem up_1 {x : Int32} {n : Nat} (hn : n + 1 < 2 ^ 31) (h : nI (n + 1) ≤ x) : nI n < x := by
  have := i_le.mp h
  rw [nI_toInt hn] at this
  rw [i_lt, nI_toInt (by omega)]
  omega
theorem in_out {x : Int32} {n : Nat} (hn : n + 1 < 2 ^ 31) (h : x < 0 ∨ nI (n + 1) ≤ x) : f_X6_in x 0 (nI n) = 0 := in_0 (h.imp id (up_1 hn))
theorem in_in {j n : Nat} (hn : n < 2 ^ 31) (h : j ≤ n) : f_X6_in (nI j) 0 (nI n) = 1 := in_1 (nI_pos (by omega)) (nI_nlt h hn)
theorem row_out {x : Int32} (h : x < 0 ∨ nI 6 ≤ x) : f_X6_isRow x = 0 := in_out (n := 5) (by omega) h
theorem row_in {j : Nat} (h : j < 6) : f_X6_isRow (nI j) = 1 := in_in (n := 5) (by omega) (by omega)
theorem text_out {x : Int32} (h : x < 0 ∨ nI 4 ≤ x) : f_X6_isText x = 0 := in_out (n := 3) (by omega) h
theorem text_in {j : Nat} (h : j < 4) : f_X6_isText (nI j) = 1 := in_in (n := 3) (by omega) (by omega)
theorem szI_some {l : List Int32} : szI (some l) = nI l.length := rfl
theorem szI_none : szI none = -1 := rfl
theorem mul_apart {pl q r i : Nat} (h : q ≠ r) (hi : i < pl) : ¬ (pl * r ≤ pl * q + i ∧ pl * q + i < pl * r + pl) := by
  rcases Nat.lt_or_gt_of_ne h with h | h
  · have : pl * q + pl ≤ pl * r := by rw [← Nat.mul_succ]; exact Nat.mul_le_mul_left pl h
    omega
  · have : pl * r + pl ≤ pl * q := by rw [← Nat.mul_succ]; exact Nat.mul_le_mul_left pl h
    omega
theorem shR.put {sz ce sz' ce' : Nat → Int32} {pl nr : Nat} {S : Nat → Option (List Int32)} (h : shR sz ce pl nr S) {r : Nat} {l : List Int32} (hl : l.length ≤ pl) (h1 : ∀ k, sz' k = upd sz r (nI l.length) k) (h2 : ∀ i, i < l.length → ce' (pl * r + i) = l.getD i 0) (h3 : ∀ k, ¬ (pl * r ≤ k ∧ k < pl * r + pl) → ce' k = ce k) : shR sz' ce' pl nr (upS S r (some l)) := by
  intro q hq
  by_cases e : q = r
  · subst e
    refine ⟨by rw [h1]; simp [upd, upS, szI], fun l' hl' => ?_⟩
    have : l = l' := by simpa [upS] using hl'
    subst this
    exact ⟨hl, h2⟩
  · refine ⟨by rw [h1]; simp [upd, upS, e, (h q hq).1], fun l' hl' => ?_⟩
    have hl' : S q = some l' := by simpa [upS, e] using hl'
    obtain ⟨g1, g2⟩ := (h q hq).2 l' hl'
    exact ⟨g1, fun i hi => by rw [h3 _ (mul_apart e (by omega))]; exact g2 i hi⟩
theorem shR.del {sz ce sz' ce' : Nat → Int32} {pl nr : Nat} {S : Nat → Option (List Int32)} (h : shR sz ce pl nr S) {r : Nat} (h1 : ∀ k, sz' k = upd sz r (-1) k) (h3 : ∀ k, ce' k = ce k) : shR sz' ce' pl nr (upS S r none) := by
  intro q hq
  by_cases e : q = r
  · subst e
    exact ⟨by rw [h1]; simp [upd, upS, szI], fun l' hl' => by simp [upS] at hl'⟩
  · refine ⟨by rw [h1]; simp [upd, upS, e, (h q hq).1], fun l' hl' => ?_⟩
    have hl' : S q = some l' := by simpa [upS, e] using hl'
    obtain ⟨g1, g2⟩ := (h q hq).2 l' hl'
    exact ⟨g1, fun i hi => by rw [h3]; exact g2 i hi⟩
theorem rep_getD {n i : Nat} {x d : Int32} (h : i < n) : (List.replicate n x).getD i d = x := by simp [List.getD, h]
theorem m_row_loop {j : Nat} (hj : j < 6) (x : Int32) : ∀ (n i : Nat) (u : UU), i ≤ 40 → 41 ≤ i + n → ∃ u', f_X6_row_34 n (nI j) x (nI i) u = some (x, u') ∧ Fr [58] u u' ∧ ∀ k, ui u' 58 k = if 40 * j + i ≤ k ∧ k < 40 * j + 40 then 0 else ui u 58 k := by
  intro n
  induction n with
  | zero => intro i u h1 h2; omega
  | succ n ih =>
    intro i u h1 h2
    rw [f_X6_row_34]
    by_cases he : i = 40
    · subst he
      rw [if_pos (show (40 : Int32) ≤ nI 40 from nI_le (Nat.le_refl _) (by omega))]
      exact ⟨u, rfl, Fr.rf, fun k => by rw [if_neg (by omega)]⟩
    · rw [if_neg (show ¬ (40 : Int32) ≤ nI i from nI_ge (b := 40) (by omega) (by omega)), show (40 : Int32) * nI j + nI i = nI (40 * j + i) from nI_mulB, ix_n (by omega) (by omega), nI_clamp (by omega), lt_eq, lt_eq, nI_1]
      obtain ⟨u', e1, e2, e3⟩ := ih (i + 1) (si u 58 (40 * j + i) 0) (by omega) (by omega)
      refine ⟨u', e1, Fr.tr (Fr.si (List.mem_singleton.mpr rfl)) e2, fun k => ?_⟩
      rw [e3, ui_si_r]
      by_cases h : 40 * j + i = k
      · subst h
        rw [if_neg (by omega), if_pos ⟨rfl, rfl⟩, if_pos (by omega)]
      · by_cases h3 : 40 * j + (i + 1) ≤ k ∧ k < 40 * j + 40
        · rw [if_pos h3, if_pos (by omega)]
        · rw [if_neg h3, if_neg (fun q => h q.2.symm), if_neg (by omega)]
theorem m_text_loop {j : Nat} (hj : j < 4) (x : Int32) : ∀ (n i : Nat) (u : UU), i ≤ 60 → 61 ≤ i + n → ∃ u', f_X6_text_34 n (nI j) x (nI i) u = some (x, u') ∧ Fr [61] u u' ∧ ∀ k, ui u' 61 k = if 60 * j + i ≤ k ∧ k < 60 * j + 60 then 32 else ui u 61 k := by
  intro n
  induction n with
  | zero => intro i u h1 h2; omega
  | succ n ih =>
    intro i u h1 h2
    rw [f_X6_text_34]
    by_cases he : i = 60
    · subst he
      rw [if_pos (show (60 : Int32) ≤ nI 60 from nI_le (Nat.le_refl _) (by omega))]
      exact ⟨u, rfl, Fr.rf, fun k => by rw [if_neg (by omega)]⟩
    · rw [if_neg (show ¬ (60 : Int32) ≤ nI i from nI_ge (b := 60) (by omega) (by omega)), show (60 : Int32) * nI j + nI i = nI (60 * j + i) from nI_mulB, ix_n (by omega) (by omega), nI_clamp (by omega), lt_eq, lt_eq, nI_1, show vp_nar .byte (32 : Int32) = 32 from rfl]
      obtain ⟨u', e1, e2, e3⟩ := ih (i + 1) (si u 61 (60 * j + i) 32) (by omega) (by omega)
      refine ⟨u', e1, Fr.tr (Fr.si (List.mem_singleton.mpr rfl)) e2, fun k => ?_⟩
      rw [e3, ui_si_r]
      by_cases h : 60 * j + i = k
      · subst h
        rw [if_neg (by omega), if_pos ⟨rfl, rfl⟩, if_pos (by omega)]
      · by_cases h3 : 60 * j + (i + 1) ≤ k ∧ k < 60 * j + 60
        · rw [if_pos h3, if_pos (by omega)]
        · rw [if_neg h3, if_neg (fun q => h q.2.symm), if_neg (by omega)]
/-- new rows on both sides -/
theorem Inv.rows {c m c' m' : UU} (h : Inv c m) (hc : Fs (fun k j => (2 ≤ k ∧ k ≤ 3) ∨ PC k j) c c') (hm : Fs (fun k j => (57 ≤ k ∧ k ≤ 58) ∨ PM k j) m m') {S : Nat → Option (List Int32)} (h1 : shR (ui c' 2) (ui c' 3) 40 6 S) (h2 : shR (ui m' 57) (ui m' 58) 40 6 S) : Inv c' m' := by
  obtain ⟨⟨f1, f2⟩, ⟨t1, t2, t3⟩, ⟨-, r1, -, -⟩, ⟨S', x1, x2, x3⟩, hI⟩ := id h
  refine h.mk' (fun k j a1 a2 a3 a4 => hc.1 k j (by unfold PC at a4 ⊢; omega)) (fun k j a1 a2 a3 a4 => hm.1 k j (by unfold PM at a4 ⊢; omega)) ⟨?_, fun j hj => ?_⟩ ⟨?_, ?_, ?_⟩ ⟨S, ?_, h1, h2⟩ ⟨S', ?_, ?_, ?_⟩
  · rw [hc.1 _ _ (by unfold PC; omega), hm.1 _ _ (by unfold PM; omega)]; exact f1
  · rw [hc.1 _ _ (by unfold PC; omega), hm.1 _ _ (by unfold PM; omega)]; exact f2 j hj
  · rw [hc.1 _ _ (by unfold PC; omega), hm.1 _ _ (by unfold PM; omega)]; exact t1
  · rw [hc.2 _ _ (by unfold PC; omega), hm.2 _ _ (by unfold PM; omega)]; exact t2
  · rw [hc.2 _ _ (by unfold PC; omega), hm.2 _ _ (by unfold PM; omega)]; exact t3
  · rw [hc.1 _ _ (by unfold PC; omega)]; exact r1
  · rw [hc.1 _ _ (by unfold PC; omega)]; exact x1
  · exact x2.cong (fun j => hc.1 _ _ (by unfold PC; omega)) (fun j => hc.1 _ _ (by unfold PC; omega))
  · exact x3.cong (fun j => hm.1 _ _ (by unfold PM; omega)) (fun j => hm.1 _ _ (by unfold PM; omega))
theorem Inv.texts {c m c' m' : UU} (h : Inv c m) (hc : Fs (fun k j => (5 ≤ k ∧ k ≤ 6) ∨ PC k j) c c') (hm : Fs (fun k j => (60 ≤ k ∧ k ≤ 61) ∨ PM k j) m m') {S : Nat → Option (List Int32)} (h1 : shR (ui c' 5) (ui c' 6) 60 4 S) (h2 : shR (ui m' 60) (ui m' 61) 60 4 S) : Inv c' m' := by
  obtain ⟨⟨f1, f2⟩, ⟨t1, t2, t3⟩, ⟨S', r1, r2, r3⟩, ⟨-, x1, -, -⟩, hI⟩ := id h
  refine h.mk' (fun k j a1 a2 a3 a4 => hc.1 k j (by unfold PC at a4 ⊢; omega)) (fun k j a1 a2 a3 a4 => hm.1 k j (by unfold PM at a4 ⊢; omega)) ⟨?_, fun j hj => ?_⟩ ⟨?_, ?_, ?_⟩ ⟨S', ?_, ?_, ?_⟩ ⟨S, ?_, h1, h2⟩
  · rw [hc.1 _ _ (by unfold PC; omega), hm.1 _ _ (by unfold PM; omega)]; exact f1
  · rw [hc.1 _ _ (by unfold PC; omega), hm.1 _ _ (by unfold PM; omega)]; exact f2 j hj
  · rw [hc.1 _ _ (by unfold PC; omega), hm.1 _ _ (by unfold PM; omega)]; exact t1
  · rw [hc.2 _ _ (by unfold PC; omega), hm.2 _ _ (by unfold PM; omega)]; exact t2
  · rw [hc.2 _ _ (by unfold PC; omega), hm.2 _ _ (by unfold PM; omega)]; exact t3
  · rw [hc.1 _ _ (by unfold PC; omega)]; exact r1
  · exact r2.cong (fun j => hc.1 _ _ (by unfold PC; omega)) (fun j => hc.1 _ _ (by unfold PC; omega))
  · exact r3.cong (fun j => hm.1 _ _ (by unfold PM; omega)) (fun j => hm.1 _ _ (by unfold PM; omega))
  · rw [hc.1 _ _ (by unfold PC; omega)]; exact x1
theorem le_cases {x : Int32} {n : Nat} (hn : n < 2 ^ 31) (h0 : 0 ≤ x) (h : x ≤ nI n) : ∃ j, j ≤ n ∧ x = nI j := nI_of2 (nI_toInt hn) (fun q => absurd (i_lt.mp q) (by have := i_le.mp h0; omega)) h
theorem op_row {c m : UU} (h : Inv c m) (r n : Int32) : Ok (f_X5_row r n c) (f_X6_row r n m) := by
  unfold f_X5_row f_X6_row
  rcases i_cases r (n := 6) (by omega) with hr | ⟨j, hj, rfl⟩
  · rw [s_isNum_out hr, row_out hr, bd_some, if_pos t00, if_pos t00]
    exact Ok.same h _
  · rw [s_isNum_in hj (by omega), row_in hj, bd_some, if_neg n10, if_neg n10]
    by_cases h1 : n ≤ 40
    · rw [if_pos h1, if_pos h1]
      by_cases h2 : 0 ≤ n
      · rw [if_pos h2, if_pos h2]
        obtain ⟨k, hk, rfl⟩ := le_cases (n := 40) (by omega) h2 h1
        obtain ⟨-, -, ⟨S, r1, r2, r3⟩, -, -⟩ := id h
        obtain ⟨c', e1, e2, e3, e4⟩ := s_make (b := 1) (nr := 6) (pl := 40) (u := c) (by omega) (by omega) (by omega) r1 hj hk 0
        rw [e1, ix_n hj (by omega), nI_clamp (by omega), lt_eq]
        obtain ⟨m', g1, g2, g3⟩ := m_row_loop hj (nI k) fu 0 (si m 57 j (nI k)) (by omega) (by unfold fu; omega)
        rw [show (0 : Int32) = nI 0 from rfl, g1]
        refine ⟨nI k, c', m', rfl, rfl, h.rows (e2.fs (fun a b q => ?_)) (Fs.tr (Fs.si (by omega)) (g2.fs (fun a b q => ?_))) (S := upS S j (some (List.replicate k 0))) ?_ ?_⟩
        · simp at q; omega
        · simp at q; omega
        · refine r2.put (by simpa using hk) (fun q => by rw [e3]; simp) (fun i hi => ?_) (fun q hq => ?_)
          · simp only [List.length_replicate] at hi
            rw [e4, if_pos (by omega), rep_getD hi]
          · rw [e4, if_neg (by omega)]
        · refine r3.put (by simpa using hk) (fun q => ?_) (fun i hi => ?_) (fun q hq => ?_)
          · rw [g2.1 57 (by simp), ui_si]; simp
          · simp only [List.length_replicate] at hi
            rw [g3, if_pos (by omega), rep_getD hi]
          · rw [g3, if_neg (by omega), ui_si_r, if_neg (by omega)]
      · rw [if_neg h2, if_neg h2, show (5 : Int32) = nI 5 from rfl, f_found (by omega), f_meets (by omega)]
        exact Ok.found h (by omega)
    · rw [if_neg h1, if_neg h1]
      exact Ok.same h _
theorem op_text {c m : UU} (h : Inv c m) (r n : Int32) : Ok (f_X5_text r n c) (f_X6_text r n m) := by
  unfold f_X5_text f_X6_text
  rcases i_cases r (n := 4) (by omega) with hr | ⟨j, hj, rfl⟩
  · rw [s_isNum_out hr, text_out hr, bd_some, if_pos t00, if_pos t00]
    exact Ok.same h _
  · rw [s_isNum_in hj (by omega), text_in hj, bd_some, if_neg n10, if_neg n10]
    by_cases h1 : n ≤ 60
    · rw [if_pos h1, if_pos h1]
      by_cases h2 : 0 ≤ n
      · rw [if_pos h2, if_pos h2]
        obtain ⟨k, hk, rfl⟩ := le_cases (n := 60) (by omega) h2 h1
        obtain ⟨-, -, -, ⟨S, r1, r2, r3⟩, -⟩ := id h
        obtain ⟨c', e1, e2, e3, e4⟩ := s_make (b := 4) (nr := 4) (pl := 60) (u := c) (by omega) (by omega) (by omega) r1 hj hk 32
        rw [e1, ix_n hj (by omega), nI_clamp (by omega), lt_eq]
        obtain ⟨m', g1, g2, g3⟩ := m_text_loop hj (nI k) fu 0 (si m 60 j (nI k)) (by omega) (by unfold fu; omega)
        rw [show (0 : Int32) = nI 0 from rfl, g1]
        refine ⟨nI k, c', m', rfl, rfl, h.texts (e2.fs (fun a b q => ?_)) (Fs.tr (Fs.si (by omega)) (g2.fs (fun a b q => ?_))) (S := upS S j (some (List.replicate k 32))) ?_ ?_⟩
        · simp at q; omega
        · simp at q; omega
        · refine r2.put (by simpa using hk) (fun q => by rw [e3]; simp) (fun i hi => ?_) (fun q hq => ?_)
          · simp only [List.length_replicate] at hi
            rw [e4, if_pos (by omega), rep_getD hi]
          · rw [e4, if_neg (by omega)]
        · refine r3.put (by simpa using hk) (fun q => ?_) (fun i hi => ?_) (fun q hq => ?_)
          · rw [g2.1 60 (by simp), ui_si]; simp
          · simp only [List.length_replicate] at hi
            rw [g3, if_pos (by omega), rep_getD hi]
          · rw [g3, if_neg (by omega), ui_si_r, if_neg (by omega)]
      · rw [if_neg h2, if_neg h2, show (5 : Int32) = nI 5 from rfl, f_found (by omega), f_meets (by omega)]
        exact Ok.found h (by omega)
    · rw [if_neg h1, if_neg h1]
      exact Ok.same h _
