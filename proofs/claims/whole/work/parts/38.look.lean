def oN (p : Nat) : Nat := [11, 13, 9, 7, 14, 16, 8, 5, 10, 15, 4, 12, 3, 6, 2].getD p 0
def cN (p : Nat) : Nat := [1, 11, 143, 429, 429, 3003, 6006, 12012, 12012, 12012, 60060, 60060, 120120, 120120, 360360].getD p 0
def psN (d : Nat) : Nat := [0, 0, 14, 12, 10, 7, 13, 3, 6, 2, 8, 0, 11, 1, 4, 9, 5].getD d 0
theorem oN_f : ∀ p, p < 15 → ordF p = nI (oN p) ∧ comF p = nI (cN p) ∧ 1 ≤ cN p ∧ cN p ≤ 360360 ∧ 2 ≤ oN p ∧ oN p ≤ 16 ∧ psN (oN p) = p := by decide
theorem ps_f : ∀ d, d < 17 → 2 ≤ d → psN d < 15 ∧ oN (psN d) = d := by decide
theorem ps_dvd : ∀ p, p < 15 → ∀ d, d < 17 → 2 ≤ d → p ≤ psN d → 720720 / d % cN p = 0 := by decide +kernel
theorem sup {s x : Nat} (h : ∀ d, s.testBit d = true → x.testBit d = true) : ∀ n, smn s n ≤ smn x n ∧ (smn s n = smn x n → n ≤ 17 → ∀ d, d < n → 2 ≤ d → x.testBit d = true → s.testBit d = true) := by
  intro n
  induction n with
  | zero => exact ⟨Nat.le_refl _, fun _ _ d hd => absurd hd (by omega)⟩
  | succ n ih =>
    obtain ⟨i1, i2⟩ := ih
    have e1 : smn s (n + 1) = smn s n + if 2 ≤ n ∧ s.testBit n = true then 720720 / n else 0 := rfl
    have e2 : smn x (n + 1) = smn x n + if 2 ≤ n ∧ x.testBit n = true then 720720 / n else 0 := rfl
    rw [e1, e2]
    by_cases a : 2 ≤ n ∧ s.testBit n = true
    · rw [if_pos a, if_pos ⟨a.1, h n a.2⟩]
      refine ⟨by omega, fun e hn d hd h2 hx => ?_⟩
      by_cases q : d = n
      · rw [q]; exact a.2
      · exact i2 (by omega) (by omega) d (by omega) h2 hx
    · rw [if_neg a]
      refine ⟨by omega, fun e hn d hd h2 hx => ?_⟩
      by_cases q : d = n
      · subst q
        rw [if_pos ⟨h2, hx⟩] at e
        have := dvp h2 (by omega)
        omega
      · exact i2 (by omega) (by omega) d (by omega) h2 hx
theorem dvs {s x p : Nat} (hp : p < 15) (h : ∀ d, s.testBit d = true → x.testBit d = true) (h2 : ∀ d, 2 ≤ d → d ≤ 16 → x.testBit d = true → ¬ s.testBit d = true → p ≤ psN d) : ∀ n, n ≤ 17 → ∃ k, smn x n = smn s n + cN p * k := by
  intro n
  induction n with
  | zero => intro _; exact ⟨0, rfl⟩
  | succ n ih =>
    intro hn
    obtain ⟨k, ek⟩ := ih (by omega)
    have e1 : smn s (n + 1) = smn s n + if 2 ≤ n ∧ s.testBit n = true then 720720 / n else 0 := rfl
    have e2 : smn x (n + 1) = smn x n + if 2 ≤ n ∧ x.testBit n = true then 720720 / n else 0 := rfl
    rw [e1, e2]
    by_cases a : 2 ≤ n ∧ s.testBit n = true
    · rw [if_pos a, if_pos ⟨a.1, h n a.2⟩]
      exact ⟨k, by omega⟩
    · rw [if_neg a]
      by_cases b : 2 ≤ n ∧ x.testBit n = true
      · rw [if_pos b]
        have := ps_dvd p hp n (by omega) b.1 (h2 n b.1 (by omega) b.2 (fun q => a ⟨b.1, q⟩))
        have e3 := Nat.div_add_mod (720720 / n) (cN p)
        refine ⟨k + 720720 / n / cN p, ?_⟩
        rw [Nat.mul_add]
        omega
      · rw [if_neg b]
        exact ⟨k, by omega⟩
/-- what may be found from the place p on, with s in hand and T still lacking -/
def Dp (M p s T x : Nat) : Prop := sbm M x ∧ (∀ d, 2 ≤ d → d ≤ 16 → psN d < p → x.testBit d = s.testBit d) ∧ Sm x = Sm s + T
def SI (M p s : Nat) : Prop := ∀ d, s.testBit d = true → M.testBit d = true ∧ 2 ≤ d ∧ d ≤ 16 ∧ psN d < p
theorem Dp.up {M p s T x : Nat} (h : Dp M p s T x) (hs : SI M p s) : ∀ d, s.testBit d = true → x.testBit d = true := fun d hd => by
  obtain ⟨-, h2, h3, h4⟩ := hs d hd
  rw [h.2.1 d h2 h3 h4]
  exact hd
theorem mbits {M d : Nat} (hM : M < 2 ^ 17) (h4 : M % 4 = 0) (h : M.testBit d = true) : 2 ≤ d ∧ d ≤ 16 := by
  constructor
  · have l := mod4_lo h4
    refine Nat.le_of_not_lt fun q => ?_
    have : d = 0 ∨ d = 1 := by omega
    rcases this with rfl | rfl
    · rw [l.1] at h; cases h
    · rw [l.2] at h; cases h
  · refine Nat.le_of_not_lt fun q => ?_
    rw [tb_big hM (by omega)] at h
    cases h
theorem Dp.zero {M p s x : Nat} (hM : M < 2 ^ 17) (h4 : M % 4 = 0) (hs : SI M p s) : Dp M p s 0 x ↔ x = s := by
  constructor
  · intro h
    have u := h.up hs
    have e : smn s 17 = smn x 17 := by have := h.2.2; unfold Sm at this; omega
    have k := (sup u 17).2 e (by omega)
    refine Nat.eq_of_testBit_eq fun d => ?_
    cases q : x.testBit d with
    | true =>
      have hb := mbits hM h4 (h.1 d q)
      exact (k d (by omega) hb.1 q).symm
    | false =>
      cases r : s.testBit d with
      | true => have := u d r; rw [q] at this; cases this
      | false => rfl
  · rintro rfl
    exact ⟨fun d hd => (hs d hd).1, fun _ _ _ _ => rfl, rfl⟩
theorem lookOn_s (F : Nat) (x1 x2 x3 : Int32) (u : UU) : f_X1_lookOn (F + 1) x1 x2 x3 u = f_X1_lookOn_body (f_X1_lookOn F) x1 x2 x3 u := rfl
theorem look_neg {F : Nat} {x1 x3 : Int32} {u : UU} {T z : Nat} (h : T < z) (hz : z < 2 ^ 30) : f_X1_lookOn (F + 1) x1 (nI T - nI z) x3 u = some u := by
  have e : (nI T - nI z).toInt = (T : Int) - z := by
    rw [i_sub (by rw [nI_toInt (by omega), nI_toInt (by omega)]; omega) (by rw [nI_toInt (by omega), nI_toInt (by omega)]; omega), nI_toInt (by omega), nI_toInt (by omega)]
  rw [lookOn_s]
  unfold f_X1_lookOn_body
  rw [if_neg (fun q => by have := i_eq.mp q; rw [e, show (0 : Int32).toInt = 0 from rfl] at this; omega), if_pos (i_lt.mpr (by rw [e]; show _ < (0 : Int); omega))]
theorem lk {M : Nat} (hM : M < 2 ^ 17) (h4 : M % 4 = 0) : ∀ (F p s T : Nat) (L : List Nat) (u : UU), 15 < F + p → p ≤ 15 → SI M p s → s < 2 ^ 17 → T < 2 ^ 30 → ui u 52 0 = nI M → CSt L u → (∀ y, y ∈ L → y < 2 ^ 17) → L.length + 2 ^ (15 - p) ≤ 2 ^ 20 → ∃ N u', f_X1_lookOn F (nI p) (nI T) (nI s) u = some u' ∧ CSt (N ++ L) u' ∧ N.Nodup ∧ (∀ x, x ∈ N ↔ Dp M p s T x) ∧ N.length ≤ 2 ^ (15 - p) ∧ Fs (fun k j => k = 52 ∧ 1 ≤ j) u u' := by
  intro F
  induction F with
  | zero => intro p s T L u h1 h2; omega
  | succ F ih =>
    intro p s T L u h1 h2 hs hs17 hT hu hL hb hl
    have p2 : 0 < 2 ^ (15 - p) := Nat.two_pow_pos _
    rw [lookOn_s]
    unfold f_X1_lookOn_body
    by_cases z : T = 0
    · subst z
      obtain ⟨u', e1, e2, e3⟩ := c_note hL hs17 hb (by omega)
      rw [if_pos (show nI 0 = 0 from rfl), e1, bd_some]
      refine ⟨[s], u', rfl, e2, by simp, fun x => ?_, by simp only [List.length_singleton]; omega, e3⟩
      rw [List.mem_singleton, Dp.zero hM h4 hs]
    rw [if_neg (nI_ne0 (by omega) (by omega)), if_neg (nI_pos (by omega))]
    by_cases z15 : p = 15
    · rw [if_pos (show (15 : Int32) ≤ nI p from nI_le (a := 15) (by omega) (by omega))]
      refine ⟨[], u, rfl, hL, List.nodup_nil, fun x => ⟨(fun q => by cases q), fun q => ?_⟩, Nat.zero_le _, Fs.rf⟩
      exfalso
      have up := q.up hs
      have e : smn x 17 = smn s 17 := by
        refine Nat.le_antisymm ((sup (s := x) (x := s) (fun d hd => ?_) 17).1) (sup up 17).1
        have hb := mbits hM h4 (q.1 d hd)
        rw [← q.2.1 d hb.1 hb.2 (by have := ps_f d (by omega) hb.1; omega)]
        exact hd
      have := q.2.2
      unfold Sm at this
      omega
    have p15 : p < 15 := by omega
    obtain ⟨o1, o2, o3, o4, o5, o6, o7⟩ := oN_f p p15
    have n15 : ¬ (15 : Int32) ≤ nI p := nI_ge (b := 15) (by omega) (by omega)
    have l15 : nI p < (15 : Int32) := i_lt.mpr (by rw [nI_toInt (by omega)]; show _ < (15 : Int); omega)
    have nc : ¬ nI (cN p) ≤ (0 : Int32) := fun q => by
      have := i_le.mp q
      rw [nI_toInt (by omega), show (0 : Int32).toInt = 0 from rfl] at this
      omega
    rw [if_neg n15, if_pos l15, ix_n p15 (by omega), nI_clamp (by omega), o1, o2, lt_eq, if_neg nc, nI_mod (by omega) (by omega) (by omega), ix_n p15 (by omega), lt_eq, hu, holds_eq (by omega) (by omega), shl1 (by omega), ps_eq (by omega) o6, nI_1]
    generalize ed : oN p = d at *
    have sd : s.testBit d = false := by
      cases q : s.testBit d with
      | false => rfl
      | true => have := (hs d q).2.2.2; omega
    have hq : 720720 / d ≤ 720720 := Nat.div_le_self _ _
    have hq1 := dvp o5 o6
    by_cases zc : T % cN p = 0
    · rw [zc, if_pos (show nI 0 = 0 from rfl)]
      have pw : 2 ^ (15 - p) = 2 ^ (15 - (p + 1)) + 2 ^ (15 - (p + 1)) := by
        rw [show 15 - p = 15 - (p + 1) + 1 by omega, Nat.pow_succ]; omega
      have hsN : SI M (p + 1) s := fun e he => by obtain ⟨a, b, c, f⟩ := hs e he; exact ⟨a, b, c, by omega⟩
      have psi : ∀ e, 2 ≤ e → e ≤ 16 → psN e < p + 1 → ¬ e = d → psN e < p := fun e he1 he2 he3 he4 => by
        have := ps_f e (by omega) he1
        by_cases w : psN e = p
        · rw [w, ed] at this; omega
        · omega
      /- the two halves -/
      have half0 : ∀ x, Dp M (p + 1) s T x ↔ Dp M p s T x ∧ x.testBit d = false := by
        intro x
        constructor
        · intro q
          refine ⟨⟨q.1, fun e a b c => q.2.1 e a b (by omega), q.2.2⟩, ?_⟩
          rw [q.2.1 d o5 o6 (by omega)]; exact sd
        · intro ⟨q, r⟩
          refine ⟨q.1, fun e a b c => ?_, q.2.2⟩
          by_cases w : e = d
          · rw [w, r, sd]
          · exact q.2.1 e a b (psi e a b c w)
      unfold f_X1_lookOn_90
      by_cases mb : M.testBit d = true
      · rw [if_pos mb, if_neg n10]
        obtain ⟨ob1, ob2⟩ := or_bit sd hs17 o6
        rw [ob1]
        have hs2 : SI M (p + 1) (s + 2 ^ d) := fun e he => by
          rw [pw_bit sd] at he
          by_cases w : e = d
          · subst w; exact ⟨mb, o5, o6, by omega⟩
          · have : s.testBit e = true := by simpa [w] using he
            obtain ⟨a, b, c, f⟩ := hs e this
            exact ⟨a, b, c, by omega⟩
        have first : ∃ N1 u1, f_X1_lookOn F (nI (p + 1)) (nI T - nI (720720 / d)) (nI (s + 2 ^ d)) u = some u1 ∧ CSt (N1 ++ L) u1 ∧ N1.Nodup ∧ (∀ x, x ∈ N1 ↔ Dp M p s T x ∧ x.testBit d = true) ∧ N1.length ≤ 2 ^ (15 - (p + 1)) ∧ Fs (fun k j => k = 52 ∧ 1 ≤ j) u u1 := by
          by_cases zt : 720720 / d ≤ T
          · rw [pk_sub zt]
            obtain ⟨N1, u1, e1, e2, e3, e4, e5, e6⟩ := ih (p + 1) (s + 2 ^ d) (T - 720720 / d) L u (by omega) (by omega) hs2 ob2 (Nat.lt_of_le_of_lt (Nat.sub_le _ _) hT) hu hL hb (by omega)
            refine ⟨N1, u1, e1, e2, e3, fun x => ?_, e5, e6⟩
            rw [e4]
            constructor
            · intro q
              have qd : x.testBit d = true := by rw [q.2.1 d o5 o6 (by omega), pw_bit sd]; simp
              refine ⟨⟨q.1, fun e a b c => ?_, ?_⟩, qd⟩
              · rw [q.2.1 e a b (by omega), pw_bit sd]
                have : ¬ e = d := fun w => by rw [w] at c; omega
                simp [this]
              · have := q.2.2
                rw [Sm_add sd o5 o6] at this
                omega
            · intro ⟨q, r⟩
              refine ⟨q.1, fun e a b c => ?_, ?_⟩
              · rw [pw_bit sd]
                by_cases w : e = d
                · rw [w, r]; simp
                · rw [q.2.1 e a b (psi e a b c w)]; simp [w]
              · rw [Sm_add sd o5 o6]
                have := q.2.2
                omega
          · obtain ⟨F, rfl⟩ : ∃ F0, F = F0 + 1 := ⟨F - 1, by omega⟩
            rw [look_neg (by omega) (by omega)]
            refine ⟨[], u, rfl, hL, List.nodup_nil, fun x => ⟨(fun q => by cases q), fun ⟨q, r⟩ => ?_⟩, Nat.zero_le _, Fs.rf⟩
            exfalso
            have up := q.up hs
            have k := (sup (s := s + 2 ^ d) (x := x) (fun e he => by
              rw [pw_bit sd] at he
              by_cases w : e = d
              · rw [w]; exact r
              · exact up e (by simpa [w] using he)) 17).1
            have k2 := Sm_add sd o5 o6
            have := q.2.2
            unfold Sm at *
            omega
        obtain ⟨N1, u1, e1, e2, e3, e4, e5, e6⟩ := first
        obtain ⟨N2, u2, g1, g2, g3, g4, g5, g6⟩ := ih (p + 1) s T (N1 ++ L) u1 (by omega) (by omega) hsN hs17 hT (by rw [e6.1 _ _ (by omega)]; exact hu) e2 (fun y hy => by
          rcases List.mem_append.mp hy with hy | hy
          · have := sbm_lt ((e4 y).mp hy).1.1 hM
            omega
          · exact hb y hy) (by rw [List.length_append]; omega)
        rw [e1, bd_some, nI_1, g1, bd_some]
        refine ⟨N2 ++ N1, u2, rfl, by rw [List.append_assoc]; exact g2, ?_, fun x => ?_, by rw [List.length_append]; omega, e6.tr g6⟩
        · refine List.nodup_append.mpr ⟨g3, e3, fun a ha b hb' q => ?_⟩
          have a1 := ((half0 a).mp ((g4 a).mp ha)).2
          have a2 := ((e4 b).mp hb').2
          rw [← q, a1] at a2
          cases a2
        · rw [List.mem_append, g4, e4, half0]
          constructor
          · rintro (⟨a, -⟩ | ⟨a, -⟩) <;> exact a
          · intro a
            cases q : x.testBit d with
            | true => exact Or.inr ⟨a, rfl⟩
            | false => exact Or.inl ⟨a, rfl⟩
      · rw [if_neg mb, if_pos t00]
        obtain ⟨N2, u2, g1, g2, g3, g4, g5, g6⟩ := ih (p + 1) s T L u (by omega) (by omega) hsN hs17 hT hu hL hb (by omega)
        rw [nI_1, g1, bd_some]
        refine ⟨N2, u2, rfl, g2, g3, fun x => ?_, by omega, g6⟩
        rw [g4, half0]
        constructor
        · intro a; exact a.1
        · intro a
          refine ⟨a, ?_⟩
          cases q : x.testBit d with
          | false => rfl
          | true => exact absurd (a.1 d q) mb
    · rw [if_neg (nI_ne0 (by omega) (by have := Nat.mod_lt T (show 0 < cN p by omega); omega))]
      refine ⟨[], u, rfl, hL, List.nodup_nil, fun x => ⟨(fun q => by cases q), fun q => ?_⟩, Nat.zero_le _, Fs.rf⟩
      exfalso
      obtain ⟨k, ek⟩ := dvs p15 (q.up hs) (fun e a b c f => Nat.le_of_not_lt fun w => f (by rw [← q.2.1 e a b w]; exact c)) 17 (by omega)
      have := q.2.2
      unfold Sm at this
      have : T = cN p * k := by omega
      rw [this, Nat.mul_mod_right] at zc
      exact zc rfl

theorem c_look {M T : Nat} {u : UU} (hM : M < 2 ^ 17) (h4 : M % 4 = 0) (hT : T < 2 ^ 30) : ∃ L u', f_X1_lookFor (nI T) (nI M) u = some u' ∧ CSt L u' ∧ L.Nodup ∧ (∀ y, y ∈ L ↔ sbm M y ∧ Sm y = T) ∧ L.length ≤ 2 ^ 15 ∧ Fs (fun k _ => k = 52) u u' := by
  unfold f_X1_lookFor
  rw [lt_eq, lt_eq, lt_eq, lt_eq, lt_eq]
  have fr : Fs (fun k _ => k = 52) u (si (si (si (si (si u 52 0 (nI M)) 52 1 0) 52 2 0) 52 3 0) 52 4 0) := ((((Fs.si (P := fun k _ => k = 52) rfl).tr (Fs.si rfl)).tr (Fs.si rfl)).tr (Fs.si rfl)).tr (Fs.si rfl)
  obtain ⟨N, u', e1, e2, e3, e4, e5, e6⟩ := lk hM h4 20 0 0 T [] (si (si (si (si (si u 52 0 (nI M)) 52 1 0) 52 2 0) 52 3 0) 52 4 0) (by omega) (by omega) (fun d hd => by simp at hd) (by omega) hT (by simp [ui_si_r]) ⟨by simp [ui_si_r]; rfl, fun _ => ⟨by simp [ui_si_r], by simp [ui_si_r], by simp [ui_si_r]⟩, fun q => absurd rfl q⟩ (fun y hy => by cases hy) (by decide)
  rw [show (0 : Int32) = nI 0 from rfl] at *
  rw [e1, bd_some]
  rw [List.append_nil] at e2
  refine ⟨N, u', rfl, e2, e3, fun y => ?_, e5, fr.tr (e6.up (fun k j h => h.1))⟩
  rw [e4]
  constructor
  · intro q
    have := q.2.2
    rw [Sm_0] at this
    exact ⟨q.1, by omega⟩
  · intro q
    exact ⟨q.1, fun d _ _ h => absurd h (by omega), by rw [Sm_0]; omega⟩
def Lk (M T k b g : Nat) (c m : UU) : Prop := ui c 52 1 = nI k ∧ ui m 55 26 = nI k ∧ k ≤ 2 ^ 15 ∧ (0 < k → ui c 52 2 = nI g ∧ ui m 55 29 = nI g ∧ ui c 52 3 = nI (pc b) ∧ ui m 55 27 = nI (pc b) ∧ ui c 52 4 = nI b ∧ ui m 55 28 = nI b ∧ sbm M b ∧ b < 2 ^ 17 ∧ b % 4 = 0 ∧ Sm b = T)
theorem looks {M T : Nat} (c m : UU) (hM : M < 2 ^ 17) (h4 : M % 4 = 0) (hT : T < 2 ^ 30) : ∃ k b g c' m', f_X1_lookFor (nI T) (nI M) c = some c' ∧ f_X6_laySets (nI M) (nI T) m = some m' ∧ Lk M T k b g c' m' ∧ Fs (fun k _ => k = 52) c c' ∧ Fs (fun k j => k = 55 ∧ 26 ≤ j ∧ j ≤ 29) m m' ∧ (0 < k ↔ ∃ x, sbm M x ∧ Sm x = T) := by
  obtain ⟨L, c', a1, a2, a3, a4, a5, a6⟩ := c_look (u := c) hM h4 hT
  obtain ⟨N, m', b1, b2, b3, b4, b5⟩ := m_sets (u := m) hM h4 hT
  have eq : ∀ x, x ∈ L ↔ x ∈ N := fun x => by rw [a4, b4]
  have el : L.length = N.length := Nat.le_antisymm (nodup_le L N a3 (fun x hx => (eq x).mp hx)) (nodup_le N L b3 (fun x hx => (eq x).mpr hx))
  by_cases z : L = []
  · refine ⟨0, 0, 0, c', m', a1, b1, ⟨by rw [a2.1, z]; rfl, by rw [b2.1, ← el, z]; rfl, by omega, fun q => absurd q (by omega)⟩, a6, b5, ⟨fun q => absurd q (by omega), fun ⟨x, hx⟩ => by have := (a4 x).mpr hx; rw [z] at this; cases this⟩⟩
  · have zN : ¬ N = [] := fun q => z (List.length_eq_zero_iff.mp (by rw [el, q]; rfl))
    obtain ⟨b, g, h1, h2, h3, h5⟩ := a2.2.2 z
    obtain ⟨b', g', k1, k2, k3, k5⟩ := b2.2.2 zN
    obtain ⟨rfl, rfl⟩ := h1.uni k1 eq
    obtain ⟨s1, s2⟩ := (a4 b).mp h1.1
    have := sbm_lt s1 hM
    exact ⟨L.length, b, g, c', m', a1, b1, ⟨a2.1, by rw [b2.1, el], a5, fun _ => ⟨h2, k2, h3, k3, h5, k5, s1, by omega, sbm_lo s1 h4, s2⟩⟩, a6, b5, ⟨fun _ => ⟨b, s1, s2⟩, fun _ => List.length_pos_iff.mpr z⟩⟩
theorem Inv.look {c m c' m' : UU} (h : Inv c m) (hc : Fs (fun k _ => k = 52) c c') (hm : Fs (fun k j => k = 55 ∧ 26 ≤ j ∧ j ≤ 29) m m') : Inv c' m' := h.fs (hc.up (fun k j q => by unfold PC; omega)) (hm.up (fun k j q => by unfold PM; omega))
theorem andN4 {k v : Nat} (hk : k < 6) : andN (KM k) v % 4 = 0 := by
  have h0 : (andN (KM k) v).testBit 0 = false := by rw [andN_bit (by omega), (KM_low k hk).1]; rfl
  have h1 : (andN (KM k) v).testBit 1 = false := by rw [andN_bit (by omega), (KM_low k hk).2]; rfl
  have a0 : ¬ andN (KM k) v % 2 = 1 := fun q => by rw [tb0.mpr q] at h0; cases h0
  rw [Nat.testBit_succ] at h1
  have a1 : ¬ andN (KM k) v / 2 % 2 = 1 := fun q => by rw [tb0.mpr q] at h1; cases h1
  omega
theorem op_ways {c m : UU} (h : Inv c m) (x : Int32) : Ok (f_X5_ways x c) (f_X6_ways x m) := by
  obtain ⟨n, kd, up, lw, dm, w, kp, hB⟩ := h.2.2.2.2
  have h7 := hB.1.1
  unfold f_X5_ways f_X6_ways
  rcases i_cases x (n := n) (by omega) with hx | ⟨i, hi, rfl⟩
  · rw [c_isW_out hB hx, m_isW_out hB hx, bd_some, bd_some, if_pos t00, if_pos t00]
    exact Ok.same h _
  have k6 := (hB.1.2.1 i hi).1
  have hd := due_lt (hB.1.2.1 i hi).2.2.2.1 (hB.1.2.1 i hi).2.2.1
  obtain ⟨k, b, g, c', m', a1, a2, ⟨l1, l2, l3, l4⟩, a4, a5, -⟩ := looks (M := andN (KM (kd i)) (w dm (18 + i))) (T := due up lw i - Sm (w dm (18 + i))) c m (andN_lt17 (KM_lt _ k6)) (andN4 k6) (by omega)
  rw [c_isW_in hB hi, m_isW_in hB hi, bd_some, bd_some, if_neg n10, if_neg n10, ix_n (by omega) (by omega), nI_clamp (by omega), c_open hB hi, bd_some, show ui c 17 i = _ from (hB.2.1.2.2.2.2.2.1 i hi).2.2.2.2, a1, bd_some, m_may hB hi, bd_some, m_lack hB hi, bd_some, a2, bd_some, l1, l2]
  have hI := h.look a4 a5
  by_cases z : k = 0
  · rw [if_pos (by rw [z]; rfl), if_pos (by rw [z]; rfl)]
    exact Ok.same hI _
  · obtain ⟨q1, q2, -⟩ := l4 (by omega)
    rw [if_neg (nI_ne0 (by omega) (by omega)), if_neg (nI_ne0 (by omega) (by omega)), q1, q2, lt_eq, m_tells, ui_si_r, if_neg (by omega), l1]
    exact Ok.told hI _ _
theorem and4 {a b : Nat} (h : a % 4 = 0) : (a &&& b) % 4 = 0 := by
  obtain ⟨h0, h1⟩ := mod4_lo h
  have a0 : ¬ (a &&& b) % 2 = 1 := fun q => by have := tb0.mpr q; rw [Nat.testBit_and, h0] at this; cases this
  have a1 : ¬ (a &&& b) / 2 % 2 = 1 := fun q => by have := tb0.mpr q; rw [← Nat.testBit_succ, Nat.testBit_and, h1] at this; cases this
  omega
theorem op_serve {c m : UU} (h : Inv c m) (x : Int32) : Ok (f_X5_serve x c) (f_X6_serve x m) := by
  obtain ⟨n, kd, up, lw, dm, w, kp, hB⟩ := h.2.2.2.2
  have h7 := hB.1.1
  unfold f_X5_serve f_X6_serve f_X6_isServed
  rcases i_cases x (n := n) (by omega) with hx | ⟨i, hi, rfl⟩
  · rw [c_isW_out hB hx, m_isW_out hB hx, bd_some, bd_some, if_pos t00, if_pos t00]
    exact Ok.same h _
  have k6 := (hB.1.2.1 i hi).1
  have hd := due_lt (hB.1.2.1 i hi).2.2.2.1 (hB.1.2.1 i hi).2.2.1
  obtain ⟨k, b, g, c', m', a1, a2, ⟨l1, l2, l3, l4⟩, a4, a5, -⟩ := looks (M := andN (KM (kd i)) (w dm (18 + i)) &&& lyM (w dm)) (T := due up lw i - Sm (w dm (18 + i))) c m (and_lt17 (andN_lt17 (KM_lt _ k6))) (and4 (andN4 k6)) (by omega)
  rw [c_isW_in hB hi, m_isW_in hB hi, bd_some, bd_some, if_neg n10, if_neg n10, ix_n (by omega) (by omega), nI_clamp (by omega), c_open hB hi, bd_some, show ui c 17 i = _ from (hB.2.1.2.2.2.2.2.1 i hi).2.2.2.2, show ui c 11 4 = _ from hB.2.1.2.2.2.1, fa_and, a1, bd_some, m_lying hB, bd_some, m_may hB hi, bd_some, m_lack hB hi, bd_some, fa_and, a2, bd_some, l1, l2]
  have hI := h.look a4 a5
  by_cases z : k = 0
  · rw [if_pos (by rw [z]; rfl), if_pos (show nI k ≤ 0 by rw [z]; decide), bd_some, if_pos t00]
    exact Ok.same hI _
  · obtain ⟨q1, q2, q3, q4, q5, q6, -⟩ := l4 (by omega)
    rw [if_neg (nI_ne0 (by omega) (by omega)), if_neg (nI_nle (by omega) (by omega)), bd_some, if_neg n10, q3, lt_eq, ui_si_r, if_neg (by omega), q5]
    dsimp only
    rw [q4, q6, m_tells]
    exact Ok.told hI _ _
