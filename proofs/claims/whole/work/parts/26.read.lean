def Lt (l : List Int32) (i : Nat) : Int32 := if i < l.length then l.getD i 0 else 0
def HC (t : Nat) (l : List Int32) (u : UU) : Prop := l.length ≤ 60 ∧ ui u 4 0 = nI 60 ∧ ui u 5 t = nI l.length ∧ ∀ i, i < l.length → ui u 6 (60 * t + i) = l.getD i 0
def HM (t : Nat) (l : List Int32) (u : UU) : Prop := l.length ≤ 60 ∧ ui u 60 t = nI l.length ∧ ∀ i, i < l.length → ui u 61 (60 * t + i) = l.getD i 0
theorem HC.fs {t : Nat} {l : List Int32} {u u' : UU} (h : HC t l u) (hf : Fs PC u u') : HC t l u' := ⟨h.1, by rw [hf.1 _ _ (by unfold PC; omega)]; exact h.2.1, by rw [hf.1 _ _ (by unfold PC; omega)]; exact h.2.2.1, fun i hi => by rw [hf.1 _ _ (by unfold PC; omega)]; exact h.2.2.2 i hi⟩
theorem HM.fs {t : Nat} {l : List Int32} {u u' : UU} (h : HM t l u) (hf : Fs PM u u') : HM t l u' := ⟨h.1, by rw [hf.1 _ _ (by unfold PM; omega)]; exact h.2.1, fun i hi => by rw [hf.1 _ _ (by unfold PM; omega)]; exact h.2.2 i hi⟩
theorem c_rd {t : Nat} {l : List Int32} {u : UU} (h : HC t l u) (ht : t < 4) {i : Nat} (hi : i < 2 ^ 30) : f_X3_read 4 4 (nI t) (nI i) u = some (Lt l i) := by
  obtain ⟨h1, h2, h3, h4⟩ := h
  unfold Lt
  by_cases q : i < l.length
  · rw [if_pos q, s_read (pl := 60) ht (by omega) (by omega) h1 (by omega) h2 h3 q]
    exact congrArg some (h4 i q)
  · rw [if_neg q, s_read_out ht (by omega) h3 (Or.inr (nI_le (by omega) (by omega)))]
theorem m_rd {t : Nat} {l : List Int32} {u : UU} (h : HM t l u) (ht : t < 4) {i : Nat} (hi : i < 2 ^ 30) : f_X6_letterAt (nI t) (nI i) u = some (Lt l i) := by
  obtain ⟨h1, h3, h4⟩ := h
  unfold Lt f_X6_letterAt
  rw [ix_n ht (by omega), nI_clamp (by omega), h3]
  by_cases q : i < l.length
  · rw [if_pos q, if_neg (nI_ge q (by omega)), show (60 : Int32) * nI t + nI i = nI (60 * t + i) from nI_mulB, ix_n (by omega) (by omega), nI_clamp (by omega), h4 i q]
  · rw [if_neg q, if_pos (nI_le (by omega) (by omega))]
def pb (l : List Int32) : Nat → Nat → Nat
  | 0, i => i
  | f + 1, i => if l.length ≤ i then i else if l.getD i 0 = 32 then pb l f (i + 1) else i
theorem c_blank {t : Nat} {l : List Int32} {u : UU} (h : HC t l u) (ht : t < 4) : ∀ (f i : Nat), i < 1000 → l.length + 1 ≤ i + f → f_X2_pastBlanks_2 f (nI t) (nI i) u = some (nI (pb l f i)) := by
  intro f
  induction f with
  | zero => intro i h1 h2; have := h.1; rw [pb]; exfalso; revert h2; intro h2; sorry
  | succ f ih =>
    intro i h1 h2
    have h60 := h.1
    rw [f_X2_pastBlanks_2, pb, s_size_in ht (by omega), bd_some, show ui u (4 + 1) t = _ from h.2.2.1]
    by_cases q : l.length ≤ i
    · rw [if_pos (nI_le q (by omega)), if_pos q]
    · rw [if_neg (nI_ge (by omega) (by omega)), if_neg q, c_rd h ht (by omega), bd_some, Lt, if_pos (show i < l.length by omega)]
      by_cases z : l.getD i 0 = 32
      · rw [if_pos z, if_pos z, lt_eq, nI_1]
        exact ih (i + 1) (by omega) (by omega)
      · rw [if_neg z, if_neg z]
