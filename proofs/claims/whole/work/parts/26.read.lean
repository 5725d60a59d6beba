def Lt (l : List Int32) (i : Nat) : Int32 := if i < l.length then l.getD i 0 else 0
def HC (t : Nat) (l : List Int32) (u : UU) : Prop := l.length ≤ 60 ∧ ui u 4 0 = nI 60 ∧ ui u 5 t = nI l.length ∧ ∀ i, i < l.length → ui u 6 (60 * t + i) = l.getD i 0
def HM (t : Nat) (l : List Int32) (u : UU) : Prop := l.length ≤ 60 ∧ ui u 60 t = nI l.length ∧ ∀ i, i < l.length → ui u 61 (60 * t + i) = l.getD i 0
theorem HC.fs {t : Nat} {l : List Int32} {u u' : UU} (h : HC t l u) (hf : Fs PC u u') : HC t l u' := ⟨h.1, by rw [hf.1 _ _ (by unfold PC; omega)]; exact h.2.1, by rw [hf.1 _ _ (by unfold PC; omega)]; exact h.2.2.1, fun i hi => by rw [hf.1 _ _ (by unfold PC; omega)]; exact h.2.2.2 i hi⟩
theorem HM.fs {t : Nat} {l : List Int32} {u u' : UU} (h : HM t l u) (hf : Fs PM u u') : HM t l u' := ⟨h.1, by rw [hf.1 _ _ (by unfold PM; omega)]; exact h.2.1, fun i hi => by rw [hf.1 _ _ (by unfold PM; omega)]; exact h.2.2 i hi⟩
theorem c_rd {t : Nat} {l : List Int32} {u : UU} (h : HC t l u) (ht : t < 4) {i : Nat} (hi : i < 2 ^ 30) : f_X3_read 4 4 (nI t) (nI i) u = some (Lt l i) := by
  obtain ⟨h1, h2, h3, h4⟩ := h
  unfold Lt
  by_cases q : i < l.length
  · rw [if_pos q, s_read (pl := 60) ht (by omega) (by omega) h1 (by omega) h2 h3 q]
    exact congrArg some (h4 i q)
  · rw [if_neg q, s_read_out ht (by omega) h3 (Or.inr (nI_le (by omega) (by omega)))]
theorem m_rd {t : Nat} {l : List Int32} {u : UU} (h : HM t l u) (ht : t < 4) {i : Nat} (hi : i < 2 ^ 30) : f_X6_letterAt (nI t) (nI i) u = some (Lt l i) := by
  obtain ⟨h1, h3, h4⟩ := h
  unfold Lt f_X6_letterAt
  rw [ix_n ht (by omega), nI_clamp (by omega), h3]
  by_cases q : i < l.length
  · rw [if_pos q, if_neg (nI_ge q (by omega)), show (60 : Int32) * nI t + nI i = nI (60 * t + i) from nI_mulB, ix_n (by omega) (by omega), nI_clamp (by omega), h4 i q]
  · rw [if_neg q, if_pos (nI_le (by omega) (by omega))]
def pb (l : List Int32) : Nat → Nat → Nat
  | 0, i => i
  | f + 1, i => if l.length ≤ i then i else if l.getD i 0 = 32 then pb l f (i + 1) else i
def pbl (l : List Int32) (i : Nat) : Nat := pb l (l.length - i) i
theorem pbl_ge {l : List Int32} {i : Nat} (h : l.length ≤ i) : pbl l i = i := by
  unfold pbl
  rw [show l.length - i = 0 by omega]
  rfl
theorem pbl_b {l : List Int32} {i : Nat} (h : i < l.length) (hb : l.getD i 0 = 32) : pbl l i = pbl l (i + 1) := by
  unfold pbl
  rw [show l.length - i = l.length - (i + 1) + 1 by omega, pb, if_neg (by omega), if_pos hb]
theorem pbl_n {l : List Int32} {i : Nat} (h : i < l.length) (hb : ¬ l.getD i 0 = 32) : pbl l i = i := by
  unfold pbl
  rw [show l.length - i = l.length - (i + 1) + 1 by omega, pb, if_neg (by omega), if_neg hb]
theorem pbl_bd {l : List Int32} : ∀ (f i : Nat), l.length ≤ i + f → i ≤ pbl l i ∧ (pbl l i ≤ i ∨ pbl l i ≤ l.length) ∧ (l.length ≤ pbl l i ∨ ¬ l.getD (pbl l i) 0 = 32) := by
  intro f
  induction f with
  | zero => intro i h; rw [pbl_ge (by omega)]; omega
  | succ f ih =>
    intro i h
    by_cases q : l.length ≤ i
    · rw [pbl_ge q]; omega
    · by_cases z : l.getD i 0 = 32
      · rw [pbl_b (by omega) z]
        obtain ⟨g1, g2, g3⟩ := ih (i + 1) (by omega)
        exact ⟨by omega, by omega, g3⟩
      · rw [pbl_n (by omega) z]
        exact ⟨Nat.le_refl _, Or.inl (Nat.le_refl _), Or.inr z⟩
theorem c_blank_l {t : Nat} {l : List Int32} {u : UU} (h : HC t l u) (ht : t < 4) : ∀ (f i : Nat), i < 1000 → 1 ≤ f → l.length + 1 ≤ i + f → f_X2_pastBlanks_2 f (nI t) (nI i) u = some (nI (pbl l i)) := by
  intro f
  induction f with
  | zero => intro i h1 h2; omega
  | succ f ih =>
    intro i h1 _ h2
    have h60 := h.1
    rw [f_X2_pastBlanks_2, s_size_in ht (by omega), bd_some, show ui u (4 + 1) t = _ from h.2.2.1]
    by_cases q : l.length ≤ i
    · rw [if_pos (nI_le q (by omega)), pbl_ge q]
    · rw [if_neg (nI_ge (by omega) (by omega)), c_rd h ht (by omega), bd_some, Lt, if_pos (show i < l.length by omega)]
      by_cases z : l.getD i 0 = 32
      · rw [if_pos z, lt_eq, nI_1, pbl_b (by omega) z]
        exact ih (i + 1) (by omega) (by omega) (by omega)
      · rw [if_neg z, pbl_n (by omega) z]
theorem c_blank {t : Nat} {l : List Int32} {u : UU} (h : HC t l u) (ht : t < 4) {i : Nat} (hi : i < 1000) : f_X2_pastBlanks (nI t) (nI i) u = some (nI (pbl l i)) := c_blank_l h ht fu i hi (by unfold fu; omega) (by have := h.1; unfold fu; omega)
def dg (lo : Int32) (x : Int32) : Int32 := if x - 48 < lo then -9 else if (9 : Int32) < x - 48 then -9 else x - 48
theorem c_fig {t : Nat} {l : List Int32} {u : UU} (h : HC t l u) (ht : t < 4) {i : Nat} (hi : i < 2 ^ 30) (lo : Int32) : f_X2_figure (nI t) (nI i) lo u = some (dg lo (Lt l i)) := by
  unfold f_X2_figure dg
  rw [c_rd h ht hi, bd_some, lt_eq]
  split
  · rfl
  · split <;> rfl
theorem dg_cases {lo : Nat} (h : lo ≤ 1) (x : Int32) : dg (nI lo) x = -9 ∨ ∃ a, lo ≤ a ∧ a ≤ 9 ∧ dg (nI lo) x = nI a := by
  unfold dg
  by_cases h1 : x - 48 < nI lo
  · rw [if_pos h1]; exact Or.inl rfl
  · rw [if_neg h1]
    by_cases h2 : (9 : Int32) < x - 48
    · rw [if_pos h2]; exact Or.inl rfl
    · rw [if_neg h2]
      right
      have a1 : ¬ (x - 48).toInt < lo := fun q => h1 (i_lt.mpr (by rw [nI_toInt (by omega)]; exact q))
      have a2 : ¬ 9 < (x - 48).toInt := fun q => h2 (i_lt.mpr q)
      obtain ⟨a, ha, e⟩ := le_cases (x := x - 48) (n := 9) (by omega) (i_le.mpr (show 0 ≤ (x - 48).toInt by omega)) (i_le.mpr (show (x - 48).toInt ≤ 9 by omega))
      rw [e, nI_toInt (by omega)] at a1
      exact ⟨a, by omega, ha, e⟩
theorem m_reads {t : Nat} {l : List Int32} {u : UU} (h : HM t l u) (ht : t < 4) {i : Nat} (hi : i < 2 ^ 30) (hr : ui u 55 10 = nI i) (lo : Int32) (hlo : lo = 0 ∨ lo = 1) : f_X6_reads (nI t) lo u = if dg lo (Lt l i) = -9 then some (-9, u) else some (dg lo (Lt l i), si u 55 10 (nI (i + 1))) := by
  unfold f_X6_reads
  rw [hr, m_rd h ht hi, bd_some, lt_eq, lt_eq, nI_1]
  unfold dg
  by_cases h1 : Lt l i - 48 < lo
  · rw [in_0 (Or.inl h1), if_pos t00, if_pos h1, if_pos rfl]
  · rw [if_neg h1]
    by_cases h2 : (9 : Int32) < Lt l i - 48
    · rw [in_0 (Or.inr h2), if_pos t00, if_pos h2, if_pos rfl]
    · rw [in_1 h1 h2, if_neg n10, if_neg h2, if_neg]
      intro e
      rw [e] at h1
      rcases hlo with rfl | rfl <;> exact h1 (by decide)
theorem si_same {u : UU} {k j : Nat} {v : Int32} (h : ui u k j = v) : si u k j v = u := by
  refine Prod.ext ?_ rfl
  funext a b
  show (if a = k ∧ b = j then v else u.1 a b) = u.1 a b
  by_cases q : a = k ∧ b = j
  · rw [if_pos q, ← h, q.1, q.2]; rfl
  · rw [if_neg q]
theorem si_si {u : UU} {k j : Nat} {v v' : Int32} : si (si u k j v) k j v' = si u k j v' := by
  refine Prod.ext ?_ rfl
  funext a b
  show (if a = k ∧ b = j then v' else if a = k ∧ b = j then v else u.1 a b) = if a = k ∧ b = j then v' else u.1 a b
  by_cases q : a = k ∧ b = j
  · rw [if_pos q, if_pos q]
  · rw [if_neg q, if_neg q, if_neg q]
theorem m_blank {t : Nat} {l : List Int32} (ht : t < 4) : ∀ (d i G : Nat) (u : UU), HM t l u → ui u 55 10 = nI i → i ≤ 1000 → l.length ≤ i + d → l.length + 2 ≤ i + G → 1 ≤ G → ∃ G', (l.length + 2 ≤ pbl l i + G' ∧ 1 ≤ G') ∧ f_X6_faultOf_15 G (nI t) u = f_X6_faultOf_15 G' (nI t) (si u 55 10 (nI (pbl l i))) := by
  intro d
  induction d with
  | zero =>
    intro i G u h hr hi h1 h2 h3
    rw [pbl_ge (by omega), si_same hr]
    exact ⟨G, ⟨h2, h3⟩, rfl⟩
  | succ d ih =>
    intro i G u h hr hi h1 h2 h3
    have h60 := h.1
    by_cases q : l.length ≤ i
    · rw [pbl_ge q, si_same hr]
      exact ⟨G, ⟨h2, h3⟩, rfl⟩
    · by_cases z : l.getD i 0 = 32
      · obtain ⟨G0, rfl⟩ : ∃ G0, G = G0 + 1 := ⟨G - 1, by omega⟩
        obtain ⟨G', e1, e2⟩ := ih (i + 1) G0 (si u 55 10 (nI (i + 1))) (h.fs (Fs.si (by unfold PM; omega))) (by simp [ui_si_r]) (by omega) (by omega) (by omega) (by omega)
        rw [pbl_b (by omega) z]
        refine ⟨G', e1, ?_⟩
        rw [f_X6_faultOf_15, ix_n ht (by omega), nI_clamp (by omega), h.2.1, hr, if_neg (nI_ge (by omega) (by omega)), m_rd h ht (by omega), bd_some, Lt, if_pos (show i < l.length by omega), if_pos z, lt_eq, nI_1, e2, si_si]
      · rw [pbl_n (by omega) z, si_same hr]
        exact ⟨G, ⟨h2, h3⟩, rfl⟩
/-- what has been read: k workers -/
def RW (k : Nat) (kd up lw : Nat → Nat) (a b c : Nat → Int32) : Prop := ∀ q, q < k → a q = nI (kd q) ∧ b q = nI (up q) ∧ c q = nI (lw q) ∧ kd q < 6 ∧ 1 ≤ up q ∧ up q ≤ 9 ∧ 1 ≤ lw q ∧ lw q ≤ 9
theorem byL_cases (x : Int32) : f_X0_byLetter x = f_X6_kindOf x ∧ (f_X6_kindOf x = -9 ∨ ∃ k, k < 6 ∧ f_X6_kindOf x = nI k) := by
  refine ⟨rfl, ?_⟩
  unfold f_X6_kindOf
  split
  · exact Or.inr ⟨4, by omega, rfl⟩
  split
  · exact Or.inr ⟨1, by omega, rfl⟩
  split
  · exact Or.inr ⟨5, by omega, rfl⟩
  split
  · exact Or.inr ⟨2, by omega, rfl⟩
  split
  · exact Or.inr ⟨3, by omega, rfl⟩
  split
  · exact Or.inr ⟨0, by omega, rfl⟩
  · exact Or.inl rfl
theorem nI_m9 {k : Nat} (h : k < 1000) : ¬ nI k = -9 := by
  intro q
  have := i_eq.mp q
  rw [nI_toInt (by omega)] at this
  have e : (-9 : Int32).toInt = -9 := rfl
  omega

theorem c_worker {t : Nat} {l : List Int32} {u : UU} (h : HC t l u) (ht : t < 4) {i k : Nat} (hi : i < 1000) (hk : k < 7) (h4 : ui u 7 4 = nI k) : f_X2_readWorker (nI t) (nI i) u =
    if f_X6_kindOf (Lt l i) = -9 then some (nI i, u) else if dg (nI 1) (Lt l (i + 1)) = -9 then some (nI (i + 1), u) else if dg (nI 1) (Lt l (i + 2)) = -9 then some (nI (i + 2), u) else some (-9, si (si (si (si u 8 k (f_X6_kindOf (Lt l i))) 9 k (dg (nI 1) (Lt l (i + 1)))) 10 k (dg (nI 1) (Lt l (i + 2)))) 7 4 (nI (k + 1))) := by
  unfold f_X2_readWorker
  rw [c_rd h ht (by omega), bd_some, lt_eq, (byL_cases _).1]
  by_cases a : f_X6_kindOf (Lt l i) = -9
  · rw [if_pos a, if_pos a]
  · rw [if_neg a, if_neg a, h4, if_pos (show nI k < (7 : Int32) from nI_lt (b := 7) hk (by omega)), nI_1, show nI i + (2 : Int32) = nI (i + 2) from nI_add i 2, show (1 : Int32) = nI 1 from rfl, c_fig h ht (by omega), bd_some]
    by_cases b : dg (nI 1) (Lt l (i + 1)) = -9
    · rw [if_pos b, if_pos b]
    · rw [if_neg b, if_neg b, c_fig h ht (by omega), bd_some]
      by_cases e : dg (nI 1) (Lt l (i + 2)) = -9
      · rw [if_pos e, if_pos e]
      · rw [if_neg e, if_neg e, ix_n hk (by omega), nI_clamp (by omega)]
        generalize f_X6_kindOf (Lt l i) = x
        generalize dg (nI 1) (Lt l (i + 1)) = y
        generalize dg (nI 1) (Lt l (i + 2)) = z
        rw [lt_eq, ui_si_r, if_neg (by omega), h4, ix_n hk (by omega), nI_clamp (by omega), lt_eq, ui_si_r, if_neg (by omega), ui_si_r, if_neg (by omega), h4, ix_n hk (by omega), nI_clamp (by omega), lt_eq, ui_si_r, if_neg (by omega), ui_si_r, if_neg (by omega), ui_si_r, if_neg (by omega), h4, lt_eq, nI_add]
theorem m_worker {t : Nat} {l : List Int32} {u : UU} (h : HM t l u) (ht : t < 4) {i k : Nat} (hi : i < 1000) (hk : k ≤ 7) (h4 : ui u 55 11 = nI k) (hr : ui u 55 10 = nI i) :
    (f_X6_kindOf (Lt l i) = -9 ∨ k = 7 → f_X6_readsWorker (nI t) u = some (0, u)) ∧
    (¬ f_X6_kindOf (Lt l i) = -9 → k < 7 → dg (nI 1) (Lt l (i + 1)) = -9 → f_X6_readsWorker (nI t) u = some (0, si u 55 10 (nI (i + 1)))) ∧
    (¬ f_X6_kindOf (Lt l i) = -9 → k < 7 → ¬ dg (nI 1) (Lt l (i + 1)) = -9 → dg (nI 1) (Lt l (i + 2)) = -9 → f_X6_readsWorker (nI t) u = some (0, si u 55 10 (nI (i + 2)))) ∧
    (¬ f_X6_kindOf (Lt l i) = -9 → k < 7 → ¬ dg (nI 1) (Lt l (i + 1)) = -9 → ¬ dg (nI 1) (Lt l (i + 2)) = -9 → f_X6_readsWorker (nI t) u = some (1, si (si (si (si (si u 55 10 (nI (i + 3))) 62 k (f_X6_kindOf (Lt l i))) 63 k (dg (nI 1) (Lt l (i + 1)))) 64 k (dg (nI 1) (Lt l (i + 2)))) 55 11 (nI (k + 1)))) := by
  have h1 : HM t l (si u 55 10 (nI (i + 1))) := h.fs (Fs.si (by unfold PM; omega))
  have h2 : HM t l (si u 55 10 (nI (i + 2))) := h.fs (Fs.si (by unfold PM; omega))
  have e1 := m_reads h1 ht (i := i + 1) (by omega) (by simp [ui_si_r]) (nI 1) (Or.inr rfl)
  have e2 := m_reads h2 ht (i := i + 2) (by omega) (by simp [ui_si_r]) (nI 1) (Or.inr rfl)
  rw [si_si] at e1 e2
  refine ⟨fun a => ?_, fun a b c => ?_, fun a b c d => ?_, fun a b c d => ?_⟩
  · unfold f_X6_readsWorker
    rw [hr, m_rd h ht (by omega), bd_some, lt_eq]
    by_cases q : f_X6_kindOf (Lt l i) = -9
    · rw [if_pos q]
    · rw [if_neg q, h4, if_pos]
      rcases a with a | a
      · exact absurd a q
      · rw [a]; rfl
  all_goals
    have n7 : ¬ nI k = (7 : Int32) := fun q => by
      have := i_eq.mp q
      rw [nI_toInt (by omega)] at this
      have e : (7 : Int32).toInt = 7 := rfl
      omega
    unfold f_X6_readsWorker
    rw [hr, m_rd h ht (by omega), bd_some, lt_eq, if_neg a, h4, if_neg n7, nI_1, lt_eq, show (1 : Int32) = nI 1 from rfl, e1]
  · rw [if_pos c, bd_some, if_pos rfl]
    rfl
  · rw [if_neg c, bd_some, if_neg c, e2, if_pos d, bd_some]
    rfl
  · rw [if_neg c, bd_some, if_neg c, e2, if_neg d, bd_some]
    generalize f_X6_kindOf (Lt l i) = x at a ⊢
    generalize dg (nI 1) (Lt l (i + 1)) = y at c ⊢
    generalize dg (nI 1) (Lt l (i + 2)) = z at d ⊢
    unfold f_X6_readsWorker_64
    rw [if_neg d, ui_si_r, if_neg (by omega), h4, ix_n b (by omega), nI_clamp (by omega), lt_eq, ui_si_r, if_neg (by omega), ui_si_r, if_neg (by omega), h4, ix_n b (by omega), nI_clamp (by omega), lt_eq, ui_si_r, if_neg (by omega), ui_si_r, if_neg (by omega), ui_si_r, if_neg (by omega), h4, ix_n b (by omega), nI_clamp (by omega), lt_eq, ui_si_r, if_neg (by omega), ui_si_r, if_neg (by omega), ui_si_r, if_neg (by omega), ui_si_r, if_neg (by omega), h4, lt_eq, nI_1]
    rfl
