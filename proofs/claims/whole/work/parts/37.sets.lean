theorem nodup_le : ∀ (A B : List Nat), A.Nodup → (∀ x, x ∈ A → x ∈ B) → A.length ≤ B.length := by
  intro A
  induction A with
  | nil => intro B _ _; exact Nat.zero_le _
  | cons a A ih =>
    intro B h1 h2
    have ha : a ∈ B := h2 a (List.mem_cons_self ..)
    have := ih (B.erase a) (List.nodup_cons.mp h1).2 (fun x hx => (List.mem_erase_of_ne (fun (e : x = a) => (List.nodup_cons.mp h1).1 (e ▸ hx))).mpr (h2 x (List.mem_cons_of_mem _ hx)))
    rw [List.length_erase_of_mem ha] at this
    have hl : 0 < B.length := List.length_pos_of_mem ha
    simp only [List.length_cons]
    omega
theorem smn_lt (s : Nat) : ∀ n, smn s n ≤ 720720 * n := by
  intro n
  induction n with
  | zero => exact Nat.le_refl _
  | succ n ih =>
    show smn s n + (if 2 ≤ n ∧ s.testBit n = true then 720720 / n else 0) ≤ 720720 * (n + 1)
    have : 720720 / n ≤ 720720 := Nat.div_le_self _ _
    split <;> omega
theorem Sm_lt (s : Nat) : Sm s < 2 ^ 30 := by
  have := smn_lt s 17
  unfold Sm
  omega
theorem pcn15 {s : Nat} (h0 : s.testBit 0 = false) (h1 : s.testBit 1 = false) : ∀ n, pcn s (n + 2) ≤ n := by
  intro n
  induction n with
  | zero =>
    show pcn s 0 + (if s.testBit 0 = true then 1 else 0) + (if s.testBit 1 = true then 1 else 0) ≤ 0
    rw [h0, h1, show pcn s 0 = 0 from rfl]
    decide
  | succ n ih =>
    show pcn s (n + 2) + (if s.testBit (n + 2) = true then 1 else 0) ≤ n + 1
    split <;> omega
theorem pc15 {s : Nat} (h : s % 4 = 0) : pc s ≤ 15 := pcn15 (mod4_lo h).1 (mod4_lo h).2 15
def Best (L : List Nat) (b g : Nat) : Prop := b ∈ L ∧ (∀ x, x ∈ L → pc b < pc x ∨ (pc b = pc x ∧ b ≤ x)) ∧ (∃ y, y ∈ L ∧ pc y = g) ∧ ∀ x, x ∈ L → pc x ≤ g
theorem Best.one (x : Nat) : Best [x] x (pc x) := by
  refine ⟨by simp, fun y hy => ?_, ⟨x, by simp, rfl⟩, fun y hy => ?_⟩
  · rw [List.mem_singleton] at hy; subst hy; exact Or.inr ⟨rfl, Nat.le_refl _⟩
  · rw [List.mem_singleton] at hy; subst hy; exact Nat.le_refl _
theorem Best.cons {L : List Nat} {b g : Nat} (h : Best L b g) (x b' g' : Nat) (hb : (b' = x ∧ (pc x < pc b ∨ (pc x = pc b ∧ x ≤ b))) ∨ (b' = b ∧ (pc b < pc x ∨ (pc b = pc x ∧ b ≤ x)))) (hg : (g' = g ∧ pc x ≤ g) ∨ (g' = pc x ∧ g ≤ pc x)) : Best (x :: L) b' g' := by
  obtain ⟨h1, h2, ⟨y, h3, h4⟩, h5⟩ := h
  refine ⟨?_, fun z hz => ?_, ?_, fun z hz => ?_⟩
  · rcases hb with ⟨rfl, -⟩ | ⟨rfl, -⟩
    · exact List.mem_cons_self ..
    · exact List.mem_cons_of_mem _ h1
  · rcases List.mem_cons.mp hz with rfl | hz
    · rcases hb with ⟨rfl, -⟩ | ⟨rfl, q⟩
      · exact Or.inr ⟨rfl, Nat.le_refl _⟩
      · exact q
    · have := h2 z hz
      rcases hb with ⟨rfl, q⟩ | ⟨rfl, q⟩
      · omega
      · exact this
  · rcases hg with ⟨rfl, -⟩ | ⟨rfl, -⟩
    · exact ⟨y, List.mem_cons_of_mem _ h3, h4⟩
    · exact ⟨x, List.mem_cons_self .., rfl⟩
  · rcases List.mem_cons.mp hz with rfl | hz
    · rcases hg with ⟨rfl, q⟩ | ⟨rfl, q⟩
      · exact q
      · exact Nat.le_refl _
    · have := h5 z hz
      rcases hg with ⟨rfl, q⟩ | ⟨rfl, q⟩
      · exact this
      · omega
theorem Best.uni {L L' : List Nat} {b g b' g' : Nat} (h : Best L b g) (h' : Best L' b' g') (e : ∀ x, x ∈ L ↔ x ∈ L') : b = b' ∧ g = g' := by
  obtain ⟨h1, h2, ⟨y, h3, h4⟩, h5⟩ := h
  obtain ⟨k1, k2, ⟨z, k3, k4⟩, k5⟩ := h'
  have a1 := h2 b' ((e _).mpr k1)
  have a2 := k2 b ((e _).mp h1)
  have a3 := h5 z ((e _).mpr k3)
  have a4 := k5 y ((e _).mp h3)
  omega
def CSt (L : List Nat) (u : UU) : Prop := ui u 52 1 = nI L.length ∧ (L = [] → ui u 52 2 = 0 ∧ ui u 52 3 = 0 ∧ ui u 52 4 = 0) ∧ (¬ L = [] → ∃ b g, Best L b g ∧ ui u 52 2 = nI g ∧ ui u 52 3 = nI (pc b) ∧ ui u 52 4 = nI b)
def MSt (L : List Nat) (u : UU) : Prop := ui u 55 26 = nI L.length ∧ (L = [] → ui u 55 27 = 16 ∧ ui u 55 28 = -9 ∧ ui u 55 29 = -9) ∧ (¬ L = [] → ∃ b g, Best L b g ∧ ui u 55 29 = nI g ∧ ui u 55 27 = nI (pc b) ∧ ui u 55 28 = nI b)
theorem pc_le17 (s : Nat) : pc s ≤ 17 := pcn_le s 17
theorem c_note {L : List Nat} {u : UU} (h : CSt L u) {x : Nat} (hx : x < 2 ^ 17) (hb : ∀ y, y ∈ L → y < 2 ^ 17) (hl : L.length < 2 ^ 30) : ∃ u', f_X1_note (nI x) u = some u' ∧ CSt (x :: L) u' ∧ Fs (fun k j => k = 52 ∧ 1 ≤ j) u u' := by
  obtain ⟨h1, h2, h3⟩ := h
  have px := pc_le17 x
  have f46 : ∀ v : UU, ui v 52 1 = nI L.length → ∃ u', f_X1_note_46 (nI (pc x)) v = some u' ∧ ui u' 52 1 = nI (L.length + 1) ∧ ui u' 52 2 = (if ui v 52 2 < nI (pc x) then nI (pc x) else ui v 52 2) ∧ ui u' 52 3 = ui v 52 3 ∧ ui u' 52 4 = ui v 52 4 ∧ Fs (fun k j => k = 52 ∧ 1 ≤ j) v u' := by
    intro v hv
    unfold f_X1_note_46
    generalize (if ui v 52 2 < nI (pc x) then nI (pc x) else ui v 52 2) = z
    rw [lt_eq, lt_eq, ui_si_r, if_neg (by omega), hv, nI_1]
    exact ⟨_, rfl, by simp [ui_si_r], by simp [ui_si_r], by simp [ui_si_r], by simp [ui_si_r], (Fs.si ⟨rfl, by omega⟩).tr (Fs.si ⟨rfl, by omega⟩)⟩
  have f36 : ∃ u', f_X1_note_36 (nI x) (nI (pc x)) u = some u' ∧ ui u' 52 1 = nI (L.length + 1) ∧ ui u' 52 2 = (if ui u 52 2 < nI (pc x) then nI (pc x) else ui u 52 2) ∧ ui u' 52 3 = nI (pc x) ∧ ui u' 52 4 = nI x ∧ Fs (fun k j => k = 52 ∧ 1 ≤ j) u u' := by
    unfold f_X1_note_36
    rw [lt_eq, lt_eq]
    obtain ⟨u', e1, e2, e3, e4, e5, e6⟩ := f46 (si (si u 52 3 (nI (pc x))) 52 4 (nI x)) (by simpa [ui_si_r] using h1)
    refine ⟨u', e1, e2, by rw [e3]; simp [ui_si_r], by rw [e4]; simp [ui_si_r], by rw [e5]; simp [ui_si_r], (Fs.tr (P := fun k j => k = 52 ∧ 1 ≤ j) (Fs.si ⟨rfl, by omega⟩) (Fs.si ⟨rfl, by omega⟩)).tr e6⟩
  obtain ⟨p, p1, p2, p3, p4, p5, p6⟩ := f36
  obtain ⟨q, q1, q2, q3, q4, q5, q6⟩ := f46 u h1
  unfold f_X1_note
  rw [bitCount_eq hx, lt_eq, h1]
  by_cases z : L = []
  · subst z
    obtain ⟨r2, r3, r4⟩ := h2 rfl
    rw [if_pos (show nI ([] : List Nat).length = 0 from rfl)]
    refine ⟨p, p1, ⟨p2, (fun e => by cases e), fun _ => ⟨x, pc x, Best.one x, ?_, p4, p5⟩⟩, p6⟩
    rw [p3, r2]
    by_cases y : pc x = 0
    · rw [y]; rfl
    · rw [if_pos (show (0 : Int32) < nI (pc x) from nI_lt (a := 0) (by omega) (by omega))]
  · obtain ⟨b, g, hB, r2, r3, r4⟩ := h3 z
    have hl0 : 0 < L.length := List.length_pos_iff.mpr z
    have pb := pc_le17 b
    have hbb := hb b hB.1
    obtain ⟨yy, hyy, hg⟩ := hB.2.2.1
    have pg := pc_le17 yy
    have gx : ∃ g', (if nI g < nI (pc x) then nI (pc x) else nI g) = nI g' ∧ ((g' = g ∧ pc x ≤ g) ∨ (g' = pc x ∧ g ≤ pc x)) := by
      by_cases y : g < pc x
      · exact ⟨pc x, if_pos (nI_lt y (by omega)), Or.inr ⟨rfl, by omega⟩⟩
      · exact ⟨g, if_neg (nI_nlt (by omega) (by omega)), Or.inl ⟨rfl, by omega⟩⟩
    obtain ⟨g', e1, e2⟩ := gx
    have better : (pc x < pc b ∨ (pc x = pc b ∧ x ≤ b)) → CSt (x :: L) p := fun w => ⟨p2, (fun e => by cases e), fun _ => ⟨x, g', hB.cons x x g' (Or.inl ⟨rfl, w⟩) e2, by rw [p3, r2, e1], p4, p5⟩⟩
    have worse : (pc b < pc x ∨ (pc b = pc x ∧ b ≤ x)) → CSt (x :: L) q := fun w => ⟨q2, (fun e => by cases e), fun _ => ⟨b, g', hB.cons x b g' (Or.inr ⟨rfl, w⟩) e2, by rw [q3, r2, e1], by rw [q4, r3], by rw [q5, r4]⟩⟩
    rw [if_neg (nI_ne0 hl0 (by omega)), r3, r4]
    by_cases y1 : pc x < pc b
    · rw [if_pos (nI_lt y1 (by omega))]
      exact ⟨p, p1, better (Or.inl y1), p6⟩
    · rw [if_neg (nI_nlt (by omega) (by omega))]
      by_cases y2 : pc x = pc b
      · rw [if_pos (by rw [y2])]
        by_cases y3 : b ≤ x
        · rw [if_pos (nI_le y3 (by omega))]
          exact ⟨q, q1, worse (Or.inr ⟨y2.symm, y3⟩), q6⟩
        · rw [if_neg (nI_ge (by omega) (by omega))]
          exact ⟨p, p1, better (Or.inr ⟨y2, by omega⟩), p6⟩
      · rw [if_neg (fun e => y2 (by have := i_eq.mp e; rw [nI_toInt (by omega), nI_toInt (by omega)] at this; omega))]
        exact ⟨q, q1, worse (Or.inl (by omega)), q6⟩

theorem m_note {L : List Nat} {u : UU} (h : MSt L u) {x : Nat} (hx : x < 2 ^ 17) (h4 : x % 4 = 0) (hb : ∀ y, y ∈ L → y < x ∧ y % 4 = 0) {K : Int32 → Int32 → Int32 → UU → Option UU} {x1 x2 : Int32} : ∃ u', MSt (x :: L) u' ∧ Fs (fun k j => k = 55 ∧ 26 ≤ j ∧ j ≤ 29) u u' ∧ (lt (si u 55 26 ((ui u 55 26) + (1 : Int32))) (fun (u_10 : UU) => (if (ui u_10 55 27) ≤ nI (pc x) then f_X6_laySets_67 K x1 x2 (nI x) (nI (pc x)) (ui u_10 55 28) u_10 else f_X6_laySets_67 K x1 x2 (nI x) (nI (pc x)) (nI x) u_10))) = f_X6_laySets_114 K x1 x2 (nI x) u' := by
  obtain ⟨h1, h2, h3⟩ := h
  have px := pc15 h4
  have key : ∀ v28 v27 v29 : Int32, (∀ u1, u1 = si u 55 26 (nI (L.length + 1)) → ∀ u2, u2 = si u1 55 28 v28 → (if (ui u2 55 27) ≤ nI (pc x) then f_X6_laySets_89 K x1 x2 (nI x) (nI (pc x)) (ui u2 55 27) u2 else f_X6_laySets_89 K x1 x2 (nI x) (nI (pc x)) (nI (pc x)) u2) = f_X6_laySets_89 K x1 x2 (nI x) (nI (pc x)) v27 u2 ∧ ∀ u3, u3 = si u2 55 27 v27 → (if nI (pc x) ≤ (ui u3 55 29) then f_X6_laySets_111 K x1 x2 (nI x) (ui u3 55 29) u3 else f_X6_laySets_111 K x1 x2 (nI x) (nI (pc x)) u3) = f_X6_laySets_111 K x1 x2 (nI x) v29 u3) → f_X6_laySets_67 K x1 x2 (nI x) (nI (pc x)) v28 (si u 55 26 (nI (L.length + 1))) = f_X6_laySets_114 K x1 x2 (nI x) (si (si (si (si u 55 26 (nI (L.length + 1))) 55 28 v28) 55 27 v27) 55 29 v29) := by
    intro v28 v27 v29 H
    obtain ⟨H1, H2⟩ := H _ rfl _ rfl
    unfold f_X6_laySets_67
    rw [lt_eq, H1]
    unfold f_X6_laySets_89
    rw [lt_eq, H2 _ rfl]
    rfl
  have fr : ∀ v28 v27 v29 : Int32, Fs (fun k j => k = 55 ∧ 26 ≤ j ∧ j ≤ 29) u (si (si (si (si u 55 26 (nI (L.length + 1))) 55 28 v28) 55 27 v27) 55 29 v29) := fun _ _ _ => (((Fs.si ⟨rfl, by omega, by omega⟩).tr (Fs.si ⟨rfl, by omega, by omega⟩)).tr (Fs.si ⟨rfl, by omega, by omega⟩)).tr (Fs.si ⟨rfl, by omega, by omega⟩)
  have vals : ∀ v28 v27 v29 : Int32, (∃ b g, Best (x :: L) b g ∧ v29 = nI g ∧ v27 = nI (pc b) ∧ v28 = nI b) → MSt (x :: L) (si (si (si (si u 55 26 (nI (L.length + 1))) 55 28 v28) 55 27 v27) 55 29 v29) := by
    intro v28 v27 v29 ⟨b, g, e1, e2, e3, e4⟩
    exact ⟨by simp [ui_si_r], (fun e => by cases e), fun _ => ⟨b, g, e1, by simp [ui_si_r, e2], by simp [ui_si_r, e3], by simp [ui_si_r, e4]⟩⟩
  rw [lt_eq, h1, nI_1, show ui (si u 55 26 (nI (L.length + 1))) 55 27 = ui u 55 27 by simp [ui_si_r]]
  by_cases z : L = []
  · subst z
    obtain ⟨r2, r3, r4⟩ := h2 rfl
    refine ⟨_, vals (nI x) (nI (pc x)) (nI (pc x)) ⟨x, pc x, Best.one x, rfl, rfl, rfl⟩, fr _ _ _, ?_⟩
    rw [r2, if_neg (show ¬ (16 : Int32) ≤ nI (pc x) from nI_ge (b := 16) (by omega) (by omega))]
    refine key _ _ _ (fun u1 e1 u2 e2 => ?_)
    have a1 : ui u2 55 27 = 16 := by rw [e2, e1]; simpa [ui_si_r] using r2
    rw [a1, if_neg (show ¬ (16 : Int32) ≤ nI (pc x) from nI_ge (b := 16) (by omega) (by omega))]
    refine ⟨rfl, fun u3 e3 => ?_⟩
    have a2 : ui u3 55 29 = -9 := by rw [e3, e2, e1]; simpa [ui_si_r] using r4
    rw [a2, if_neg (fun q => by have := i_le.mp q; rw [nI_toInt (by omega), show (-9 : Int32).toInt = -9 from rfl] at this; omega)]
  · obtain ⟨b, g, hB, r2, r3, r4⟩ := h3 z
    have pb := pc15 (hb b hB.1).2
    have bx := (hb b hB.1).1
    obtain ⟨yy, hyy, hg⟩ := hB.2.2.1
    have pg := pc15 (hb yy hyy).2
    have gx : ∃ g', (∀ α : Type, ∀ p q : Int32 → α, (if nI (pc x) ≤ nI g then p (nI g) else p (nI (pc x))) = p (nI g')) ∧ ((g' = g ∧ pc x ≤ g) ∨ (g' = pc x ∧ g ≤ pc x)) := by
      by_cases y : pc x ≤ g
      · exact ⟨g, fun α p q => if_pos (nI_le y (by omega)), Or.inl ⟨rfl, y⟩⟩
      · exact ⟨pc x, fun α p q => if_neg (nI_ge (by omega) (by omega)), Or.inr ⟨rfl, by omega⟩⟩
    obtain ⟨g', e1, e2⟩ := gx
    rw [r3]
    by_cases y : pc b ≤ pc x
    · have yl : nI (pc b) ≤ nI (pc x) := nI_le y (by omega)
      refine ⟨_, vals (nI b) (nI (pc b)) (nI g') ⟨b, g', hB.cons x b g' (Or.inr ⟨rfl, by omega⟩) e2, rfl, rfl, rfl⟩, fr _ _ _, ?_⟩
      rw [if_pos yl, show ui (si u 55 26 (nI (L.length + 1))) 55 28 = nI b by simpa [ui_si_r] using r4]
      refine key _ _ _ (fun u1 f1 u2 f2 => ?_)
      have a1 : ui u2 55 27 = nI (pc b) := by rw [f2, f1]; simpa [ui_si_r] using r3
      rw [a1, if_pos yl]
      refine ⟨rfl, fun u3 f3 => ?_⟩
      have a2 : ui u3 55 29 = nI g := by rw [f3, f2, f1]; simpa [ui_si_r] using r2
      rw [a2]
      exact e1 _ (fun z => f_X6_laySets_111 K x1 x2 (nI x) z u3) (fun z => f_X6_laySets_111 K x1 x2 (nI x) z u3)
    · have yl : ¬ nI (pc b) ≤ nI (pc x) := nI_ge (by omega) (by omega)
      refine ⟨_, vals (nI x) (nI (pc x)) (nI g') ⟨x, g', hB.cons x x g' (Or.inl ⟨rfl, by omega⟩) e2, rfl, rfl, rfl⟩, fr _ _ _, ?_⟩
      rw [if_neg yl]
      refine key _ _ _ (fun u1 f1 u2 f2 => ?_)
      have a1 : ui u2 55 27 = nI (pc b) := by rw [f2, f1]; simpa [ui_si_r] using r3
      rw [a1, if_neg yl]
      refine ⟨rfl, fun u3 f3 => ?_⟩
      have a2 : ui u3 55 29 = nI g := by rw [f3, f2, f1]; simpa [ui_si_r] using r2
      rw [a2]
      exact e1 _ (fun z => f_X6_laySets_111 K x1 x2 (nI x) z u3) (fun z => f_X6_laySets_111 K x1 x2 (nI x) z u3)

theorem sbm_lo {M x : Nat} (h : sbm M x) (hM : M % 4 = 0) : x % 4 = 0 := by
  have h0 : ¬ x % 2 = 1 := fun q => by have := sbm_low h q; omega
  have h1 : ¬ x / 2 % 2 = 1 := fun q => by have := sbm_low (sbm_half h) q; omega
  omega
theorem sbm_lt {M x : Nat} (h : sbm M x) (hM : M < 2 ^ 17) : x ≤ M := by
  refine sbm_le 17 M x ?_ h
  refine Nat.lt_of_not_le fun q => ?_
  obtain ⟨i, h1, h2⟩ := Nat.exists_ge_and_testBit_of_ge_two_pow q
  have := h i h2
  rw [tb_big hM h1] at this
  cases this
theorem nI_eqi {a b : Nat} (ha : a < 2 ^ 31) (hb : b < 2 ^ 31) : nI a = nI b ↔ a = b := ⟨fun e => by have := i_eq.mp e; rw [nI_toInt ha, nI_toInt hb] at this; omega, fun e => by rw [e]⟩
theorem ms_l {M T : Nat} (hM : M < 2 ^ 17) (h4 : M % 4 = 0) (hT : T < 2 ^ 30) : ∀ (k G x : Nat) (L : List Nat) (u : UU), sbm M x → x ≤ M → M - x ≤ 4 * k → k < G → MSt L u → (∀ y, y ∈ L ↔ sbm M y ∧ y < x ∧ Sm y = T) → L.Nodup → ∃ L' u', f_X6_laySets_25 G (nI M) (nI T) (nI x) u = some u' ∧ MSt L' u' ∧ L'.Nodup ∧ (∀ y, y ∈ L' ↔ sbm M y ∧ Sm y = T) ∧ Fs (fun k j => k = 55 ∧ 26 ≤ j ∧ j ≤ 29) u u' := by
  intro k
  induction k with
  | zero =>
    intro G x L u hx hl hk hG hL hm hn
    obtain ⟨G, rfl⟩ : ∃ G0, G = G0 + 1 := ⟨G - 1, by omega⟩
    have e : x = M := by omega
    have hs := Sm_lt x
    have fin : ∀ v, f_X6_laySets_114 (f_X6_laySets_25 G) (nI M) (nI T) (nI x) v = some v := by
      intro v
      unfold f_X6_laySets_114
      rw [lt_eq, sub_nx hM hx hl, e, nx_top, if_pos (show nI 0 = 0 from rfl)]
    rw [f_X6_laySets_25, sumOf_eq (by omega), bd_some, bits_eq (by omega), bd_some]
    by_cases z : Sm x = T
    · rw [if_pos (by rw [z])]
      obtain ⟨u', e1, e2, e3⟩ := m_note hL (x := x) (by omega) (sbm_lo hx h4) (fun y hy => ⟨((hm y).mp hy).2.1, sbm_lo ((hm y).mp hy).1 h4⟩) (K := f_X6_laySets_25 G) (x1 := nI M) (x2 := nI T)
      rw [e3, fin]
      refine ⟨x :: L, u', rfl, e1, List.nodup_cons.mpr ⟨fun q => absurd ((hm x).mp q).2.1 (by omega), hn⟩, fun y => ?_, e2⟩
      rw [List.mem_cons, hm]
      constructor
      · rintro (rfl | ⟨a, b, c⟩)
        · exact ⟨hx, z⟩
        · exact ⟨a, c⟩
      · rintro ⟨a, b⟩
        have := sbm_lt a hM
        by_cases q : y = x
        · exact Or.inl q
        · exact Or.inr ⟨a, by omega, b⟩
    · rw [if_neg (fun q => z ((nI_eqi (by omega) (by omega)).mp q)), fin]
      refine ⟨L, u, rfl, hL, hn, fun y => ?_, Fs.rf⟩
      rw [hm]
      constructor
      · rintro ⟨a, b, c⟩
        exact ⟨a, c⟩
      · rintro ⟨a, b⟩
        have := sbm_lt a hM
        by_cases q : y = x
        · rw [q] at b
          exact absurd b z
        · exact ⟨a, by omega, b⟩
  | succ k ih =>
    intro G x L u hx hl hk hG hL hm hn
    by_cases q0 : x = M
    · exact ih G x L u hx hl (by omega) (by omega) hL hm hn
    obtain ⟨G, rfl⟩ : ∃ G0, G = G0 + 1 := ⟨G - 1, by omega⟩
    have hs := Sm_lt x
    obtain ⟨g1, g2, g3⟩ := nx_ok 32 M x (by omega) (by omega) hx
    have x4 := sbm_lo hx h4
    have n4 := sbm_lo g1 h4
    have nl := sbm_lt g1 hM
    have fin : ∀ v, f_X6_laySets_114 (f_X6_laySets_25 G) (nI M) (nI T) (nI x) v = f_X6_laySets_25 G (nI M) (nI T) (nI (nx 32 M x)) v := by
      intro v
      unfold f_X6_laySets_114
      rw [lt_eq, sub_nx hM hx hl, if_neg (nI_ne0 (by omega) (by omega))]
    rw [f_X6_laySets_25, sumOf_eq (by omega), bd_some, bits_eq (by omega), bd_some]
    by_cases z : Sm x = T
    · rw [if_pos (by rw [z])]
      obtain ⟨u', e1, e2, e3⟩ := m_note hL (x := x) (by omega) x4 (fun y hy => ⟨((hm y).mp hy).2.1, sbm_lo ((hm y).mp hy).1 h4⟩) (K := f_X6_laySets_25 G) (x1 := nI M) (x2 := nI T)
      rw [e3, fin]
      obtain ⟨L', u'', a1, a2, a3, a4, a5⟩ := ih G (nx 32 M x) (x :: L) u' g1 nl (by omega) (by omega) e1 (fun y => by
        rw [List.mem_cons, hm]
        constructor
        · rintro (rfl | ⟨a, b, c⟩)
          · exact ⟨hx, g2, z⟩
          · exact ⟨a, by omega, c⟩
        · rintro ⟨a, b, c⟩
          by_cases q : y = x
          · exact Or.inl q
          · by_cases r : x < y
            · have := g3 y a r
              omega
            · exact Or.inr ⟨a, by omega, c⟩) (List.nodup_cons.mpr ⟨fun q => absurd ((hm x).mp q).2.1 (by omega), hn⟩)
      exact ⟨L', u'', a1, a2, a3, a4, e2.tr a5⟩
    · rw [if_neg (fun q => z ((nI_eqi (by omega) (by omega)).mp q)), fin]
      exact ih G (nx 32 M x) L u g1 nl (by omega) (by omega) hL (fun y => by
        rw [hm]
        constructor
        · rintro ⟨a, b, c⟩
          exact ⟨a, by omega, c⟩
        · rintro ⟨a, b, c⟩
          by_cases q : y = x
          · rw [q] at c
            exact absurd c z
          · by_cases r : x < y
            · have := g3 y a r
              omega
            · exact ⟨a, by omega, c⟩) hn
theorem m_sets {M T : Nat} {u : UU} (hM : M < 2 ^ 17) (h4 : M % 4 = 0) (hT : T < 2 ^ 30) : ∃ L u', f_X6_laySets (nI M) (nI T) u = some u' ∧ MSt L u' ∧ L.Nodup ∧ (∀ y, y ∈ L ↔ sbm M y ∧ Sm y = T) ∧ Fs (fun k j => k = 55 ∧ 26 ≤ j ∧ j ≤ 29) u u' := by
  unfold f_X6_laySets
  rw [lt_eq, lt_eq, lt_eq, lt_eq]
  have fr : Fs (fun k j => k = 55 ∧ 26 ≤ j ∧ j ≤ 29) u (si (si (si (si u 55 26 0) 55 27 16) 55 28 (-9)) 55 29 (-9)) := (((Fs.si ⟨rfl, by omega, by omega⟩).tr (Fs.si ⟨rfl, by omega, by omega⟩)).tr (Fs.si ⟨rfl, by omega, by omega⟩)).tr (Fs.si ⟨rfl, by omega, by omega⟩)
  obtain ⟨L, u', e1, e2, e3, e4, e5⟩ := ms_l hM h4 hT 32768 fu 0 [] (si (si (si (si u 55 26 0) 55 27 16) 55 28 (-9)) 55 29 (-9)) (fun i hi => by simp at hi) (by omega) (by omega) (by unfold fu; omega) ⟨by simp [ui_si_r]; rfl, fun _ => ⟨by simp [ui_si_r], by simp [ui_si_r], by simp [ui_si_r]⟩, fun q => absurd rfl q⟩ (fun y => ⟨(fun q => by cases q), fun q => absurd q.2.1 (by omega)⟩) List.nodup_nil
  exact ⟨L, u', e1, e2, e3, e4, fr.tr e5⟩
