theorem Lt_out {l : List Int32} {i : Nat} (h : l.length ≤ i) : Lt l i = 0 := if_neg (by omega)
theorem rd_whole {t : Nat} {l : List Int32} (ht : t < 4) {c m : UU} (hc : HC t l c) (hm : HM t l m) : ∃ r c' m', f_X2_readTable (nI t) c = some (r, c') ∧ f_X6_faultOf (nI t) m = some (r, m') ∧ Fs PC c c' ∧ Fs PM m m' ∧ (r = -9 → ∃ k kd up lw lo, 2 ≤ k ∧ lo ≤ 99 ∧ RD k kd up lw c' m' ∧ ui c' 7 3 = nI lo ∧ ui m' 55 12 = nI lo) := by
  have h60 := hc.1
  unfold f_X2_readTable f_X6_faultOf
  rw [s_size_in ht (by omega), bd_some, show ui c (4 + 1) t = _ from hc.2.2.1, lt_eq, lt_eq, lt_eq, lt_eq]
  generalize hc1 : si c 7 4 (0 : Int32) = c1
  generalize hm1 : si (si (si m 55 10 (0 : Int32)) 55 11 (0 : Int32)) 55 13 (0 : Int32) = m1
  have fc : Fs PC c c1 := by
    rw [← hc1]
    exact Fs.si (by unfold PC; omega)
  have fm : Fs PM m m1 := by
    rw [← hm1]
    exact ((Fs.si (by unfold PM; omega)).tr (Fs.si (by unfold PM; omega))).tr (Fs.si (by unfold PM; omega))
  have k1 : ui c1 7 4 = nI 0 := by rw [← hc1]; simp [ui_si_r]; rfl
  have k2 : ui m1 55 11 = nI 0 := by rw [← hm1]; simp [ui_si_r]; rfl
  have k3 : ui m1 55 13 = 0 := by rw [← hm1]; simp [ui_si_r]
  have k4 : ui m1 55 10 = nI 0 := by rw [← hm1]; simp [ui_si_r]; rfl
  have hc' := hc.fs fc
  have hm' := hm.fs fm
  clear hc1 hm1
  rw [show (0 : Int32) = nI 0 from rfl, c_blank hc' ht (i := 0) (by omega), bd_some]
  obtain ⟨p1, p2, p3⟩ := pbl_bd (l := l) 60 0 (by omega)
  obtain ⟨G, ⟨g1, g0⟩, g2⟩ := m_blank ht 60 0 fu m1 hm' k4 (by omega) (by omega) (by unfold fu; omega) (by unfold fu; omega)
  rw [g2]
  generalize pbl l 0 = p at *
  generalize hm2 : si m1 55 10 (nI p) = m2
  have fm2 : Fs PM m1 m2 := by
    rw [← hm2]
    exact Fs.si (by unfold PM; omega)
  have hm'' := hm'.fs fm2
  have k2' : ui m2 55 11 = nI 0 := by rw [← hm2]; simpa [ui_si_r] using k2
  have k3' : ui m2 55 13 = 0 := by rw [← hm2]; simpa [ui_si_r] using k3
  have k4' : ui m2 55 10 = nI p := by rw [← hm2]; simp [ui_si_r]
  clear hm2 g2
  obtain ⟨G, rfl⟩ : ∃ G0, G = G0 + 1 := ⟨G - 1, by omega⟩
  rw [c_fig hc' ht (by omega), bd_some, f_X6_faultOf_15, ix_n ht (by omega), nI_clamp (by omega), hm''.2.1, k4']
  by_cases q0 : l.length ≤ p
  · rw [Lt_out q0, show dg (nI 0) 0 = -9 by decide, if_pos rfl, if_pos (nI_le q0 (by omega)), k2', if_neg (show ¬ (2 : Int32) ≤ nI 0 by decide), ix_n ht (by omega), show l.length = p by omega]
    exact ⟨_, _, _, rfl, rfl, fc, fm.tr fm2, fun e => absurd e (nI_m9 (by omega))⟩
  have nb : ¬ Lt l p = 32 := by
    unfold Lt
    rw [if_pos (by omega)]
    rcases p3 with hb | hb
    · exact absurd hb q0
    · exact hb
  rw [if_neg (nI_ge (by omega) (by omega)), m_rd hm'' ht (by omega), bd_some, if_neg nb, k3', if_pos t00]
  unfold f_X6_readsLoaves
  rw [show (0 : Int32) = nI 0 from rfl, m_reads hm'' ht (i := p) (by omega) k4' (nI 0) (Or.inl rfl)]
  by_cases a : dg (nI 0) (Lt l p) = -9
  · rw [if_pos a, if_pos a, bd_some, if_pos rfl]
    unfold f_X6_readsLoaves_24 f_X6_readsLoaves_47
    rw [lt_eq, if_pos rfl, show nI 0 = (0 : Int32) from rfl, bz_0, lt_eq, show ∀ u : UU, ui (si u 55 13 0) 55 13 = 0 from fun u => by simp [ui_si_r], bz_0, bd_some, if_pos t00]
    refine ⟨_, _, _, rfl, congrArg (fun z => some (z, _)) ?_, fc, (fm.tr fm2).tr ((Fs.si (by unfold PM; omega)).tr (Fs.si (by unfold PM; omega))), fun e => absurd e (nI_m9 (by omega))⟩
    rw [ui_si_r, if_neg (by omega), ui_si_r, if_neg (by omega), k4']
  rw [if_neg a, if_neg a, bd_some, if_neg a, nI_1, c_fig hc' ht (by omega), bd_some]
  have hm3 : HM t l (si m2 55 10 (nI (p + 1))) := hm''.fs (Fs.si (by unfold PM; omega))
  have fm3 : Fs PM m2 (si m2 55 10 (nI (p + 1))) := Fs.si (by unfold PM; omega)
  rw [m_reads hm3 ht (i := p + 1) (by omega) (by simp [ui_si_r]) (nI 0) (Or.inl rfl), si_si]
  by_cases b : dg (nI 0) (Lt l (p + 1)) = -9
  · rw [if_pos b, if_pos b, bd_some]
    unfold f_X6_readsLoaves_24 f_X6_readsLoaves_47
    rw [lt_eq, if_pos rfl, show nI 0 = (0 : Int32) from rfl, bz_0, lt_eq, show ∀ u : UU, ui (si u 55 13 0) 55 13 = 0 from fun u => by simp [ui_si_r], bz_0, bd_some, if_pos t00]
    refine ⟨_, _, _, rfl, congrArg (fun z => some (z, _)) ?_, fc, ((fm.tr fm2).tr fm3).tr ((Fs.si (by unfold PM; omega)).tr (Fs.si (by unfold PM; omega))), fun e => absurd e (nI_m9 (by omega))⟩
    rw [ui_si_r, if_neg (by omega), ui_si_r, if_neg (by omega), ui_si_r, if_pos ⟨rfl, rfl⟩]
  rw [if_neg b, if_neg b, bd_some]
  obtain ⟨x, -, hx, ex⟩ := (dg_cases (lo := 0) (by omega) (Lt l p)).resolve_left a
  obtain ⟨y, -, hy, ey⟩ := (dg_cases (lo := 0) (by omega) (Lt l (p + 1))).resolve_left b
  rw [ex, ey]
  unfold f_X6_readsLoaves_24 f_X6_readsLoaves_47
  dsimp only
  rw [lt_eq, lt_eq, if_neg (nI_m9 (by omega)), bz_1, lt_eq, show ∀ u : UU, ui (si u 55 13 1) 55 13 = 1 from fun u => by simp [ui_si_r], bz_1, bd_some, if_neg (show ¬ (1 : Int32) = nI 0 from n10)]
  show ∃ r c' m', (f_X2_pastBlanks (nI t) (nI p + 2) (si c1 7 3 (10 * nI x + nI y))).bind _ = some (r, c') ∧ f_X6_faultOf_15 G (nI t) (si (si (si m2 55 10 (nI (p + 1 + 1))) 55 12 (10 * nI x + nI y)) 55 13 1) = some (r, m') ∧ _
  rw [show (10 : Int32) * nI x + nI y = nI (10 * x + y) from nI_mulB]
  generalize hc2 : si c1 7 3 (nI (10 * x + y)) = c2
  generalize hm4 : si (si (si m2 55 10 (nI (p + 1 + 1))) 55 12 (nI (10 * x + y))) 55 13 1 = m4
  have fc2 : Fs PC c1 c2 := by
    rw [← hc2]
    exact Fs.si (by unfold PC; omega)
  have fm4 : Fs PM m2 m4 := by
    rw [← hm4]
    exact ((Fs.si (by unfold PM; omega)).tr (Fs.si (by unfold PM; omega))).tr (Fs.si (by unfold PM; omega))
  have j1 : ui c2 7 4 = nI 0 := by rw [← hc2]; simpa [ui_si_r] using k1
  have j1' : ui c2 7 3 = nI (10 * x + y) := by rw [← hc2]; simp [ui_si_r]
  have j2 : ui m4 55 11 = nI 0 := by rw [← hm4]; simpa [ui_si_r] using k2'
  have j3 : ui m4 55 13 = 1 := by rw [← hm4]; simp [ui_si_r]
  have j4 : ui m4 55 10 = nI (p + 2) := by rw [← hm4]; simp [ui_si_r]
  have j5 : ui m4 55 12 = nI (10 * x + y) := by rw [← hm4]; simp [ui_si_r]
  clear hc2 hm4
  rw [show nI p + (2 : Int32) = nI (p + 2) from nI_add p 2, c_blank (hc'.fs fc2) ht (i := p + 2) (by omega), bd_some]
  obtain ⟨o1, o2, o3⟩ := pbl_bd (l := l) 60 (p + 2) (by omega)
  obtain ⟨G', ⟨g3, g4⟩, g5⟩ := m_blank ht 60 (p + 2) G m4 (hm''.fs fm4) j4 (by omega) (by omega) (by omega) (by omega)
  have fm5 : Fs PM m4 (si m4 55 10 (nI (pbl l (p + 2)))) := Fs.si (by unfold PM; omega)
  obtain ⟨r, c', m', r1, r2, r3, r4, r5, r6, r7⟩ := rd_loop ht 60 (pbl l (p + 2)) 0 fu G' (fun _ => 0) (fun _ => 0) (fun _ => 0) c2 (si m4 55 10 (nI (pbl l (p + 2)))) (hc'.fs fc2) ((hm''.fs fm4).fs fm5) ⟨by omega, j1, by rw [ui_si_r, if_neg (by omega)]; exact j2, fun q hq => absurd hq (by omega), fun q hq => absurd hq (by omega)⟩ (by rw [ui_si_r, if_neg (by omega), j3]; exact n10) (by simp [ui_si_r]) (by omega) o3 (by omega) (by unfold fu; omega) (by unfold fu; omega) g3 g4
  rw [g5, r1, r2]
  refine ⟨r, c', m', rfl, rfl, (fc.tr fc2).tr r3, (((fm.tr fm2).tr fm4).tr fm5).tr r4, fun e => ?_⟩
  obtain ⟨k, kd, up, lw, z1, z2⟩ := r7 e
  exact ⟨k, kd, up, lw, 10 * x + y, z1, by omega, z2, r5.trans j1', r6.trans (by rw [ui_si_r, if_neg (by omega)]; exact j5)⟩

/-- the texts of both sides -/
theorem tx_get {c m : UU} (h : Inv c m) {t : Nat} (ht : t < 4) : (ui c 5 t = -1 ∧ ui m 60 t = -1) ∨ ∃ l, HC t l c ∧ HM t l m := by
  obtain ⟨-, -, -, ⟨S, r1, r2, r3⟩, -⟩ := h
  obtain ⟨a1, a2⟩ := r2 t ht
  obtain ⟨b1, b2⟩ := r3 t ht
  cases hS : S t with
  | none => rw [hS] at a1 b1; exact Or.inl ⟨a1, b1⟩
  | some l =>
    rw [hS] at a1 b1
    obtain ⟨a3, a4⟩ := a2 l hS
    obtain ⟨b3, b4⟩ := b2 l hS
    exact Or.inr ⟨l, ⟨a3, r1, a1, a4⟩, ⟨b3, b1, b4⟩⟩
theorem op_fault {c m : UU} (h : Inv c m) (r : Int32) : Ok (f_X5_fault r c) (f_X6_fault r m) := by
  unfold f_X5_fault f_X6_fault
  rcases i_cases r (n := 4) (by omega) with hr | ⟨j, hj, rfl⟩
  · rw [s_miss_out hr, text_out hr, bp_neg nm1, if_pos t00]
    exact Ok.same h _
  · rw [text_in hj, if_neg n10, ix_n hj (by omega), nI_clamp (by omega)]
    rcases tx_get h hj with ⟨a, b⟩ | ⟨l, hc, hm⟩
    · rw [s_miss_none hj (by omega) a, bp_neg nm3, b, if_neg m1_neg, show f_X6_meets (1 : Int32) m = _ from f_meets (f := 1) (by omega)]
      exact Ok.found h (by omega)
    · rw [s_miss_some hj (by omega) (show l.length ≤ 100 by have := hc.1; omega) hc.2.2.1, bp_zero, hm.2.1, if_pos (nI_ge0 (by have := hc.1; omega))]
      dsimp only
      obtain ⟨a, c', m', e1, e2, e3, e4, -⟩ := rd_whole hj hc hm
      rw [e1, e2]
      exact ⟨a, c', m', rfl, rfl, h.fs e3 e4⟩
