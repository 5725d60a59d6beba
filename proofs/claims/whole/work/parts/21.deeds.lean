def PTC (k j : Nat) : Prop := (11 ≤ k ∧ k ≤ 20) ∨ (22 ≤ k ∧ k ≤ 51) ∨ PC k j
def PTM (k j : Nat) : Prop := (k = 55 ∧ (j = 17 ∨ j = 22)) ∨ (65 ≤ k ∧ k ≤ 71) ∨ PM k j
theorem Inv.tab {c m c' m' : UU} (h : Inv c m) (hc : Fs PTC c c') (hm : Fs PTM m m') (hI : IT c' m') : Inv c' m' := by
  obtain ⟨⟨f1, f2⟩, ⟨t1, t2, t3⟩, ⟨S, r1, r2, r3⟩, ⟨S', x1, x2, x3⟩, -⟩ := h
  have ec := hc.1
  have em := hm.1
  refine ⟨⟨?_, fun j hj => ?_⟩, ⟨?_, ?_, ?_⟩, ⟨S, ?_, ?_, ?_⟩, ⟨S', ?_, ?_, ?_⟩, hI⟩
  · rw [ec _ _ (by unfold PTC PC; omega), em _ _ (by unfold PTM PM; omega)]; exact f1
  · rw [ec _ _ (by unfold PTC PC; omega), em _ _ (by unfold PTM PM; omega)]; exact f2 j hj
  · rw [ec _ _ (by unfold PTC PC; omega), em _ _ (by unfold PTM PM; omega)]; exact t1
  · rw [hc.2 _ _ (by unfold PTC PC; omega), hm.2 _ _ (by unfold PTM PM; omega)]; exact t2
  · rw [hc.2 _ _ (by unfold PTC PC; omega), hm.2 _ _ (by unfold PTM PM; omega)]; exact t3
  · rw [ec _ _ (by unfold PTC PC; omega)]; exact r1
  · exact r2.cong (fun j => ec _ _ (by unfold PTC PC; omega)) (fun j => ec _ _ (by unfold PTC PC; omega))
  · exact r3.cong (fun j => em _ _ (by unfold PTM PM; omega)) (fun j => em _ _ (by unfold PTM PM; omega))
  · rw [ec _ _ (by unfold PTC PC; omega)]; exact x1
  · exact x2.cong (fun j => ec _ _ (by unfold PTC PC; omega)) (fun j => ec _ _ (by unfold PTC PC; omega))
  · exact x3.cong (fun j => em _ _ (by unfold PTM PM; omega)) (fun j => em _ _ (by unfold PTM PM; omega))
def upw (w : Nat → Nat → Nat) (k : Nat) (v : Nat → Nat) : Nat → Nat → Nat := fun q => if q = k then v else w q
def noteC (c : UU) (dm : Nat) (a b s : Int32) : UU := si (si (si (si c 18 dm a) 19 dm b) 20 dm s) 11 2 (nI (dm + 1))
theorem f_note {c : UU} {dm : Nat} (hd : ui c 11 2 = nI dm) (h : dm < 40) (a b s : Int32) : f_X4_noteDeed a b s c = some (noteC c dm a b s) := by
  have e1 : ui (si c 18 dm a) 11 2 = nI dm := by simp [ui_si_r, hd]
  have e2 : ui (si (si c 18 dm a) 19 dm b) 11 2 = nI dm := by simp [ui_si_r, hd]
  have e3 : ui (si (si (si c 18 dm a) 19 dm b) 20 dm s) 11 2 = nI dm := by simp [ui_si_r, hd]
  unfold f_X4_noteDeed noteC
  rw [hd, if_neg (show ¬ (40 : Int32) ≤ nI dm from nI_ge (b := 40) h (by omega)), ix_n h (by omega), nI_clamp (by omega), lt_eq, e1, ix_n h (by omega), nI_clamp (by omega), lt_eq, e2, ix_n h (by omega), nI_clamp (by omega), lt_eq, e3, nI_1, lt_eq]
theorem rem_loop {m : UU} {dm : Nat} (hd : ui m 55 22 = nI dm) (h : dm < 40) : ∀ (f k : Nat) (u : UU), k ≤ 25 → 26 ≤ k + f → Fr [69] m u → (∀ j, ui u 69 j = if 25 * dm ≤ j ∧ j < 25 * dm + k then ui m 68 (j - 25 * dm) else ui m 69 j) → ∃ u', f_X6_remember_2 f (nI k) u = some (si u' 55 22 (nI (dm + 1))) ∧ Fr [69] m u' ∧ ∀ j, ui u' 69 j = if 25 * dm ≤ j ∧ j < 25 * dm + 25 then ui m 68 (j - 25 * dm) else ui m 69 j := by
  intro f
  induction f with
  | zero => intro k u h1 h2; omega
  | succ f ih =>
    intro k u h1 h2 h3 h4
    have e22 : ui u 55 22 = nI dm := by rw [h3.1 55 (by simp)]; exact hd
    rw [f_X6_remember_2]
    by_cases he : k = 25
    · subst he
      rw [if_pos (show (25 : Int32) ≤ nI 25 from nI_le (Nat.le_refl _) (by omega)), e22, nI_1, lt_eq]
      exact ⟨u, rfl, h3, h4⟩
    · rw [if_neg (show ¬ (25 : Int32) ≤ nI k from nI_ge (b := 25) (by omega) (by omega)), ix_n (show k < 25 by omega) (by omega), e22, show (25 : Int32) * nI dm + nI k = nI (25 * dm + k) from nI_mulB, ix_n (show 25 * dm + k < 1000 by omega) (by omega), nI_clamp (by omega), nI_clamp (by omega), lt_eq, lt_eq, nI_1]
      refine ih (k + 1) _ (by omega) (by omega) (h3.tr (Fr.si (by simp))) (fun j => ?_)
      rw [ui_si_r]
      by_cases e : j = 25 * dm + k
      · rw [if_pos ⟨rfl, e⟩, if_pos (by omega), h3.1 68 (by simp)]
        congr 1
        omega
      · rw [if_neg (fun z => e z.2), h4]
        by_cases q : 25 * dm ≤ j ∧ j < 25 * dm + k
        · rw [if_pos q, if_pos (by omega)]
        · rw [if_neg q, if_neg (by omega)]
theorem f_rem {m : UU} {dm : Nat} (hd : ui m 55 22 = nI dm) (h : dm < 40) : ∃ m', f_X6_remember m = some m' ∧ Fs (fun k j => (k = 55 ∧ j = 22) ∨ k = 69) m m' ∧ ui m' 55 22 = nI (dm + 1) ∧ ∀ j, ui m' 69 j = if 25 * dm ≤ j ∧ j < 25 * dm + 25 then ui m 68 (j - 25 * dm) else ui m 69 j := by
  obtain ⟨u, e1, e2, e3⟩ := rem_loop hd h fu 0 m (by omega) (by unfold fu; omega) Fr.rf (fun j => by rw [if_neg (by omega)])
  refine ⟨_, e1, (e2.fs (fun k j q => ?_)).tr (Fs.si (by omega)), by simp [ui_si_r], fun j => ?_⟩
  · simp at q; omega
  · rw [ui_si_r, if_neg (by omega)]; exact e3 j
section DD
variable {n : Nat} {kd up lw : Nat → Nat} {dm : Nat} {w : Nat → Nat → Nat} {kp : KP} {c m : UU}
theorem TB.cv (h : TB n kd up lw dm w kp c m) : CV n up lw (w dm) c := ⟨h.2.1.2.1, h.2.1.2.2.2.1, h.2.1.2.2.2.2.1, fun i hi => (h.2.1.2.2.2.2.2.1 i hi).2.2.2⟩
theorem TB.step (h : TB n kd up lw dm w kp c m) (hd : dm < 40) (hn0 : 0 < n) {v' : Nat → Nat} {a b s : Int32} (hw : WF n up lw (dm + 1) v') (hst : Step n a b s (w dm) v') {c' m' : UU} (hc : CV n up lw v' c') (hf : Fs PV c c') (hm : Fs (fun k j => (k = 55 ∧ j = 22) ∨ k = 69 ∨ k = 68) m m') (m22 : ui m' 55 22 = nI (dm + 1)) (m68 : ∀ j, j < 25 → ui m' 68 j = nI (v' j)) (m69 : ∀ j, ui m' 69 j = if 25 * dm ≤ j ∧ j < 25 * dm + 25 then ui m 68 (j - 25 * dm) else ui m 69 j) : TB n kd up lw (dm + 1) (upw w (dm + 1) v') kp (noteC c' dm a b s) m' := by
  obtain ⟨⟨n1, n2, n3⟩, ⟨t1, t2, t3, t4, t5, t6, t7, t8, t9⟩, ⟨q1, q2, q3, q4, q5, q6⟩, k1⟩ := h
  obtain ⟨v1, v2, v3, v4⟩ := hc
  have wn : upw w (dm + 1) v' (dm + 1) = v' := by simp [upw]
  have wo : ∀ k, k ≤ dm → upw w (dm + 1) v' k = w k := fun k hk => by simp [upw]; intro e; omega
  have eC : ∀ k j, ¬ PV k j → ui c' k j = ui c k j := hf.1
  have eM := hm.1
  refine ⟨⟨n1, n2, fun e => by omega⟩, ⟨?_, ?_, ?_, ?_, fun d hd => ?_, fun i hi => ?_, by omega, fun k hk => ?_, fun k hk => ?_⟩, ⟨?_, m22, fun i hi => ?_, fun j hj => ?_, fun k hk j hj => ?_, fun k hk => ?_⟩, fun k hk => ?_⟩
  · simp only [noteC, ui_si_r]
    simp [eC 11 0 (by unfold PV; omega), t1]
  · simp only [noteC, ui_si_r, wn]
    simp [v1]
  · simp [noteC, ui_si_r]
  · simp only [noteC, ui_si_r, wn]
    simp [v2]
  · simp only [noteC, ui_si_r, wn]
    simp [v3 d hd]
  · simp only [noteC, ui_si_r, wn]
    obtain ⟨z1, z2, z3, -, -⟩ := t6 i hi
    obtain ⟨z4, z5⟩ := v4 i hi
    simp [eC 13 i (by unfold PV; omega), eC 14 i (by unfold PV; omega), eC 15 i (by unfold PV; omega), z1, z2, z3, z4, z5]
  · by_cases e : k = dm + 1
    · rw [e, wn]; exact hw
    · rw [wo k (by omega)]; exact t8 k (by omega)
  · by_cases e : k = dm
    · subst e
      rw [wn, wo k (Nat.le_refl _)]
      simp only [noteC, ui_si_r]
      simpa using hst
    · rw [wo k (by omega), wo (k + 1) (by omega)]
      have := t9 k (by omega)
      simp only [noteC, ui_si_r]
      simpa [e, eC 18 k (by unfold PV; omega), eC 19 k (by unfold PV; omega), eC 20 k (by unfold PV; omega)] using this
  · rw [eM _ _ (by omega)]; exact q1
  · rw [eM _ _ (by omega), eM _ _ (by omega), eM _ _ (by omega)]; exact q3 i hi
  · rw [wn]; exact m68 j hj
  · rw [m69]
    by_cases e : k = dm
    · subst e
      rw [if_pos (by omega), wo k (Nat.le_refl _), show 25 * k + j - 25 * k = j by omega]
      exact q4 j hj
    · rw [if_neg (by omega), wo k (by omega)]
      exact q5 k (by omega) j hj
  · refine ⟨fun e => by rw [eM _ _ (by omega)]; exact (q6 k hk).1 e, fun dk wk e => ?_⟩
    obtain ⟨g1, g2, g3⟩ := (q6 k hk).2 dk wk e
    exact ⟨by rw [eM _ _ (by omega)]; exact g1, fun j hj => by rw [eM _ _ (by omega)]; exact g2 j hj, fun i hi j hj => by rw [eM _ _ (by omega)]; exact g3 i hi j hj⟩
  · have ek : ∀ a1 j, 22 ≤ a1 → a1 ≤ 51 → ui (noteC c' dm a b s) a1 j = ui c a1 j := by
      intro a' j h1 h2
      simp only [noteC, ui_si_r]
      rw [if_neg (by omega), if_neg (by omega), if_neg (by omega), if_neg (by omega)]
      exact eC _ _ (by unfold PV; omega)
    exact ⟨fun e => by rw [ek _ _ (by omega) (by omega)]; exact (k1 k hk).1 e, fun dk wk e => ⟨((k1 k hk).2 dk wk e).1, ((k1 k hk).2 dk wk e).2.cong (fun a' j h1 h2 => ek _ _ (by omega) (by omega))⟩⟩
end DD
