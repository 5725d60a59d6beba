/-! the invariant between the class's state c and the model's m -/
def mkn (p : Nat → Bool) : Nat → Nat
  | 0 => 0
  | n + 1 => mkn p n + if 2 ≤ n ∧ p n = true then 2 ^ n else 0
def smn (s : Nat) : Nat → Nat
  | 0 => 0
  | n + 1 => smn s n + if 2 ≤ n ∧ s.testBit n = true then 720720 / n else 0
def pcn (s : Nat) : Nat → Nat
  | 0 => 0
  | n + 1 => pcn s n + if s.testBit n = true then 1 else 0
abbrev lyM (v : Nat → Nat) : Nat := mkn (fun d => decide (0 < v (1 + d))) 17
abbrev Sm (s : Nat) : Nat := smn s 17
abbrev pc (s : Nat) : Nat := pcn s 17
def due (up lw : Nat → Nat) (i : Nat) : Nat := 720720 / lw i * up i
def cutV (v : Nat → Nat) (d : Nat) : Nat → Nat := fun j => if j = 0 then v 0 - 1 else if j = 1 + d then v (1 + d) + d else v j
def giveV (v : Nat → Nat) (i d : Nat) : Nat → Nat := fun j => if j = 1 + d then v (1 + d) - 1 else if j = 18 + i then v (18 + i) + 2 ^ d else v j
def backV (v : Nat → Nat) (i d : Nat) : Nat → Nat := fun j => if j = 1 + d then v (1 + d) + 1 else if j = 18 + i then v (18 + i) - 2 ^ d else v j
def bakeV (v : Nat → Nat) (k : Nat) : Nat → Nat := fun j => if j = 0 then v 0 + k else v j
def WF (n : Nat) (up lw : Nat → Nat) (dm : Nat) (v : Nat → Nat) : Prop := v 0 ≤ 99 ∧ (∀ d, d < 17 → v (1 + d) ≤ 16 * dm) ∧ ∀ i, i < n → v (18 + i) < 131072 ∧ v (18 + i) % 4 = 0 ∧ Sm (v (18 + i)) ≤ due up lw i
def Step (n : Nat) (a b s : Int32) (v v' : Nat → Nat) : Prop :=
  (a = 0 ∧ v' = v) ∨ (a = 1 ∧ ∃ d, 2 ≤ d ∧ d ≤ 16 ∧ s = nI d ∧ 1 ≤ v 0 ∧ v' = cutV v d) ∨
  (a = 2 ∧ ∃ i d, i < n ∧ 2 ≤ d ∧ d ≤ 16 ∧ b = nI i ∧ s = nI d ∧ 1 ≤ v (1 + d) ∧ (v (18 + i)).testBit d = false ∧ v' = giveV v i d) ∨
  (a = 3 ∧ ∃ i d, i < n ∧ 2 ≤ d ∧ d ≤ 16 ∧ b = nI i ∧ s = nI d ∧ (v (18 + i)).testBit d = true ∧ v' = backV v i d) ∨
  (a = 4 ∧ ∃ k, s = nI k ∧ v 0 + k ≤ 99 ∧ v' = bakeV v k)
def Seq (n : Nat) (up lw : Nat → Nat) (dm : Nat) (w : Nat → Nat → Nat) (a b s : Nat → Int32) : Prop :=
  dm ≤ 40 ∧ (∀ k, k ≤ dm → WF n up lw k (w k)) ∧ ∀ k, k < dm → Step n (a k) (b k) (s k) (w k) (w (k + 1))
/-- a table of the class at the cells b .. b + 9 -/
def TC (b n : Nat) (kd up lw : Nat → Nat) (dm : Nat) (w : Nat → Nat → Nat) (c : UU) : Prop :=
  ui c b 0 = nI n ∧ ui c b 1 = nI (w dm 0) ∧ ui c b 2 = nI dm ∧ ui c b 4 = nI (lyM (w dm)) ∧ (∀ d, d < 17 → ui c (b + 1) d = nI (w dm (1 + d))) ∧
  (∀ i, i < n → ui c (b + 2) i = nI (kd i) ∧ ui c (b + 3) i = nI (up i) ∧ ui c (b + 4) i = nI (lw i) ∧ ui c (b + 5) i = nI (w dm (18 + i)) ∧ ui c (b + 6) i = nI (due up lw i - Sm (w dm (18 + i)))) ∧
  Seq n up lw dm w (ui c (b + 7)) (ui c (b + 8)) (ui c (b + 9))
abbrev KP : Type := Nat → Option (Nat × (Nat → Nat → Nat))
/-- what holds of the numbers of a table -/
def TN (n : Nat) (kd up lw : Nat → Nat) (dm : Nat) (w : Nat → Nat → Nat) (kp : KP) : Prop :=
  n ≤ 7 ∧ (∀ i, i < n → kd i < 6 ∧ 1 ≤ up i ∧ up i ≤ 9 ∧ 1 ≤ lw i ∧ lw i ≤ 9) ∧ (n = 0 → dm = 0 ∧ (∀ j, w 0 j = 0) ∧ ∀ k, kp k = none)
def TM (n : Nat) (kd up lw : Nat → Nat) (dm : Nat) (w : Nat → Nat → Nat) (kp : KP) (m : UU) : Prop :=
  ui m 55 17 = nI n ∧ ui m 55 22 = nI dm ∧ (∀ i, i < n → ui m 65 i = nI (kd i) ∧ ui m 66 i = nI (up i) ∧ ui m 67 i = nI (lw i)) ∧ (∀ j, j < 25 → ui m 68 j = nI (w dm j)) ∧ (∀ k, k < dm → ∀ j, j < 25 → ui m 69 (25 * k + j) = nI (w k j)) ∧
  ∀ k, k < 3 → (kp k = none → ui m 70 k = -1) ∧ ∀ dk wk, kp k = some (dk, wk) → ui m 70 k = nI dk ∧ (∀ j, j < 25 → ui m 71 (1025 * k + j) = nI (wk dk j)) ∧ ∀ i, i < dk → ∀ j, j < 25 → ui m 71 (1025 * k + 25 + (25 * i + j)) = nI (wk i j)
def TB (n : Nat) (kd up lw : Nat → Nat) (dm : Nat) (w : Nat → Nat → Nat) (kp : KP) (c m : UU) : Prop :=
  TN n kd up lw dm w kp ∧ TC 11 n kd up lw dm w c ∧ TM n kd up lw dm w kp m ∧
  ∀ k, k < 3 → (kp k = none → ui c (22 + 10 * k) 0 = 0) ∧ ∀ dk wk, kp k = some (dk, wk) → 0 < n ∧ TC (22 + 10 * k) n kd up lw dk wk c
def FR (c m : UU) : Prop := ui c 0 8 = ui m 55 3 ∧ ∀ j, j < 6 → ui c 54 j = ui m 56 j
def TO (c m : UU) : Prop := ui c 0 9 = ui m 55 0 ∧ ul c 0 10 = ul m 55 1 ∧ ul c 0 11 = ul m 55 2
def RO (S : Nat → Option (List Int32)) (c m : UU) : Prop := ui c 1 0 = nI 40 ∧ shR (ui c 2) (ui c 3) 40 6 S ∧ shR (ui m 57) (ui m 58) 40 6 S
def TX (S : Nat → Option (List Int32)) (c m : UU) : Prop := ui c 4 0 = nI 60 ∧ shR (ui c 5) (ui c 6) 60 4 S ∧ shR (ui m 60) (ui m 61) 60 4 S
/-- all, but the findings, what was told, the rows -/
def IT (c m : UU) : Prop := ∃ n kd up lw dm w kp, TB n kd up lw dm w kp c m
def Inv (c m : UU) : Prop := FR c m ∧ TO c m ∧ (∃ S, RO S c m) ∧ (∃ S, TX S c m) ∧ IT c m
def Ok (x y : Option (Int32 × UU)) : Prop := ∃ a c m, x = some (a, c) ∧ y = some (a, m) ∧ Inv c m
def Oc (x : Option Int32) (y : Option Int32) : Prop := ∃ a, x = some a ∧ y = some a
/-- the parts of the state that the invariant doesn't speak of -/
def PC (k _j : Nat) : Prop := (7 ≤ k ∧ k ≤ 10) ∨ k = 52 ∨ k = 53
def PM (k j : Nat) : Prop := (k = 55 ∧ ((10 ≤ j ∧ j ≤ 13) ∨ (26 ≤ j ∧ j ≤ 29) ∨ j = 33)) ∨ k = 59 ∨ (62 ≤ k ∧ k ≤ 64) ∨ 72 ≤ k
def Fs (P : Nat → Nat → Prop) (u u' : UU) : Prop := (∀ k j, ¬ P k j → ui u' k j = ui u k j) ∧ ∀ k j, ¬ P k j → ul u' k j = ul u k j
theorem Fs.rf {P : Nat → Nat → Prop} {u : UU} : Fs P u u := ⟨fun _ _ _ => rfl, fun _ _ _ => rfl⟩
theorem Fs.tr {P : Nat → Nat → Prop} {u v w : UU} (h1 : Fs P u v) (h2 : Fs P v w) : Fs P u w := ⟨fun k j h => (h2.1 k j h).trans (h1.1 k j h), fun k j h => (h2.2 k j h).trans (h1.2 k j h)⟩
theorem Fs.si {P : Nat → Nat → Prop} {u : UU} {k j : Nat} {v : Int32} (h : P k j) : Fs P u (si u k j v) := ⟨fun a b hn => by
  rw [ui_si_r, if_neg]
  rintro ⟨rfl, rfl⟩
  exact hn h, fun _ _ _ => rfl⟩
theorem Fs.sl {P : Nat → Nat → Prop} {u : UU} {k j : Nat} {v : Int64} (h : P k j) : Fs P u (sl u k j v) := ⟨fun _ _ _ => rfl, fun a b hn => by
  rw [ul_sl_r, if_neg]
  rintro ⟨rfl, rfl⟩
  exact hn h⟩
theorem Fs.up {P P' : Nat → Nat → Prop} {u u' : UU} (h : Fs P u u') (hp : ∀ k j, P k j → P' k j) : Fs P' u u' := ⟨fun k j hn => h.1 k j (fun q => hn (hp k j q)), fun k j hn => h.2 k j (fun q => hn (hp k j q))⟩
theorem Fr.fs {ks : List Nat} {u u' : UU} {P : Nat → Nat → Prop} (h : Fr ks u u') (hp : ∀ k j, k ∈ ks → P k j) : Fs P u u' := ⟨fun k j hn => congrFun (h.1 k (fun q => hn (hp k j q))) j, fun k j hn => congrFun (h.2 k (fun q => hn (hp k j q))) j⟩
theorem shR.cong {sz ce sz' ce' : Nat → Int32} {pl nr : Nat} {S : Nat → Option (List Int32)} (h : shR sz ce pl nr S) (h1 : ∀ j, sz' j = sz j) (h2 : ∀ j, ce' j = ce j) : shR sz' ce' pl nr S := by
  rw [show sz' = sz from funext h1, show ce' = ce from funext h2]
  exact h
theorem Seq.cong {n : Nat} {up lw : Nat → Nat} {dm : Nat} {w : Nat → Nat → Nat} {a b s a' b' s' : Nat → Int32} (h : Seq n up lw dm w a b s) (h1 : ∀ j, a' j = a j) (h2 : ∀ j, b' j = b j) (h3 : ∀ j, s' j = s j) : Seq n up lw dm w a' b' s' := by
  rw [show a' = a from funext h1, show b' = b from funext h2, show s' = s from funext h3]
  exact h
theorem TC.cong {b n : Nat} {kd up lw : Nat → Nat} {dm : Nat} {w : Nat → Nat → Nat} {c c' : UU} (h : TC b n kd up lw dm w c) (e : ∀ k j, b ≤ k → k ≤ b + 9 → ui c' k j = ui c k j) : TC b n kd up lw dm w c' := by
  obtain ⟨h1, h2, h3, h4, h5, h6, h7⟩ := h
  refine ⟨?_, ?_, ?_, ?_, ?_, ?_, ?_⟩
  · rw [e _ _ (by omega) (by omega)]; exact h1
  · rw [e _ _ (by omega) (by omega)]; exact h2
  · rw [e _ _ (by omega) (by omega)]; exact h3
  · rw [e _ _ (by omega) (by omega)]; exact h4
  · intro d hd; rw [e _ _ (by omega) (by omega)]; exact h5 d hd
  · intro i hi
    rw [e _ _ (by omega) (by omega), e _ _ (by omega) (by omega), e _ _ (by omega) (by omega), e _ _ (by omega) (by omega), e _ _ (by omega) (by omega)]
    exact h6 i hi
  · exact h7.cong (fun j => e _ _ (by omega) (by omega)) (fun j => e _ _ (by omega) (by omega)) (fun j => e _ _ (by omega) (by omega))
theorem TM.cong {n : Nat} {kd up lw : Nat → Nat} {dm : Nat} {w : Nat → Nat → Nat} {kp : KP} {m m' : UU} (h : TM n kd up lw dm w kp m) (e17 : ui m' 55 17 = ui m 55 17) (e22 : ui m' 55 22 = ui m 55 22) (e : ∀ k j, 65 ≤ k → k ≤ 71 → ui m' k j = ui m k j) : TM n kd up lw dm w kp m' := by
  obtain ⟨h1, h2, h3, h4, h5, h6⟩ := h
  refine ⟨by rw [e17]; exact h1, by rw [e22]; exact h2, ?_, ?_, ?_, ?_⟩
  · intro i hi; rw [e _ _ (by omega) (by omega), e _ _ (by omega) (by omega), e _ _ (by omega) (by omega)]; exact h3 i hi
  · intro j hj; rw [e _ _ (by omega) (by omega)]; exact h4 j hj
  · intro k hk j hj; rw [e _ _ (by omega) (by omega)]; exact h5 k hk j hj
  · intro k hk
    refine ⟨fun q => by rw [e _ _ (by omega) (by omega)]; exact (h6 k hk).1 q, fun dk wk q => ?_⟩
    obtain ⟨g1, g2, g3⟩ := (h6 k hk).2 dk wk q
    refine ⟨by rw [e _ _ (by omega) (by omega)]; exact g1, fun j hj => by rw [e _ _ (by omega) (by omega)]; exact g2 j hj, fun i hi j hj => by rw [e _ _ (by omega) (by omega)]; exact g3 i hi j hj⟩
theorem IT.cong {c m c' m' : UU} (h : IT c m) (ec : ∀ k j, (11 ≤ k ∧ k ≤ 20) ∨ (22 ≤ k ∧ k ≤ 51) → ui c' k j = ui c k j) (e17 : ui m' 55 17 = ui m 55 17) (e22 : ui m' 55 22 = ui m 55 22) (em : ∀ k j, 65 ≤ k → k ≤ 71 → ui m' k j = ui m k j) : IT c' m' := by
  obtain ⟨n, kd, up, lw, dm, w, kp, h1, h2, h3, h4⟩ := h
  refine ⟨n, kd, up, lw, dm, w, kp, h1, h2.cong (fun k j a b => ec k j (by omega)), h3.cong e17 e22 em, fun k hk => ⟨fun q => by rw [ec _ _ (by omega)]; exact (h4 k hk).1 q, fun dk wk q => ⟨((h4 k hk).2 dk wk q).1, ((h4 k hk).2 dk wk q).2.cong (fun a j x y => ec a j (by omega))⟩⟩⟩
theorem Inv.fs {c m c' m' : UU} (h : Inv c m) (hc : Fs PC c c') (hm : Fs PM m m') : Inv c' m' := by
  obtain ⟨⟨f1, f2⟩, ⟨t1, t2, t3⟩, ⟨S, r1, r2, r3⟩, ⟨S', x1, x2, x3⟩, hI⟩ := h
  have ec : ∀ k j, ¬ PC k j → ui c' k j = ui c k j := hc.1
  have em : ∀ k j, ¬ PM k j → ui m' k j = ui m k j := hm.1
  refine ⟨⟨?_, fun j hj => ?_⟩, ⟨?_, ?_, ?_⟩, ⟨S, ?_, ?_, ?_⟩, ⟨S', ?_, ?_, ?_⟩, hI.cong ?_ ?_ ?_ ?_⟩
  · rw [ec _ _ (by unfold PC; omega), em _ _ (by unfold PM; omega)]; exact f1
  · rw [ec _ _ (by unfold PC; omega), em _ _ (by unfold PM; omega)]; exact f2 j hj
  · rw [ec _ _ (by unfold PC; omega), em _ _ (by unfold PM; omega)]; exact t1
  · rw [hc.2 _ _ (by unfold PC; omega), hm.2 _ _ (by unfold PM; omega)]; exact t2
  · rw [hc.2 _ _ (by unfold PC; omega), hm.2 _ _ (by unfold PM; omega)]; exact t3
  · rw [ec _ _ (by unfold PC; omega)]; exact r1
  · exact r2.cong (fun j => ec _ _ (by unfold PC; omega)) (fun j => ec _ _ (by unfold PC; omega))
  · exact r3.cong (fun j => em _ _ (by unfold PM; omega)) (fun j => em _ _ (by unfold PM; omega))
  · rw [ec _ _ (by unfold PC; omega)]; exact x1
  · exact x2.cong (fun j => ec _ _ (by unfold PC; omega)) (fun j => ec _ _ (by unfold PC; omega))
  · exact x3.cong (fun j => em _ _ (by unfold PM; omega)) (fun j => em _ _ (by unfold PM; omega))
  · exact fun k j hk => ec _ _ (by unfold PC; omega)
  · exact em _ _ (by unfold PM; omega)
  · exact em _ _ (by unfold PM; omega)
  · exact fun k j h1 h2 => em _ _ (by unfold PM; omega)
/-- the same, with other findings, other told numbers, other rows, other texts -/
theorem Inv.mk' {c m c' m' : UU} (h : Inv c m) (ec : ∀ k j, k ≠ 0 → k ≠ 54 → ¬ (1 ≤ k ∧ k ≤ 6) → ¬ PC k j → ui c' k j = ui c k j) (em : ∀ k j, ¬ (k = 55 ∧ (j = 0 ∨ j = 3)) → k ≠ 56 → ¬ (57 ≤ k ∧ k ≤ 61) → ¬ PM k j → ui m' k j = ui m k j) (hF : FR c' m') (hT : TO c' m') (hR : ∃ S, RO S c' m') (hX : ∃ S, TX S c' m') : Inv c' m' := by
  obtain ⟨-, -, -, -, hI⟩ := h
  refine ⟨hF, hT, hR, hX, hI.cong (fun k j hk => ec k j (by omega) (by omega) (by omega) (by unfold PC; omega)) (em _ _ (by omega) (by omega) (by omega) (by unfold PM; omega)) (em _ _ (by omega) (by omega) (by omega) (by unfold PM; omega)) (fun k j h1 h2 => em _ _ (by omega) (by omega) (by omega) (by unfold PM; omega))⟩
/-! findings, told numbers -/
def foC (c : UU) (f : Nat) : UU := si (si c 0 8 (nI f)) 54 f (ui c 54 f + 1)
def foM (m : UU) (f : Nat) : UU := si (si m 55 3 (nI f)) 56 f (ui m 56 f + 1)
theorem f_found {c : UU} {f : Nat} (h : f < 6) : f_X5_found (nI f) c = some (-3, foC c f) := by
  unfold f_X5_found
  rw [lt_eq, ix_n h (by omega), ix_n h (by omega), nI_clamp (by omega), lt_eq]
  rfl
theorem f_meets {m : UU} {f : Nat} (h : f < 6) : f_X6_meets (nI f) m = some (-3, foM m f) := by
  unfold f_X6_meets
  rw [lt_eq, ix_n h (by omega), ix_n h (by omega), nI_clamp (by omega), lt_eq]
  rfl
theorem Inv.found {c m : UU} (h : Inv c m) {f : Nat} (hf : f < 6) : Inv (foC c f) (foM m f) := by
  obtain ⟨⟨f1, f2⟩, ⟨t1, t2, t3⟩, ⟨S, r1, r2, r3⟩, ⟨S', x1, x2, x3⟩, hI⟩ := id h
  refine h.mk' (fun k j h1 h2 h3 h4 => ?_) (fun k j h1 h2 h3 h4 => ?_) ⟨?_, fun j hj => ?_⟩ ⟨?_, t2, t3⟩ ⟨S, ?_, ?_, ?_⟩ ⟨S', ?_, ?_, ?_⟩
  · simp [foC, ui_si_r, h1, h2]
  · simp only [foM, ui_si_r]; rw [if_neg (by omega), if_neg (by omega)]
  · simp [foC, foM, ui_si_r]
  · simp only [foC, foM, ui_si_r]
    by_cases q : j = f
    · subst q; simp [f2 j hj]
    · simp [q, f2 j hj]
  · simp [foC, foM, ui_si_r, t1]
  · simp [foC, ui_si_r, r1]
  · exact r2.cong (fun j => by simp [foC, ui_si_r]) (fun j => by simp [foC, ui_si_r])
  · exact r3.cong (fun j => by simp [foM, ui_si_r]) (fun j => by simp [foM, ui_si_r])
  · simp [foC, ui_si_r, x1]
  · exact x2.cong (fun j => by simp [foC, ui_si_r]) (fun j => by simp [foC, ui_si_r])
  · exact x3.cong (fun j => by simp [foM, ui_si_r]) (fun j => by simp [foM, ui_si_r])
theorem Inv.told {c m : UU} (h : Inv c m) (v : Int32) : Inv (si c 0 9 v) (si m 55 0 v) := by
  obtain ⟨⟨f1, f2⟩, ⟨t1, t2, t3⟩, ⟨S, r1, r2, r3⟩, ⟨S', x1, x2, x3⟩, hI⟩ := id h
  refine h.mk' (fun k j h1 h2 h3 h4 => ?_) (fun k j h1 h2 h3 h4 => ?_) ⟨?_, fun j hj => ?_⟩ ⟨?_, t2, t3⟩ ⟨S, ?_, ?_, ?_⟩ ⟨S', ?_, ?_, ?_⟩
  · simp [ui_si_r, h1]
  · rw [ui_si_r, if_neg (by omega)]
  · simp [ui_si_r, f1]
  · simp [ui_si_r, f2 j hj]
  · simp [ui_si_r]
  · simp [ui_si_r, r1]
  · exact r2.cong (fun j => by simp [ui_si_r]) (fun j => by simp [ui_si_r])
  · exact r3.cong (fun j => by simp [ui_si_r]) (fun j => by simp [ui_si_r])
  · simp [ui_si_r, x1]
  · exact x2.cong (fun j => by simp [ui_si_r]) (fun j => by simp [ui_si_r])
  · exact x3.cong (fun j => by simp [ui_si_r]) (fun j => by simp [ui_si_r])
theorem Ok.same {c m : UU} (h : Inv c m) (a : Int32) : Ok (some (a, c)) (some (a, m)) := ⟨a, c, m, rfl, rfl, h⟩
theorem Ok.found {c m : UU} (h : Inv c m) {f : Nat} (hf : f < 6) : Ok (some (-3, foC c f)) (some (-3, foM m f)) := ⟨_, _, _, rfl, rfl, h.found hf⟩
theorem Ok.told {c m : UU} (h : Inv c m) (a v : Int32) : Ok (some (a, si c 0 9 v)) (some (a, si m 55 0 v)) := ⟨_, _, _, rfl, rfl, h.told v⟩
