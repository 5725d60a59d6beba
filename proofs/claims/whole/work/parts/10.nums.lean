/-! numbers and the pure words -/
theorem ui_si_r (u : UU) (k j : Nat) (v : Int32) (a b : Nat) : ui (si u k j v) a b = if a = k ∧ b = j then v else ui u a b := rfl
theorem ul_si_r (u : UU) (k j : Nat) (v : Int32) (a b : Nat) : ul (si u k j v) a b = ul u a b := rfl
theorem ui_sl_r (u : UU) (k j : Nat) (v : Int64) (a b : Nat) : ui (sl u k j v) a b = ui u a b := rfl
theorem ul_sl_r (u : UU) (k j : Nat) (v : Int64) (a b : Nat) : ul (sl u k j v) a b = if a = k ∧ b = j then v else ul u a b := rfl
theorem ui_sc_r (u : UU) (k0 sp k1 dp n a b : Nat) : ui (sc u k0 sp k1 dp n) a b = if a = k1 ∧ dp ≤ b ∧ b < dp + n then ui u k0 (sp + (b - dp)) else ui u a b := rfl
theorem ul_sc_r (u : UU) (k0 sp k1 dp n a b : Nat) : ul (sc u k0 sp k1 dp n) a b = ul u a b := rfl
theorem ix_ok {α : Type} {i : Int32} {n : Nat} {x : Option α} (h : vp_in i n) : ix i n x = x := if_neg h
theorem ix_n {α : Type} {j n : Nat} {x : Option α} (h : j < n) (hn : n < 2 ^ 31) : ix (nI j) n x = x := if_neg (nI_in h hn)
theorem nz_ok {α : Type} {y : Int32} {x : Option α} (h : ¬ y = 0) : nz y x = x := if_neg h
theorem nzl_ok {α : Type} {y : Int64} {x : Option α} (h : ¬ y = 0) : nzl y x = x := if_neg h
theorem bz_0 {α : Type} {x : Option α} : bz 0 x = x := if_pos (Or.inl rfl)
theorem bz_1 {α : Type} {x : Option α} : bz 1 x = x := if_pos (Or.inr rfl)
theorem bz_ok {α : Type} {v : Int32} {x : Option α} (h : v = 0 ∨ v = 1) : bz v x = x := if_pos h
theorem lt_eq {α β : Type} (e : α) (f : α → β) : lt e f = f e := rfl
theorem nI_lit (n : Nat) : nI n = (OfNat.ofNat n : Int32) := rfl
theorem i_lt {x y : Int32} : x < y ↔ x.toInt < y.toInt := Int32.lt_iff_toInt_lt
theorem i_le {x y : Int32} : x ≤ y ↔ x.toInt ≤ y.toInt := Int32.le_iff_toInt_le
theorem i_eq {x y : Int32} : x = y ↔ x.toInt = y.toInt := Int32.toInt_inj.symm
theorem i_rng (x : Int32) : -2147483648 ≤ x.toInt ∧ x.toInt ≤ 2147483647 := ⟨Int32.le_toInt x, by have := Int32.toInt_lt x; omega⟩
theorem l_lt {x y : Int64} : x < y ↔ x.toInt < y.toInt := Int64.lt_iff_toInt_lt
theorem l_le {x y : Int64} : x ≤ y ↔ x.toInt ≤ y.toInt := Int64.le_iff_toInt_le
theorem l_eq {x y : Int64} : x = y ↔ x.toInt = y.toInt := Int64.toInt_inj.symm
theorem l_i (x : Int32) : x.toInt64.toInt = x.toInt := Int32.toInt_toInt64 x
theorem bm32 {a : Int} (h1 : -2147483648 ≤ a) (h2 : a ≤ 2147483647) : a.bmod 4294967296 = a := by
  rw [Int.bmod_def]
  omega
theorem bm64 {a : Int} (h1 : -9223372036854775808 ≤ a) (h2 : a ≤ 9223372036854775807) : a.bmod 18446744073709551616 = a := by
  rw [Int.bmod_def]
  omega
theorem i_add {x y : Int32} (h1 : -2147483648 ≤ x.toInt + y.toInt) (h2 : x.toInt + y.toInt ≤ 2147483647) : (x + y).toInt = x.toInt + y.toInt := by
  rw [Int32.toInt_add]; exact bm32 h1 h2
theorem i_sub {x y : Int32} (h1 : -2147483648 ≤ x.toInt - y.toInt) (h2 : x.toInt - y.toInt ≤ 2147483647) : (x - y).toInt = x.toInt - y.toInt := by
  rw [Int32.toInt_sub]; exact bm32 h1 h2
theorem i_mul {x y : Int32} (h1 : -2147483648 ≤ x.toInt * y.toInt) (h2 : x.toInt * y.toInt ≤ 2147483647) : (x * y).toInt = x.toInt * y.toInt := by
  rw [Int32.toInt_mul]; exact bm32 h1 h2
theorem l_add {x y : Int64} (h1 : -9223372036854775808 ≤ x.toInt + y.toInt) (h2 : x.toInt + y.toInt ≤ 9223372036854775807) : (x + y).toInt = x.toInt + y.toInt := by
  rw [Int64.toInt_add]; exact bm64 h1 h2
theorem cmp_lt {x y : Int64} : lg_cmp x y < 0 ↔ x.toInt < y.toInt := by
  unfold lg_cmp
  by_cases h : x > y
  · rw [if_pos h]
    have : y.toInt < x.toInt := l_lt.mp h
    constructor
    · intro q; exact absurd q (by decide)
    · intro q; omega
  · rw [if_neg h]
    by_cases h2 : x = y
    · rw [if_pos h2, h2]
      constructor
      · intro q; exact absurd q (by decide)
      · intro q; omega
    · rw [if_neg h2]
      have h3 : ¬ y.toInt < x.toInt := fun q => h (l_lt.mpr q)
      have h4 : ¬ x.toInt = y.toInt := fun q => h2 (l_eq.mpr q)
      constructor
      · intro _; omega
      · intro _; decide
theorem cmp_gt {x y : Int64} : 0 < lg_cmp x y ↔ y.toInt < x.toInt := by
  unfold lg_cmp
  by_cases h : x > y
  · rw [if_pos h]
    have : y.toInt < x.toInt := l_lt.mp h
    exact ⟨fun _ => this, fun _ => by decide⟩
  · rw [if_neg h]
    have h3 : ¬ y.toInt < x.toInt := fun q => h (l_lt.mpr q)
    by_cases h2 : x = y
    · rw [if_pos h2]
      exact ⟨fun q => absurd q (by decide), fun q => absurd q h3⟩
    · rw [if_neg h2]
      exact ⟨fun q => absurd q (by decide), fun q => absurd q h3⟩
theorem cmp_eq {x y : Int64} : lg_cmp x y = 0 ↔ x = y := by
  unfold lg_cmp
  by_cases h : x > y
  · rw [if_pos h]
    constructor
    · intro q; exact absurd q (by decide)
    · intro q; rw [q] at h; exact absurd (l_lt.mp h) (by omega)
  · rw [if_neg h]
    by_cases h2 : x = y
    · rw [if_pos h2]; exact ⟨fun _ => h2, fun _ => rfl⟩
    · rw [if_neg h2]; exact ⟨fun q => absurd q (by decide), fun q => absurd q h2⟩
/-- an int is below, above, or one of n -/
theorem i_cases (x : Int32) {n : Nat} (hn : n < 2 ^ 31) : (x < 0 ∨ nI n ≤ x) ∨ ∃ j : Nat, j < n ∧ x = nI j := by
  rcases pk_ix x hn with h | h | h
  · exact Or.inl (Or.inl h)
  · exact Or.inl (Or.inr h)
  · exact Or.inr h
/-! the shelves -/
def szI (o : Option (List Int32)) : Int32 := match o with
  | none => -1
  | some l => nI l.length
/-- rows of numbers as sizes and places -/
def shR (sz ce : Nat → Int32) (pl nr : Nat) (S : Nat → Option (List Int32)) : Prop :=
  ∀ r, r < nr → sz r = szI (S r) ∧ ∀ l, S r = some l → l.length ≤ pl ∧ ∀ i, i < l.length → ce (pl * r + i) = l.getD i 0
def upS (S : Nat → Option (List Int32)) (r : Nat) (o : Option (List Int32)) : Nat → Option (List Int32) := fun k => if k = r then o else S k
theorem szI_neg {n : Nat} (h : n ≤ 100) : ¬ nI n = -1 := by
  intro q
  have := i_eq.mp q
  rw [nI_toInt (by omega)] at this
  simp at this
section SH
variable {b nr : Nat} {u : UU}
theorem s_isNum_out {x : Int32} (h : x < 0 ∨ nI nr ≤ x) : f_X3_isNumber b nr x u = some 0 := by
  unfold f_X3_isNumber
  by_cases h1 : x < 0
  · rw [if_pos h1]
  · rw [if_neg h1, if_pos (show Int32.ofNat nr ≤ x from h.resolve_left h1)]
theorem s_isNum_in {j : Nat} (h : j < nr) (hn : nr < 2 ^ 31) : f_X3_isNumber b nr (nI j) u = some 1 := by
  unfold f_X3_isNumber
  rw [if_neg (nI_pos (by omega)), if_neg (show ¬ Int32.ofNat nr ≤ nI j from nI_ge h hn)]
theorem s_size_out {x : Int32} (h : x < 0 ∨ nI nr ≤ x) : f_X3_sizeOf b nr x u = some (-1) := by
  unfold f_X3_sizeOf
  rw [s_isNum_out h]
  rfl
theorem s_size_in {j : Nat} (h : j < nr) (hn : nr < 2 ^ 31) : f_X3_sizeOf b nr (nI j) u = some (ui u (b + 1) j) := by
  unfold f_X3_sizeOf
  rw [s_isNum_in h hn]
  show ix (nI j) nr _ = _
  rw [ix_n h hn, nI_clamp (by omega)]
theorem s_there_in {j : Nat} (h : j < nr) (hn : nr < 2 ^ 31) : f_X3_isThere b nr (nI j) u = some (if ui u (b + 1) j = -1 then 0 else 1) := by
  unfold f_X3_isThere
  rw [s_size_in h hn]
  show (if _ then _ else _) = _
  split <;> rfl
end SH
/-! what a piece of the code leaves as it was -/
def Fr (ks : List Nat) (u u' : UU) : Prop := (∀ k, k ∉ ks → ui u' k = ui u k) ∧ ∀ k, k ∉ ks → ul u' k = ul u k
theorem Fr.rf {ks : List Nat} {u : UU} : Fr ks u u := ⟨fun _ _ => rfl, fun _ _ => rfl⟩
theorem Fr.tr {ks : List Nat} {u v w : UU} (h1 : Fr ks u v) (h2 : Fr ks v w) : Fr ks u w := ⟨fun k hk => (h2.1 k hk).trans (h1.1 k hk), fun k hk => (h2.2 k hk).trans (h1.2 k hk)⟩
theorem Fr.si {ks : List Nat} {u : UU} {k j : Nat} {v : Int32} (h : k ∈ ks) : Fr ks u (si u k j v) := ⟨fun a ha => ui_si_ne (fun e => ha (e ▸ h)), fun _ _ => rfl⟩
theorem Fr.sl {ks : List Nat} {u : UU} {k j : Nat} {v : Int64} (h : k ∈ ks) : Fr ks u (sl u k j v) := ⟨fun _ _ => rfl, fun a ha => ul_sl_ne (fun e => ha (e ▸ h))⟩
theorem Fr.sc {ks : List Nat} {u : UU} {k0 sp k1 dp n : Nat} (h : k1 ∈ ks) : Fr ks u (sc u k0 sp k1 dp n) := ⟨fun a ha => ui_sc_ne (fun e => ha (e ▸ h)), fun _ _ => rfl⟩
theorem Fr.up {ks ks' : List Nat} {u u' : UU} (h : Fr ks u u') (hs : ∀ k, k ∈ ks → k ∈ ks') : Fr ks' u u' := ⟨fun k hk => h.1 k (fun q => hk (hs k q)), fun k hk => h.2 k (fun q => hk (hs k q))⟩
theorem nI_mulA {pl j i : Nat} : nI j * nI pl + nI i = nI (pl * j + i) := by rw [pk_mul, nI_add, Nat.mul_comm]
theorem nI_mulB {pl j i : Nat} : nI pl * nI j + nI i = nI (pl * j + i) := by rw [pk_mul, nI_add]
/-! the shelves: make -/
section SH2
variable {b nr pl : Nat}
theorem s_make_loop (hpl : pl ≤ 60) (hnr : nr ≤ 6) (hc : nr * pl ≤ 240) {j m : Nat} (hj : j < nr) (hm : m ≤ pl) (x : Int32) : ∀ (n i : Nat) (u : UU), i ≤ m → m + 1 ≤ i + n → ui u b 0 = nI pl → ∃ u', f_X3_make_31 b nr n (nI j) (nI m) x (nI i) u = some u' ∧ Fr [b + 2] u u' ∧ ∀ k, ui u' (b + 2) k = if pl * j + i ≤ k ∧ k < pl * j + m then x else ui u (b + 2) k := by
  intro n
  induction n with
  | zero => intro i u h1 h2; omega
  | succ n ih =>
    intro i u h1 h2 hp
    rw [f_X3_make_31]
    by_cases he : i = m
    · subst he
      rw [if_pos (nI_le (Nat.le_refl _) (by omega))]
      exact ⟨u, rfl, Fr.rf, fun k => by rw [if_neg (by omega)]⟩
    · rw [if_neg (nI_ge (by omega) (by omega)), hp, nI_mulA]
      have hk : pl * j + i < 240 := by
        have : pl * j + pl ≤ nr * pl := by
          rw [Nat.mul_comm nr pl, ← Nat.mul_succ]
          exact Nat.mul_le_mul_left pl hj
        omega
      rw [ix_n hk (by omega), nI_clamp (by omega), lt_eq, lt_eq, nI_1]
      obtain ⟨u', e1, e2, e3⟩ := ih (i + 1) (si u (b + 2) (pl * j + i) x) (by omega) (by omega) (by rw [ui_si_r, if_neg (by omega)]; exact hp)
      refine ⟨u', e1, Fr.tr (Fr.si (List.mem_singleton.mpr rfl)) e2, fun k => ?_⟩
      rw [e3, ui_si_r]
      by_cases h : pl * j + i = k
      · subst h
        rw [if_neg (by omega), if_pos ⟨rfl, rfl⟩, if_pos (by omega)]
      · by_cases h3 : pl * j + (i + 1) ≤ k ∧ k < pl * j + m
        · rw [if_pos h3, if_pos (by omega)]
        · rw [if_neg h3, if_neg (fun q => h q.2.symm), if_neg (by omega)]
theorem s_make {u : UU} (hpl : pl ≤ 60) (hnr : nr ≤ 6) (hc : nr * pl ≤ 240) (hp : ui u b 0 = nI pl) {j m : Nat} (hj : j < nr) (hm : m ≤ pl) (x : Int32) : ∃ u', f_X3_make b nr (nI j) (nI m) x u = some u' ∧ Fr [b + 1, b + 2] u u' ∧ ui u' (b + 1) = upd (ui u (b + 1)) j (nI m) ∧ ∀ k, ui u' (b + 2) k = if pl * j ≤ k ∧ k < pl * j + m then x else ui u (b + 2) k := by
  unfold f_X3_make
  rw [s_isNum_in hj (by omega)]
  show ∃ u', (if (1 : Int32) = 0 then some u else _) = some u' ∧ _
  rw [if_neg (by decide), if_neg (nI_pos (by omega)), hp, if_pos (nI_le hm (by omega)), ix_n hj (by omega), nI_clamp (by omega), lt_eq]
  obtain ⟨u', e1, e2, e3⟩ := s_make_loop (b := b) hpl hnr hc hj hm x fu 0 (si u (b + 1) j (nI m)) (Nat.zero_le _) (by unfold fu; omega) (by rw [ui_si_r, if_neg (by omega)]; exact hp)
  refine ⟨u', e1, Fr.tr (Fr.si (by simp)) (e2.up (by simp)), ?_, fun k => ?_⟩
  · rw [e2.1 _ (by simp), ui_si]
  · rw [e3, ui_si_r]
    simp
end SH2
