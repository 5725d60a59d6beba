theorem m1_neg : ¬ (0 : Int32) ≤ -1 := by decide
theorem nI_ge0 {n : Nat} (h : n < 2 ^ 31) : (0 : Int32) ≤ nI n := nI_pos' h
theorem in_sz_out {x : Int32} {n : Nat} (hn : n < 1000) (h : x < 0 ∨ nI n ≤ x) : f_X6_in x 0 (nI n - 1) = 0 := by
  cases n with
  | zero =>
    apply in_0
    by_cases h1 : x < 0
    · exact Or.inl h1
    · right
      have : ¬ x.toInt < 0 := fun q => h1 (i_lt.mpr q)
      rw [i_lt]
      show (-1 : Int) < x.toInt
      omega
  | succ n => rw [nI_pred]; exact in_out (by omega) h
theorem in_sz_in {i n : Nat} (hn : n < 1000) (h : i < n) : f_X6_in (nI i) 0 (nI n - 1) = 1 := by
  cases n with
  | zero => omega
  | succ n => rw [nI_pred]; exact in_in (by omega) (by omega)
section SP
variable {b nr pl : Nat} {u : UU}
theorem s_miss_out {x : Int32} (h : x < 0 ∨ nI nr ≤ x) : f_X5_refuseMissing b nr x u = some (-1, u) := by
  unfold f_X5_refuseMissing
  rw [s_isNum_out h, bd_some, if_pos t00]
theorem s_miss_none {j : Nat} (hj : j < nr) (hn : nr < 2 ^ 31) (hs : ui u (b + 1) j = -1) : f_X5_refuseMissing b nr (nI j) u = some (-3, foC u 1) := by
  unfold f_X5_refuseMissing
  rw [s_isNum_in hj hn, bd_some, if_neg n10, s_there_in hj hn, hs, if_pos rfl, bd_some, if_pos t00, show (1 : Int32) = nI 1 from rfl, f_found (by omega)]
  rfl
theorem s_miss_some {j n : Nat} (hj : j < nr) (hn : nr < 2 ^ 31) (hn2 : n ≤ 100) (hs : ui u (b + 1) j = nI n) : f_X5_refuseMissing b nr (nI j) u = some (0, u) := by
  unfold f_X5_refuseMissing
  rw [s_isNum_in hj hn, bd_some, if_neg n10, s_there_in hj hn, hs, if_neg (szI_neg hn2), bd_some, if_neg n10]
theorem s_hasP_out {j n : Nat} {x : Int32} (hj : j < nr) (hn : nr < 2 ^ 31) (hs : ui u (b + 1) j = nI n) (h : x < 0 ∨ nI n ≤ x) : f_X3_hasPlace b nr (nI j) x u = some 0 := by
  unfold f_X3_hasPlace
  rw [s_isNum_in hj hn, bd_some, if_neg n10]
  by_cases h1 : x < 0
  · rw [if_pos h1]
  · rw [if_neg h1, ix_n hj hn, nI_clamp (by omega), hs, if_pos (h.resolve_left h1)]
theorem s_hasP_in {j n i : Nat} (hj : j < nr) (hn : nr < 2 ^ 31) (hn2 : n ≤ 100) (hs : ui u (b + 1) j = nI n) (hi : i < n) : f_X3_hasPlace b nr (nI j) (nI i) u = some 1 := by
  unfold f_X3_hasPlace
  rw [s_isNum_in hj hn, bd_some, if_neg n10, if_neg (nI_pos (by omega)), ix_n hj hn, nI_clamp (by omega), hs, if_neg (nI_ge hi (by omega))]
theorem s_place_out {x y : Int32} (h : x < 0 ∨ nI nr ≤ x) : f_X5_refusePlace b nr x y u = some (-1, u) := by
  unfold f_X5_refusePlace
  rw [s_miss_out h, bd_some]
  rfl
theorem s_place_none {j : Nat} {y : Int32} (hj : j < nr) (hn : nr < 2 ^ 31) (hs : ui u (b + 1) j = -1) : f_X5_refusePlace b nr (nI j) y u = some (-3, foC u 1) := by
  unfold f_X5_refusePlace
  rw [s_miss_none hj hn hs, bd_some]
  rfl
theorem s_place_bey {j n : Nat} {y : Int32} (hj : j < nr) (hn : nr < 2 ^ 31) (hn2 : n ≤ 100) (hs : ui u (b + 1) j = nI n) (h : y < 0 ∨ nI n ≤ y) : f_X5_refusePlace b nr (nI j) y u = some (-3, foC u 2) := by
  unfold f_X5_refusePlace
  rw [s_miss_some hj hn hn2 hs, bd_some, if_pos t00, s_hasP_out hj hn hs h, bd_some, if_pos t00, show (2 : Int32) = nI 2 from rfl, f_found (by omega)]
  rfl
theorem s_place_in {j n i : Nat} (hj : j < nr) (hn : nr < 2 ^ 31) (hn2 : n ≤ 100) (hs : ui u (b + 1) j = nI n) (hi : i < n) : f_X5_refusePlace b nr (nI j) (nI i) u = some (0, u) := by
  unfold f_X5_refusePlace
  rw [s_miss_some hj hn hn2 hs, bd_some, if_pos t00, s_hasP_in hj hn hn2 hs hi, bd_some, if_neg n10]
theorem pl_in {j i : Nat} (hc : nr * pl ≤ 240) (hj : j < nr) (hi : i < pl) : pl * j + i < 240 := by
  have : pl * j + pl ≤ nr * pl := by
    rw [Nat.mul_comm nr pl, ← Nat.mul_succ]
    exact Nat.mul_le_mul_left pl hj
  omega
theorem s_read {j n i : Nat} (hj : j < nr) (hn : nr < 2 ^ 31) (hc : nr * pl ≤ 240) (hn2 : n ≤ pl) (hp2 : pl ≤ 100) (hp : ui u b 0 = nI pl) (hs : ui u (b + 1) j = nI n) (hi : i < n) : f_X3_read b nr (nI j) (nI i) u = some (ui u (b + 2) (pl * j + i)) := by
  have hk := pl_in hc hj (show i < pl by omega)
  unfold f_X3_read
  rw [s_hasP_in hj hn (by omega) hs hi, bd_some, if_neg n10, hp, nI_mulA, ix_n hk (by omega), nI_clamp (by omega)]
theorem s_read_out {j n : Nat} {x : Int32} (hj : j < nr) (hn : nr < 2 ^ 31) (hs : ui u (b + 1) j = nI n) (h : x < 0 ∨ nI n ≤ x) : f_X3_read b nr (nI j) x u = some 0 := by
  unfold f_X3_read
  rw [s_hasP_out hj hn hs h, bd_some, if_pos t00]
theorem s_write {j n i : Nat} {v : Int32} (hj : j < nr) (hn : nr < 2 ^ 31) (hc : nr * pl ≤ 240) (hn2 : n ≤ pl) (hp2 : pl ≤ 100) (hp : ui u b 0 = nI pl) (hs : ui u (b + 1) j = nI n) (hi : i < n) : f_X3_write b nr (nI j) (nI i) v u = some (si u (b + 2) (pl * j + i) v) := by
  have hk := pl_in hc hj (show i < pl by omega)
  unfold f_X3_write
  rw [s_hasP_in hj hn (by omega) hs hi, bd_some, if_neg n10, hp, nI_mulA, ix_n hk (by omega), nI_clamp (by omega), lt_eq]
theorem s_drop {j : Nat} (hj : j < nr) (hn : nr < 2 ^ 31) : f_X3_drop b nr (nI j) u = some (si u (b + 1) j (-1)) := by
  unfold f_X3_drop
  rw [s_isNum_in hj hn, bd_some, if_neg n10, ix_n hj hn, nI_clamp (by omega), lt_eq]
end SP
theorem m_rowAt {j i : Nat} {u : UU} (hj : j < 6) (hi : i < 40) : f_X6_rowAt (nI j) (nI i) u = some (ui u 58 (40 * j + i)) := by
  unfold f_X6_rowAt
  rw [show (40 : Int32) * nI j + nI i = nI (40 * j + i) from nI_mulB, ix_n (by omega) (by omega), nI_clamp (by omega)]
theorem m_tells {a v : Int32} {u : UU} : f_X6_tells v a u = some (a, si u 55 0 v) := rfl
theorem lset_getD {l : List Int32} {i k : Nat} {v : Int32} (h : i < l.length) : (l.set i v).getD k 0 = if k = i then v else l.getD k 0 := by
  by_cases e : k = i
  · subst e; simp [List.getD, h]
  · simp [List.getD, List.getElem?_set, e, Ne.symm e]
theorem shR.lay {sz ce ce' : Nat → Int32} {pl nr : Nat} {S : Nat → Option (List Int32)} (h : shR sz ce pl nr S) {r i : Nat} {l : List Int32} {v : Int32} (hr : r < nr) (hS : S r = some l) (hi : i < l.length) (h3 : ∀ k, ce' k = if k = pl * r + i then v else ce k) : shR sz ce' pl nr (upS S r (some (l.set i v))) := by
  obtain ⟨g0, g1⟩ := h r hr
  obtain ⟨g1, g2⟩ := g1 l hS
  refine h.put (by simpa using g1) (fun k => ?_) (fun k hk => ?_) (fun k hk => ?_)
  · unfold upd
    by_cases e : k = r
    · subst e; rw [if_pos rfl, g0, hS]; simp [szI]
    · rw [if_neg e]
  · have hk : k < l.length := by simpa using hk
    rw [h3, lset_getD hi]
    by_cases e : k = i
    · rw [if_pos (by omega), if_pos e]
    · rw [if_neg (by omega), if_neg e]; exact g2 k hk
  · rw [h3, if_neg (by omega)]
theorem bp_neg {a : Int32} {u : UU} {A : Int32 × UU → Option (Int32 × UU)} (h : ¬ a = 0) : (some (a, u)).bind (fun (q : Int32 × UU) => if q.1 = 0 then A q else some (q.1, q.2)) = some (a, u) := if_neg h
theorem bp_zero {u : UU} {A : Int32 × UU → Option (Int32 × UU)} : (some ((0 : Int32), u)).bind (fun (q : Int32 × UU) => if q.1 = 0 then A q else some (q.1, q.2)) = A (0, u) := by
  show (if (0 : Int32) = 0 then A (0, u) else some (0, u)) = _
  exact if_pos rfl
theorem nm1 : ¬ (-1 : Int32) = 0 := by decide
theorem nm3 : ¬ (-3 : Int32) = 0 := by decide
theorem si_comm {u : UU} {k j k' j' : Nat} {v v' : Int32} (h : ¬ (k = k' ∧ j = j')) : si (si u k j v) k' j' v' = si (si u k' j' v') k j v := by
  refine Prod.ext ?_ rfl
  funext a b
  show (if a = k' ∧ b = j' then v' else if a = k ∧ b = j then v else u.1 a b) = (if a = k ∧ b = j then v else if a = k' ∧ b = j' then v' else u.1 a b)
  by_cases q1 : a = k ∧ b = j
  · rw [if_neg (fun q2 => h ⟨q1.1.symm.trans q2.1, q1.2.symm.trans q2.2⟩), if_pos q1, if_pos q1]
  · rw [if_neg q1, if_neg q1]
theorem op_lay {c m : UU} (h : Inv c m) (r i v : Int32) : Ok (f_X5_lay r i v c) (f_X6_lay r i v m) := by
  unfold f_X5_lay f_X6_lay
  rcases i_cases r (n := 6) (by omega) with hr | ⟨j, hj, rfl⟩
  · rw [s_place_out hr, row_out hr, bp_neg nm1, if_pos t00]
    exact Ok.same h _
  · obtain ⟨-, -, ⟨S, r1, r2, r3⟩, -, -⟩ := id h
    obtain ⟨a1, a2⟩ := r2 j hj
    obtain ⟨b1, b2⟩ := r3 j hj
    rw [row_in hj, if_neg n10, ix_n hj (by omega), nI_clamp (by omega), b1]
    cases hS : S j with
    | none =>
      rw [hS] at a1
      rw [s_place_none hj (by omega) a1, bp_neg nm3, szI_none, if_neg m1_neg, show (1 : Int32) = nI 1 from rfl, f_meets (by omega)]
      exact Ok.found h (by omega)
    | some l =>
      rw [hS] at a1
      obtain ⟨a3, a4⟩ := a2 l hS
      obtain ⟨b3, b4⟩ := b2 l hS
      rw [szI_some, if_pos (nI_ge0 (by omega)), ix_n hj (by omega)]
      rcases i_cases i (n := l.length) (by omega) with hi | ⟨k, hk, rfl⟩
      · rw [s_place_bey hj (by omega) (by omega) a1 hi, bp_neg nm3, in_sz_out (by omega) hi, if_pos t00, show (2 : Int32) = nI 2 from rfl, f_meets (by omega)]
        exact Ok.found h (by omega)
      · rw [s_place_in hj (by omega) (by omega) a1 hk, bp_zero]
        dsimp only
        rw [s_read (pl := 40) hj (by omega) (by omega) a3 (by omega) r1 a1 hk, bd_some, lt_eq, s_write (pl := 40) (n := l.length) hj (by omega) (by omega) a3 (by omega) (by rw [ui_si_r, if_neg (by omega)]; exact r1) (by rw [ui_si_r, if_neg (by omega)]; exact a1) hk, bd_some, in_sz_in (by omega) hk, if_neg n10, m_rowAt hj (by omega), bd_some, show (40 : Int32) * nI j + nI k = nI (40 * j + k) from nI_mulB, ix_n (by omega) (by omega), nI_clamp (by omega), lt_eq, m_tells, bd_some, b4 k hk, a4 k hk]
        refine ⟨1, _, _, rfl, rfl, ?_⟩
        refine (h.told (l.getD k 0)).rows (Fs.si (by omega)) ?_ (S := upS S j (some (l.set k v))) ?_ ?_
        · rw [si_comm (by omega)]
          exact Fs.si (by omega)
        · refine shR.lay (sz := ui (si (si c 0 9 (l.getD k 0)) 3 (40 * j + k) v) 2) (ce := ui c 3) ?_ hj hS hk (fun q => ?_)
          · exact r2.cong (fun q => by simp [ui_si_r]) (fun q => rfl)
          · rw [ui_si_r, ui_si_r]
            by_cases e : q = 40 * j + k
            · rw [if_pos ⟨rfl, e⟩, if_pos e]
            · rw [if_neg (fun z => e z.2), if_neg (by omega), if_neg e]
        · refine shR.lay (ce := ui m 58) ?_ hj hS hk (fun q => ?_)
          · exact r3.cong (fun q => by simp [ui_si_r]) (fun q => rfl)
          · rw [ui_si_r, ui_si_r]
            rw [if_neg (by omega)]
            by_cases e : q = 40 * j + k
            · rw [if_pos ⟨rfl, e⟩, if_pos e]
            · rw [if_neg (fun z => e z.2), if_neg e]
theorem op_at {c m : UU} (h : Inv c m) (r i : Int32) : Ok (f_X5_at r i c) (f_X6_at r i m) := by
  unfold f_X5_at f_X6_at
  rcases i_cases r (n := 6) (by omega) with hr | ⟨j, hj, rfl⟩
  · rw [s_place_out hr, row_out hr, bp_neg nm1, if_pos t00]
    exact Ok.same h _
  · obtain ⟨-, -, ⟨S, r1, r2, r3⟩, -, -⟩ := id h
    obtain ⟨a1, a2⟩ := r2 j hj
    obtain ⟨b1, b2⟩ := r3 j hj
    rw [row_in hj, if_neg n10, ix_n hj (by omega), nI_clamp (by omega), b1]
    cases hS : S j with
    | none =>
      rw [hS] at a1
      rw [s_place_none hj (by omega) a1, bp_neg nm3, szI_none, if_neg m1_neg, show (1 : Int32) = nI 1 from rfl, f_meets (by omega)]
      exact Ok.found h (by omega)
    | some l =>
      rw [hS] at a1
      obtain ⟨a3, a4⟩ := a2 l hS
      obtain ⟨b3, b4⟩ := b2 l hS
      rw [szI_some, if_pos (nI_ge0 (by omega)), ix_n hj (by omega)]
      rcases i_cases i (n := l.length) (by omega) with hi | ⟨k, hk, rfl⟩
      · rw [s_place_bey hj (by omega) (by omega) a1 hi, bp_neg nm3, in_sz_out (by omega) hi, if_pos t00, show (2 : Int32) = nI 2 from rfl, f_meets (by omega)]
        exact Ok.found h (by omega)
      · rw [s_place_in hj (by omega) (by omega) a1 hk, bp_zero]
        dsimp only
        rw [s_read (pl := 40) hj (by omega) (by omega) a3 (by omega) r1 a1 hk, bd_some, lt_eq, in_sz_in (by omega) hk, if_neg n10, m_rowAt hj (by omega), bd_some, m_tells, bd_some, b4 k hk, a4 k hk]
        exact Ok.told h _ _
theorem op_tear {c m : UU} (h : Inv c m) (r : Int32) : Ok (f_X5_tear r c) (f_X6_tear r m) := by
  unfold f_X5_tear f_X6_tear
  rcases i_cases r (n := 6) (by omega) with hr | ⟨j, hj, rfl⟩
  · rw [s_miss_out hr, row_out hr, bp_neg nm1, if_pos t00]
    exact Ok.same h _
  · obtain ⟨-, -, ⟨S, r1, r2, r3⟩, -, -⟩ := id h
    obtain ⟨a1, a2⟩ := r2 j hj
    obtain ⟨b1, b2⟩ := r3 j hj
    rw [row_in hj, if_neg n10, ix_n hj (by omega), nI_clamp (by omega), b1]
    cases hS : S j with
    | none =>
      rw [hS] at a1
      rw [s_miss_none hj (by omega) a1, bp_neg nm3, szI_none, if_neg m1_neg, show f_X6_meets (1 : Int32) m = _ from f_meets (f := 1) (by omega)]
      exact Ok.found h (by omega)
    | some l =>
      rw [hS] at a1
      obtain ⟨a3, a4⟩ := a2 l hS
      rw [szI_some, if_pos (nI_ge0 (by omega)), ix_n hj (by omega), s_miss_some hj (by omega) (show l.length ≤ 100 by omega) a1, bp_zero]
      dsimp only
      rw [s_drop hj (by omega), bd_some, lt_eq]
      refine ⟨1, _, _, rfl, rfl, h.rows (Fs.si (by omega)) (Fs.si (by omega)) (S := upS S j none) ?_ ?_⟩
      · exact r2.del (fun k => by rw [ui_si]) (fun k => by simp [ui_si_r])
      · exact r3.del (fun k => by rw [ui_si]) (fun k => by simp [ui_si_r])
