/-! the law from its entry -/
theorem va_P_init {D : va_G} {cl : List vw_C} {ws : va_W} {x : Nat × va_E} {H : Heap} (h : va_P D cl (ws ++ [x]) H) : va_P D cl ws H ∧ va_P D cl [x] H := by
  refine ⟨fun k q hq => h k q ?_, fun k q hq => h (ws.length + k) q ?_⟩
  · rw [List.getElem?_append_left (List.getElem?_eq_some_iff.mp hq).1]
    exact hq
  · rw [List.getElem?_append_right (by omega), show ws.length + k - ws.length = k by omega]
    exact hq
theorem va_D_init {A : Nat → Prop} {ws : va_W} {x : Nat × va_E} (h : va_D A (ws ++ [x])) : va_D A [x] ∧ ∀ (k : Nat) (q : Nat × va_E), ws[k]? = some q → q.1 ≠ x.1 := by
  refine ⟨⟨fun i j p q hi hj _ => ?_, fun k q hq => h.2 (ws.length + k) q ?_⟩, fun k q hq e => ?_⟩
  · have h1 := (List.getElem?_eq_some_iff.mp hi).1
    have h2 := (List.getElem?_eq_some_iff.mp hj).1
    simp at h1 h2
    omega
  · rw [List.getElem?_append_right (by omega), show ws.length + k - ws.length = k by omega]
    exact hq
  · have hk := (List.getElem?_eq_some_iff.mp hq).1
    have := h.1 k ws.length q x (by rw [List.getElem?_append_left hk]; exact hq) (by rw [List.getElem?_append_right (by omega), Nat.sub_self]; rfl) e
    omega
set_option maxHeartbeats 8000000 in
set_option maxRecDepth 100000 in
theorem whole_start {p : Program} {e : Env} {s : State} {m : MethodId} {below : List Frame} {meth : Method} {c : Code} (l : Launch) (hflags : l.flags = flags0) {b L : Nat} {xs : Nat → Int32} (hL : L ≤ 3072) (C0 : lw_At p s m meth c b L xs) : W p l e room_1 s m #[Value.ref b] below meth c s.heap [] 0 0 (lw_Z below #[Value.ref b] s) (entryFrame m ([Value.ref b] : List Value).toArray 4) := by
  obtain ⟨hx, hb, hr, hml, hown, hts, hX, hbl, hlocks, hgv⟩ := id C0
  have hown : s.vm.findClass RL = some m.cls := hown
  have hb : c.code = cL_law := hb
  have htsL : ∀ w ∈ wsL_law, w.before #[Value.ref b] s = true := fun w h => hts w (wsL_in w h)
  have hA : ∀ q : Nat, s.heap.size ≤ q → (fun q : Nat => s.heap.size ≤ q) q := fun _ h => h
  have hCn : Cn s := lw_cn hts
  obtain ⟨tO, tC, hCz⟩ := lw_cz hts hgv
  obtain ⟨D, c6, c7, c8, hK⟩ := lw_known hts
  have hAO : va_AO "LoafParts$Table" s := va_AO.of (hts (.arrayOver (.object "LoafParts$Table")) (List.mem_of_getElem? (i := 168) (by decide +kernel)))
  have hS : va_S (fun q : Nat => s.heap.size ≤ q) s.heap s.heap [] := va_S.rf
  have hP : va_P D vwCl [] s.heap := fun k q h => by simp at h
  have hD : va_D (fun q : Nat => s.heap.size ≤ q) [] := ⟨fun i j p q h => by simp at h, fun k q h => by simp at h⟩
  have hl := lv_entry ([.ref b]) (n := 4) (Nat.le_of_ble_eq_true rfl)
  rw [lg_entry_eq]
  generalize (lg_sl ([.ref b]) ++ List.replicate (4 - (lg_sl ([.ref b])).length) Slot.unset).toArray = ls at hl ⊢
  have hl : lv_has ls 4 [(0, .ref b)] := hl
  refine va_new (ci := 4) (fs := [.null, .null, .null, .null, .null, .null, .null, .null, .int 0, .int 0, .long 0, .long 0]) (C := RX5) (T := TX5) (N := 12) hx hb hts lwi_X5 tyX5 tyX5_ok hown (hts (.classLink RL 7 RX5) (List.mem_of_getElem? (i := 59) (by decide +kernel))) (hts (.instantiable RX5 12) (List.mem_of_getElem? (i := 60) (by decide +kernel))) (hts (.initialized RX5) (List.mem_of_getElem? (i := 49) (by decide +kernel))) hK hP hD hS hA rfl (fun j hj => by rcases (show j = 0 ∨ j = 1 ∨ j = 2 ∨ j = 3 ∨ j = 4 ∨ j = 5 ∨ j = 6 ∨ j = 7 ∨ j = 8 ∨ j = 9 ∨ j = 10 ∨ j = 11 by omega) with rfl | rfl | rfl | rfl | rfl | rfl | rfl | rfl | rfl | rfl | rfl | rfl <;> rfl) (Nat.le_of_ble_eq_true rfl) (Nat.le_of_ble_eq_true rfl) dL_law_0 (fun q0 H hP hD hS => ?_)
  have hP : va_P D vwCl [(q0, .inr (4, [.null, .null, .null, .null, .null, .null, .null, .null, .int 0, .int 0, .long 0, .long 0]))] H := hP
  have hD : va_D (fun q : Nat => s.heap.size ≤ q) [(q0, .inr (4, [.null, .null, .null, .null, .null, .null, .null, .null, .int 0, .int 0, .long 0, .long 0]))] := hD
  refine W.widen (k := 1) (n := 12) (by omega) (by omega) ?_
  refine lv_dup hx hb dL_law_3 rfl ?_
  have hFc := va_free (wc := [(q0, .inr (4, [.null, .null, .null, .null, .null, .null, .null, .null, .int 0, .int 0, .long 0, .long 0]))]) hD hS hA [0] rfl
  refine va_callv (va_runI (As := []) (rest := [.ref q0]) ⟨hx, hb, hml, hown, htsL⟩ (k_X5 l D c6 c7 c8 q0 H.size) (cwI 0 htsL gL_law_X5_init rfl rfl rfl (hts (.initialized RX5) (List.mem_of_getElem? (i := 49) (by decide +kernel))) (hts (.methodLink RL 9 yX5_init) (List.mem_of_getElem? (i := 61) (by decide +kernel))) (hts (.instanceMethod yX5_init) (List.mem_of_getElem? (i := 62) (by decide +kernel))) rfl (by decide +kernel) ⟨Nat.le_of_ble_eq_true rfl, Nat.le_of_ble_eq_true rfl⟩) ⟨fun a U g mk q => by obtain ⟨q0, q1, qP, qK, qD, qC, qA⟩ := q; exact ⟨q0, q1, qP, va_K.moved (u := U) (U := U.calling g mk a) (Vm.Alike.refl U.vm) qK, qD, Cn.same (u := U) (U := U.calling g mk a) rfl qC, va_AO.moved (u := U) (U := U.calling g mk a) (Vm.Alike.refl U.vm) qA⟩, fun U hU hW => ⟨rfl, by rw [hU], by rw [hU]; exact hP, va_K.moved hW.alike hK, hD.weaken (fun _ _ _ _ => trivial), Cn.warm hW hCn, va_AO.moved hW.alike hAO⟩⟩ rfl rfl hl.1 rfl (lv_room (Nat.le_of_ble_eq_true rfl)) dL_law_4 ⟨Nat.le_of_ble_eq_true rfl, Nat.le_of_ble_eq_true rfl⟩) hS (fun q _ h => hFc q h) hFc (fun uu t H1 locs ht hvm hw hB hz1 hk1 hS => ?_)
  obtain ⟨a1, u0⟩ := uu
  obtain ⟨e0, hu0⟩ := hw
  obtain ⟨hP, hD1⟩ := hB
  have e0 : a1 0 = q0 := e0
  have hP : va_P D vwCl (cs a1 (cA3 c6 c7 c8) 0 55 u0) t.heap := hP
  rw [ht] at hP
  have hD : va_D (fun q : Nat => s.heap.size ≤ q) (cs a1 (cA3 c6 c7 c8) 0 55 u0) := ⟨hD1.1, fun k q hq => hFc _ (hD1.2 k q hq)⟩
  generalize H1 = H at hP hS ⊢
  refine W.widen (k := 55) (n := 1305) (by omega) (by omega) ?_
  refine lv_astore_n (lv' := [(1, .ref q0), (0, .ref b)]) hx hb dL_law_7 rfl hl (by decide) rfl (fun ls hl => ?_)
  refine va_new (ci := 5) (fs := [.int 0, .long 0, .long 0, .int 0, .null, .null, .null, .null, .null, .null, .int 0, .int 0, .int 0, .int 0, .null, .null, .null, .int 0, .null, .null, .null, .null, .int 0, .null, .null, .null, .int 0, .int 0, .int 0, .int 0, .null, .null, .null, .long 0]) (C := RX6) (T := TX6) (N := 34) hx hb hts lwi_X6 tyX6 tyX6_ok hown (hts (.classLink RL 10 RX6) (List.mem_of_getElem? (i := 751) (by decide +kernel))) (hts (.instantiable RX6 34) (List.mem_of_getElem? (i := 752) (by decide +kernel))) (hts (.initialized RX6) (List.mem_of_getElem? (i := 55) (by decide +kernel))) hK hP hD hS hA rfl (fun j hj => by rcases (show j = 0 ∨ j = 1 ∨ j = 2 ∨ j = 3 ∨ j = 4 ∨ j = 5 ∨ j = 6 ∨ j = 7 ∨ j = 8 ∨ j = 9 ∨ j = 10 ∨ j = 11 ∨ j = 12 ∨ j = 13 ∨ j = 14 ∨ j = 15 ∨ j = 16 ∨ j = 17 ∨ j = 18 ∨ j = 19 ∨ j = 20 ∨ j = 21 ∨ j = 22 ∨ j = 23 ∨ j = 24 ∨ j = 25 ∨ j = 26 ∨ j = 27 ∨ j = 28 ∨ j = 29 ∨ j = 30 ∨ j = 31 ∨ j = 32 ∨ j = 33 by omega) with rfl | rfl | rfl | rfl | rfl | rfl | rfl | rfl | rfl | rfl | rfl | rfl | rfl | rfl | rfl | rfl | rfl | rfl | rfl | rfl | rfl | rfl | rfl | rfl | rfl | rfl | rfl | rfl | rfl | rfl | rfl | rfl | rfl | rfl <;> rfl) (Nat.le_of_ble_eq_true rfl) (Nat.le_of_ble_eq_true rfl) dL_law_8 (fun q1 H hP hD hS => ?_)
  refine W.widen (k := 56) (n := 1339) (by omega) (by omega) ?_
  refine lv_dup hx hb dL_law_11 rfl ?_
  obtain ⟨hPC, hPm⟩ := va_P_init hP
  obtain ⟨hDm, hap⟩ := va_D_init hD
  have hDC : va_D (fun q : Nat => s.heap.size ≤ q) (cs a1 (cA3 c6 c7 c8) 0 55 u0) := ⟨fun i j p q hi hj e => hD.1 i j p q (by rw [List.getElem?_append_left (List.getElem?_eq_some_iff.mp hi).1]; exact hi) (by rw [List.getElem?_append_left (List.getElem?_eq_some_iff.mp hj).1]; exact hj) e, fun k q hq => hD.2 k q (by rw [List.getElem?_append_left (List.getElem?_eq_some_iff.mp hq).1]; exact hq)⟩
  have hFc := va_free (wc := [(q1, .inr (5, [.int 0, .long 0, .long 0, .int 0, .null, .null, .null, .null, .null, .null, .int 0, .int 0, .int 0, .int 0, .null, .null, .null, .int 0, .null, .null, .null, .null, .int 0, .null, .null, .null, .int 0, .int 0, .int 0, .int 0, .null, .null, .null, .long 0]))]) hDm hS hA [0] rfl
  refine va_callv (va_runI (As := []) (rest := [.ref q1]) ⟨hx, hb, hml, hown, htsL⟩ (k_X6 l D c6 c7 c8 q1 H.size) (cwI 0 htsL gL_law_X6_init rfl rfl rfl (hts (.initialized RX6) (List.mem_of_getElem? (i := 55) (by decide +kernel))) (hts (.methodLink RL 12 yX6_init) (List.mem_of_getElem? (i := 753) (by decide +kernel))) (hts (.instanceMethod yX6_init) (List.mem_of_getElem? (i := 754) (by decide +kernel))) rfl (by decide +kernel) ⟨Nat.le_of_ble_eq_true rfl, Nat.le_of_ble_eq_true rfl⟩) ⟨fun a U g mk q => by obtain ⟨q0, q1, qP, qK, qD⟩ := q; exact ⟨q0, q1, qP, va_K.moved (u := U) (U := U.calling g mk a) (Vm.Alike.refl U.vm) qK, qD⟩, fun U hU hW => ⟨rfl, by rw [hU], by rw [hU]; exact hPm, va_K.moved hW.alike hK, hDm.weaken (fun _ _ _ _ => trivial)⟩⟩ rfl rfl hl.1 rfl (lv_room (Nat.le_of_ble_eq_true rfl)) dL_law_12 ⟨Nat.le_of_ble_eq_true rfl, Nat.le_of_ble_eq_true rfl⟩) hS (fun q _ h => hFc q h) hFc (fun uu t H1 locs ht hvm hw hB hz1 hk1 hS => ?_)
  obtain ⟨a2, v0⟩ := uu
  obtain ⟨e1, hv0⟩ := hw
  obtain ⟨hPM, hDM⟩ := hB
  have e1 : a2 55 = q1 := e1
  have hPM : va_P D vwCl (cs a2 (cA3 c6 c7 c8) 55 20 v0) t.heap := hPM
  rw [ht] at hPM
  have at1 : ∀ k, k < 55 → (cs a1 (cA3 c6 c7 c8) 0 55 u0)[k]? = some (a1 k, cellOf a1 (cA3 c6 c7 c8) u0 k) := fun k hk => cs_at (lo := 0) (k := k) ⟨by omega, by omega⟩
  have at2 : ∀ k, k < 20 → (cs a2 (cA3 c6 c7 c8) 55 20 v0)[k]? = some (a2 (55 + k), cellOf a2 (cA3 c6 c7 c8) v0 (55 + k)) := fun k hk => by
    have := cs_at (ad := a2) (cA := cA3 c6 c7 c8) (lo := 55) (n := 20) (u := v0) (k := 55 + k) ⟨by omega, by omega⟩
    rwa [show 55 + k - 55 = k by omega] at this
  have lt1 : ∀ k, k < 55 → a1 k < H.size := fun k hk => (hPC k _ (at1 k hk)).lt
  have ne1 : ∀ k, k < 55 → a1 k ≠ q1 := fun k hk => hap k _ (at1 k hk)
  have nin : ∀ k, k < 55 → ¬ va_A [(q1, .inr (5, [.int 0, .long 0, .long 0, .int 0, .null, .null, .null, .null, .null, .null, .int 0, .int 0, .int 0, .int 0, .null, .null, .null, .int 0, .null, .null, .null, .null, .int 0, .null, .null, .null, .int 0, .int 0, .int 0, .int 0, .null, .null, .null, .long 0]))] H.size (a1 k) := fun k hk z => by
    rcases z with ⟨i, x, hz⟩ | z
    · have h1 := (List.getElem?_eq_some_iff.mp hz).1
      simp at h1
      subst h1
      cases hz
      exact ne1 k hk rfl
    · have := lt1 k hk
      omega
  have hPC : va_P D vwCl (cs a1 (cA3 c6 c7 c8) 0 55 u0) H1 := va_P.kept hPC (fun k x hx2 => by
    obtain ⟨hk, rfl⟩ := cs_get hx2
    have e : a1 (0 + k) = a1 k := by rw [Nat.zero_add]
    show H1[a1 (0 + k)]? = H[a1 (0 + k)]?
    rw [e]
    exact hk1 _ (lt1 k hk) (nin k hk))
  have hLC : LC s D a1 a2 (cA3 c6 c7 c8) tO tC := by
    refine ⟨hK, fun u => cs_D (u := u0) ⟨hDC.1, fun k q hq => ?_⟩ u, fun u => cs_D (u := v0) ⟨hDM.1, fun k q hq => ?_⟩ u, hCn, hCz D a1 _, fun k hk => hDC.2 k _ (at1 k hk), fun k hk => hFc _ (hDM.2 k _ (at2 k hk)), fun i j hi hj e => ?_⟩
    · obtain ⟨hk, rfl⟩ := cs_get hq
      exact ⟨k, hk, by show a1 (0 + k) = a1 k; rw [Nat.zero_add]⟩
    · obtain ⟨hk, rfl⟩ := cs_get hq
      exact ⟨k, hk, rfl⟩
    · have := hDM.2 j _ (at2 j hj)
      exact nin i hi (by rw [e]; exact this)
  generalize H1 = H at hPC hPM hS ⊢
  refine W.widen (k := 600000) (n := 7302249) (Nat.le_of_ble_eq_true rfl) (Nat.le_of_ble_eq_true rfl) ?_
  refine lv_astore_n (lv' := [(2, .ref q1), (1, .ref q0), (0, .ref b)]) hx hb dL_law_15 rfl hl (by decide) rfl (fun ls hl => ?_)
  refine lv_iconst (v := (0 : Int32)) hx hb dL_law_16 (by decide) ?_
  refine lv_istore_n (lv' := [(3, .int 0), (2, .ref q1), (1, .ref q0), (0, .ref b)]) hx hb dL_law_17 rfl hl (by decide) rfl (fun ls hl => ?_)
  have hl : lv_has ls 4 [(3, .int (nI 0)), (0, .ref b), (1, .ref (a1 0)), (2, .ref (a2 55))] := by
    rw [e0, e1]
    exact lv_sub hl [0, 3, 2, 1] rfl
  exact law_loop (xs := xs) ⟨hx, hb, hml, hown, htsL, hX, hbl, hLC, hL⟩ hr hlocks (L + 1) 0 u0 v0 H locs ls (Nat.zero_le _) (by omega) (ini_inv hu0 hv0) hPC hPM hS hl
