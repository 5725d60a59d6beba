/-! the law's loop -/
set_option maxHeartbeats 4000000 in
set_option maxRecDepth 100000 in
theorem law_switch {p : Program} {l : Launch} {e : Env} {s : State} {m : MethodId} {below : List Frame} {meth : Method} {c : Code} {H : Heap} {locs : List Loc} {Q : State → Prop} {ls : Array Slot} {u v : UU} {D : va_G} {a1 a2 : Nat → Nat} {cA : Nat → ClassId} {tO tC b L i : Nat} {xs : Nat → Int32} (hA : LA p s m c b L xs D a1 a2 cA tO tC) (hi : i + 6 ≤ L) (hI : Inv u v) (hP : Ps (gC D a1 cA tO tC) 0 55 u H) (hP2 : Ps (gM D a2 cA tO tC) 55 20 v H) (hS : va_S (fun q => s.heap.size ≤ q) s.heap H locs) (hl : lv_has ls 4 [(3, .int (nI i)), (0, .ref b), (1, .ref (a1 0)), (2, .ref (a2 55))]) (kk : LK p l e s m b below meth c Q D a1 a2 cA tO tC ls) {k : Nat} (hk : k < 64) : W p l e room_1 s m #[Value.ref b] below meth c H locs 600000 7302249 Q (F0 m 33 ls [.int (nI k)]) := by
  have hx := hA.1
  have hb := hA.2.1
  by_cases h : k < 43
  · rcases (show k = 0 ∨ k = 1 ∨ k = 2 ∨ k = 3 ∨ k = 4 ∨ k = 5 ∨ k = 6 ∨ k = 7 ∨ k = 8 ∨ k = 9 ∨ k = 10 ∨ k = 11 ∨ k = 12 ∨ k = 13 ∨ k = 14 ∨ k = 15 ∨ k = 16 ∨ k = 17 ∨ k = 18 ∨ k = 19 ∨ k = 20 ∨ k = 21 ∨ k = 22 ∨ k = 23 ∨ k = 24 ∨ k = 25 ∨ k = 26 ∨ k = 27 ∨ k = 28 ∨ k = 29 ∨ k = 30 ∨ k = 31 ∨ k = 32 ∨ k = 33 ∨ k = 34 ∨ k = 35 ∨ k = 36 ∨ k = 37 ∨ k = 38 ∨ k = 39 ∨ k = 40 ∨ k = 41 ∨ k = 42 by omega) with rfl | rfl | rfl | rfl | rfl | rfl | rfl | rfl | rfl | rfl | rfl | rfl | rfl | rfl | rfl | rfl | rfl | rfl | rfl | rfl | rfl | rfl | rfl | rfl | rfl | rfl | rfl | rfl | rfl | rfl | rfl | rfl | rfl | rfl | rfl | rfl | rfl | rfl | rfl | rfl | rfl | rfl | rfl
    · exact lv_tableIn (off := 187) (tgt := 220) hx hb dL_law_33 (by decide) (by decide) rfl (by decide) (lc_row hA hi hI hP hP2 hS hl kk)
    · exact lv_tableIn (off := 220) (tgt := 253) hx hb dL_law_33 (by decide) (by decide) rfl (by decide) (lc_lay hA hi hI hP hP2 hS hl kk)
    · exact lv_tableIn (off := 263) (tgt := 296) hx hb dL_law_33 (by decide) (by decide) rfl (by decide) (lc_at hA hi hI hP hP2 hS hl kk)
    · exact lv_tableIn (off := 296) (tgt := 329) hx hb dL_law_33 (by decide) (by decide) rfl (by decide) (lc_tear hA hi hI hP hP2 hS hl kk)
    · exact lv_tableIn (off := 319) (tgt := 352) hx hb dL_law_33 (by decide) (by decide) rfl (by decide) (lc_copy hA hi hI hP hP2 hS hl kk)
    · exact lv_tableIn (off := 382) (tgt := 415) hx hb dL_law_33 (by decide) (by decide) rfl (by decide) (lc_mean hA hi hI hP hP2 hS hl kk)
    · exact lv_tableIn (off := 405) (tgt := 438) hx hb dL_law_33 (by decide) (by decide) rfl (by decide) (lc_text hA hi hI hP hP2 hS hl kk)
    · exact lv_tableIn (off := 438) (tgt := 471) hx hb dL_law_33 (by decide) (by decide) rfl (by decide) (lc_put hA hi hI hP hP2 hS hl kk)
    · exact lv_tableIn (off := 481) (tgt := 514) hx hb dL_law_33 (by decide) (by decide) rfl (by decide) (lc_fault hA hi hI hP hP2 hS hl kk)
    · exact lv_tableIn (off := 504) (tgt := 537) hx hb dL_law_33 (by decide) (by decide) rfl (by decide) (lc_table hA hi hI hP hP2 hS hl kk)
    · exact lv_tableIn (off := 527) (tgt := 560) hx hb dL_law_33 (by decide) (by decide) rfl (by decide) (lc_worker hA hi hI hP hP2 hS hl kk)
    · exact lv_tableIn (off := 560) (tgt := 593) hx hb dL_law_33 (by decide) (by decide) rfl (by decide) (lc_mark hA hi hI hP hP2 hS hl kk)
    · exact lv_tableIn (off := 593) (tgt := 626) hx hb dL_law_33 (by decide) (by decide) rfl (by decide) (lc_takes hA hi hI hP hP2 hS hl kk)
    · exact lv_tableIn (off := 626) (tgt := 659) hx hb dL_law_33 (by decide) (by decide) rfl (by decide) (lc_cut hA hi hI hP hP2 hS hl kk)
    · exact lv_tableIn (off := 649) (tgt := 682) hx hb dL_law_33 (by decide) (by decide) rfl (by decide) (lc_give hA hi hI hP hP2 hS hl kk)
    · exact lv_tableIn (off := 682) (tgt := 715) hx hb dL_law_33 (by decide) (by decide) rfl (by decide) (lc_back hA hi hI hP hP2 hS hl kk)
    · exact lv_tableIn (off := 715) (tgt := 748) hx hb dL_law_33 (by decide) (by decide) rfl (by decide) (lc_bake hA hi hI hP hP2 hS hl kk)
    · exact lv_tableIn (off := 738) (tgt := 771) hx hb dL_law_33 (by decide) (by decide) rfl (by decide) (lc_undo hA hi hI hP hP2 hS hl kk)
    · exact lv_tableIn (off := 761) (tgt := 794) hx hb dL_law_33 (by decide) (by decide) rfl (by decide) (lc_keep hA hi hI hP hP2 hS hl kk)
    · exact lv_tableIn (off := 784) (tgt := 817) hx hb dL_law_33 (by decide) (by decide) rfl (by decide) (lc_on hA hi hI hP hP2 hS hl kk)
    · exact lv_tableIn (off := 807) (tgt := 840) hx hb dL_law_33 (by decide) (by decide) rfl (by decide) (lc_lacks hA hi hI hP hP2 hS hl kk)
    · exact lv_tableIn (off := 830) (tgt := 863) hx hb dL_law_33 (by decide) (by decide) rfl (by decide) (lc_ways hA hi hI hP hP2 hS hl kk)
    · exact lv_tableIn (off := 853) (tgt := 886) hx hb dL_law_33 (by decide) (by decide) rfl (by decide) (lc_writes hA hi hI hP hP2 hS hl kk)
    · exact lv_tableIn (off := 886) (tgt := 919) hx hb dL_law_33 (by decide) (by decide) rfl (by decide) (lc_greedy hA hi hI hP hP2 hS hl kk)
    · exact lv_tableIn (off := 909) (tgt := 942) hx hb dL_law_33 (by decide) (by decide) rfl (by decide) (lc_serve hA hi hI hP hP2 hS hl kk)
    · exact lv_tableIn (off := 932) (tgt := 965) hx hb dL_law_33 (by decide) (by decide) rfl (by decide) (lc_need hA hi hI hP hP2 hS hl kk)
    · exact lv_tableIn (off := 945) (tgt := 978) hx hb dL_law_33 (by decide) (by decide) rfl (by decide) (lc_poor hA hi hI hP hP2 hS hl kk)
    · exact lv_tableIn (off := 958) (tgt := 991) hx hb dL_law_33 (by decide) (by decide) rfl (by decide) (lc_ready hA hi hI hP hP2 hS hl kk)
    · exact lv_tableIn (off := 971) (tgt := 1004) hx hb dL_law_33 (by decide) (by decide) rfl (by decide) (lc_best hA hi hI hP hP2 hS hl kk)
    · exact lv_tableIn (off := 984) (tgt := 1017) hx hb dL_law_33 (by decide) (by decide) rfl (by decide) (lc_dues hA hi hI hP hP2 hS hl kk)
    · exact lv_tableIn (off := 1007) (tgt := 1040) hx hb dL_law_33 (by decide) (by decide) rfl (by decide) (lc_kinds hA hi hI hP hP2 hS hl kk)
    · exact lv_tableIn (off := 1030) (tgt := 1063) hx hb dL_law_33 (by decide) (by decide) rfl (by decide) (lc_test hA hi hI hP hP2 hS hl kk)
    · exact lv_tableIn (off := 1053) (tgt := 1086) hx hb dL_law_33 (by decide) (by decide) rfl (by decide) (lc_duel hA hi hI hP hP2 hS hl kk)
    · exact lv_tableIn (off := 1096) (tgt := 1129) hx hb dL_law_33 (by decide) (by decide) rfl (by decide) (lc_odds hA hi hI hP hP2 hS hl kk)
    · exact lv_tableIn (off := 1129) (tgt := 1162) hx hb dL_law_33 (by decide) (by decide) rfl (by decide) (lc_mid hA hi hI hP hP2 hS hl kk)
    · exact lv_tableIn (off := 1162) (tgt := 1195) hx hb dL_law_33 (by decide) (by decide) rfl (by decide) (lc_lots hA hi hI hP hP2 hS hl kk)
    · exact lv_tableIn (off := 1195) (tgt := 1228) hx hb dL_law_33 (by decide) (by decide) rfl (by decide) (lc_asked hA hi hI hP hP2 hS hl kk)
    · exact lv_tableIn (off := 1208) (tgt := 1241) hx hb dL_law_33 (by decide) (by decide) rfl (by decide) (lc_upper hA hi hI hP hP2 hS hl kk)
    · exact lv_tableIn (off := 1222) (tgt := 1255) hx hb dL_law_33 (by decide) (by decide) rfl (by decide) (lc_lower hA hi hI hP hP2 hS hl kk)
    · exact lv_tableIn (off := 1236) (tgt := 1269) hx hb dL_law_33 (by decide) (by decide) rfl (by decide) (lc_count hA hi hI hP hP2 hS hl kk)
    · exact lv_tableIn (off := 1259) (tgt := 1292) hx hb dL_law_33 (by decide) (by decide) rfl (by decide) (lc_finding hA hi hI hP hP2 hS hl kk)
    · exact lv_tableIn (off := 1272) (tgt := 1305) hx hb dL_law_33 (by decide) (by decide) rfl (by decide) (lc_findings hA hi hI hP hP2 hS hl kk)
    · exact lv_tableIn (off := 1295) (tgt := 1328) hx hb dL_law_33 (by decide) (by decide) rfl (by decide) (lc_digest hA hi hI hP hP2 hS hl kk)
  · refine lv_tableOut (tgt := 1342) hx hb dL_law_33 (Or.inr ?_) (by decide) (kk u v H locs hI hP hP2 hS)
    rw [nI_toInt (by omega)]
    omega
set_option maxHeartbeats 4000000 in
set_option maxRecDepth 100000 in
theorem law_loop {p : Program} {l : Launch} {e : Env} {s : State} {m : MethodId} {below : List Frame} {meth : Method} {c : Code} {D : va_G} {a1 a2 : Nat → Nat} {cA : Nat → ClassId} {tO tC b L : Nat} {xs : Nat → Int32} (hA : LA p s m c b L xs D a1 a2 cA tO tC) (hr : meth.sig.returnType = ret) (hlocks : meth.locks = false) : ∀ (n i : Nat) (u v : UU) (H : Heap) (locs : List Loc) (ls : Array Slot), i ≤ L → L < i + n → Inv u v → Ps (gC D a1 cA tO tC) 0 55 u H → Ps (gM D a2 cA tO tC) 55 20 v H → va_S (fun q => s.heap.size ≤ q) s.heap H locs → lv_has ls 4 [(3, .int (nI i)), (0, .ref b), (1, .ref (a1 0)), (2, .ref (a2 55))] → W p l e room_1 s m #[Value.ref b] below meth c H locs 600000 7302249 (lw_Z below #[Value.ref b] s) (F0 m 18 ls []) := by
  obtain ⟨hx, hb, hml, hown, hts, hX, hbl, hL, hL3⟩ := id hA
  have hbA : ¬ (fun q : Nat => s.heap.size ≤ q) b := Nat.not_le.mpr hbl
  intro n
  induction n with
  | zero => intro i u v H locs ls h1 h2; omega
  | succ n ih =>
    intro i u v H locs ls h1 h2 hI hP hP2 hS hl
    refine lv_iload_n hx hb dL_law_18 rfl (lv_at hl 0 rfl) ?_
    refine lv_aload_n hx hb dL_law_19 rfl (lv_at hl 1 rfl) ?_
    refine va_slen hx hb hX hbl hbA hS dL_law_20 ?_
    refine lv_bipush (v := (6 : Int32)) hx hb dL_law_21 (by decide) ?_
    refine lv_isub hx hb dL_law_23 ?_
    have es : (Int32.ofNat L - (6 : Int32)).toInt = (L : Int) - 6 := pk_sub_toInt (a := L) (b := 6) (by omega) (by omega)
    have ei : (nI i).toInt = (i : Int) := nI_toInt (by omega)
    refine lv_icmp_gt (tgt := 1348) hx hb dL_law_24 (by decide) (fun z => ?_) (fun z => ?_)
    · refine lv_iconst (v := (1 : Int32)) hx hb dL_law_1348 (by decide) ?_
      refine va_forget hS.2.2 ?_
      exact lw_ret hx hb hr hlocks dL_law_1349
    · have hi : i + 6 ≤ L := by
        have : ¬ (Int32.ofNat L - (6 : Int32)).toInt < (nI i).toInt := fun y => z (i_lt.mpr y)
        omega
      refine lv_aload_n hx hb dL_law_27 rfl (lv_at hl 1 rfl) ?_
      refine lv_iload_n hx hb dL_law_28 rfl (lv_at hl 0 rfl) ?_
      refine va_sld hx hb hX hbl hbA hS (nI_in (by omega) (by omega)) dL_law_29 ?_
      refine lv_bipush (v := (63 : Int32)) hx hb dL_law_30 (by decide) ?_
      refine lv_iand hx hb dL_law_32 ?_
      obtain ⟨k, hk, ek⟩ := and63 (xs (nI i).toNatClampNeg)
      refine r_nm (x := nI k) ek.symm ?_
      refine law_switch hA hi hI hP hP2 hS hl ?_ hk
      intro u v H locs hI hP hP2 hS
      refine lv_iinc (v := nI (i + 6)) (lv' := [(3, .int (nI (i + 6))), (0, .ref b), (1, .ref (a1 0)), (2, .ref (a2 55))]) hx hb dL_law_1342 hl (k := 0) rfl (nI_add i 6) (by decide) rfl (fun ls hl => ?_)
      refine lv_goto (tgt := 18) hx hb dL_law_1345 (by decide) ?_
      exact ih (i + 6) u v H locs ls hi (by omega) hI hP hP2 hS hl
