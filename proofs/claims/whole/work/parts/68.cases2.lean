set_option maxHeartbeats 4000000 in
set_option maxRecDepth 100000 in
theorem lc_writes {p : Program} {l : Launch} {e : Env} {s : State} {m : MethodId} {below : List Frame} {meth : Method} {c : Code} {H : Heap} {locs : List Loc} {Q : State → Prop} {ls : Array Slot} {u v : UU} {D : va_G} {a1 a2 : Nat → Nat} {cA : Nat → ClassId} {tO tC b L i : Nat} {xs : Nat → Int32} (hA : LA p s m c b L xs D a1 a2 cA tO tC) (hi : i + 6 ≤ L) (hI : Inv u v) (hP : Ps (gC D a1 cA tO tC) 0 55 u H) (hP2 : Ps (gM D a2 cA tO tC) 55 20 v H) (hS : va_S (fun q => s.heap.size ≤ q) s.heap H locs) (hl : lv_has ls 4 [(3, .int (nI i)), (0, .ref b), (1, .ref (a1 0)), (2, .ref (a2 55))]) (kk : LK p l e s m b below meth c Q D a1 a2 cA tO tC ls) : W p l e room_1 s m #[Value.ref b] below meth c H locs 600000 7302249 Q (F0 m 886 ls []) := by
  obtain ⟨hx, hb, hml, hown, hts, hX, hbl, hL, hL3⟩ := hA
  have hbA : ¬ (fun q : Nat => s.heap.size ≤ q) b := Nat.not_le.mpr hbl
  have X : CallFix p m c cL_law 4 s #[Value.ref b] wsL_law RL := ⟨hx, hb, hml, hown, hts⟩
  obtain ⟨r, u', v', e1, e2, hI'⟩ := op_writes hI (xs (nI i + 1).toNatClampNeg) (xs (nI i + 2).toNatClampNeg)
  refine lv_aload_n hx hb dL_law_886 rfl (lv_at hl 2 rfl) ?_
  refine lv_aload_n hx hb dL_law_887 rfl (lv_at hl 1 rfl) ?_
  refine lv_iload_n hx hb dL_law_888 rfl (lv_at hl 0 rfl) ?_
  refine lv_iconst (v := (1 : Int32)) hx hb dL_law_889 (by decide) ?_
  refine lv_iadd hx hb dL_law_890 ?_
  refine va_sld hx hb hX hbl hbA hS (lw_in hi (k := 1) (by omega) hL3) dL_law_891 ?_
  refine lv_aload_n hx hb dL_law_892 rfl (lv_at hl 1 rfl) ?_
  refine lv_iload_n hx hb dL_law_893 rfl (lv_at hl 0 rfl) ?_
  refine lv_iconst (v := (2 : Int32)) hx hb dL_law_894 (by decide) ?_
  refine lv_iadd hx hb dL_law_895 ?_
  refine va_sld hx hb hX hbl hbA hS (lw_in hi (k := 2) (by omega) hL3) dL_law_896 ?_
  refine r_LCi X hL hP hP2 hS (c_X5_writes l (gC D a1 cA tO tC) u (xs (nI i + 1).toNatClampNeg) (xs (nI i + 2).toNatClampNeg) e1) (cwV 2 hts gL_law_X5_writes rfl rfl rfl (by decide +kernel) ⟨Nat.le_of_ble_eq_true rfl, Nat.le_of_ble_eq_true rfl⟩) rfl hl.1 rfl (Nat.le_of_ble_eq_true rfl) dL_law_897 ⟨Nat.le_of_ble_eq_true rfl, Nat.le_of_ble_eq_true rfl⟩ (fun H locs hP hP2 hS => ?_)
  refine lv_aload_n hx hb dL_law_900 rfl (lv_at hl 3 rfl) ?_
  refine lv_aload_n hx hb dL_law_901 rfl (lv_at hl 1 rfl) ?_
  refine lv_iload_n hx hb dL_law_902 rfl (lv_at hl 0 rfl) ?_
  refine lv_iconst (v := (1 : Int32)) hx hb dL_law_903 (by decide) ?_
  refine lv_iadd hx hb dL_law_904 ?_
  refine va_sld hx hb hX hbl hbA hS (lw_in hi (k := 1) (by omega) hL3) dL_law_905 ?_
  refine lv_aload_n hx hb dL_law_906 rfl (lv_at hl 1 rfl) ?_
  refine lv_iload_n hx hb dL_law_907 rfl (lv_at hl 0 rfl) ?_
  refine lv_iconst (v := (2 : Int32)) hx hb dL_law_908 (by decide) ?_
  refine lv_iadd hx hb dL_law_909 ?_
  refine va_sld hx hb hX hbl hbA hS (lw_in hi (k := 2) (by omega) hL3) dL_law_910 ?_
  refine r_LMi X hL hP hP2 hS (c_X6_writes l (gM D a2 cA tO tC) v (xs (nI i + 1).toNatClampNeg) (xs (nI i + 2).toNatClampNeg) e2) (cwV 2 hts gL_law_X6_writes rfl rfl rfl (by decide +kernel) ⟨Nat.le_of_ble_eq_true rfl, Nat.le_of_ble_eq_true rfl⟩) rfl hl.1 rfl (Nat.le_of_ble_eq_true rfl) dL_law_911 ⟨Nat.le_of_ble_eq_true rfl, Nat.le_of_ble_eq_true rfl⟩ (fun H locs hP hP2 hS => ?_)
  exact lv_icmp_eq (tgt := 1342) hx hb dL_law_914 (by decide) (fun _ => kk _ _ _ _ hI' hP hP2 hS) (fun z => absurd rfl z)
set_option maxHeartbeats 4000000 in
set_option maxRecDepth 100000 in
theorem lc_greedy {p : Program} {l : Launch} {e : Env} {s : State} {m : MethodId} {below : List Frame} {meth : Method} {c : Code} {H : Heap} {locs : List Loc} {Q : State → Prop} {ls : Array Slot} {u v : UU} {D : va_G} {a1 a2 : Nat → Nat} {cA : Nat → ClassId} {tO tC b L i : Nat} {xs : Nat → Int32} (hA : LA p s m c b L xs D a1 a2 cA tO tC) (hi : i + 6 ≤ L) (hI : Inv u v) (hP : Ps (gC D a1 cA tO tC) 0 55 u H) (hP2 : Ps (gM D a2 cA tO tC) 55 20 v H) (hS : va_S (fun q => s.heap.size ≤ q) s.heap H locs) (hl : lv_has ls 4 [(3, .int (nI i)), (0, .ref b), (1, .ref (a1 0)), (2, .ref (a2 55))]) (kk : LK p l e s m b below meth c Q D a1 a2 cA tO tC ls) : W p l e room_1 s m #[Value.ref b] below meth c H locs 600000 7302249 Q (F0 m 919 ls []) := by
  obtain ⟨hx, hb, hml, hown, hts, hX, hbl, hL, hL3⟩ := hA
  have hbA : ¬ (fun q : Nat => s.heap.size ≤ q) b := Nat.not_le.mpr hbl
  have X : CallFix p m c cL_law 4 s #[Value.ref b] wsL_law RL := ⟨hx, hb, hml, hown, hts⟩
  obtain ⟨r, u', v', e1, e2, hI'⟩ := op_greedy hI (xs (nI i + 1).toNatClampNeg)
  refine lv_aload_n hx hb dL_law_919 rfl (lv_at hl 2 rfl) ?_
  refine lv_aload_n hx hb dL_law_920 rfl (lv_at hl 1 rfl) ?_
  refine lv_iload_n hx hb dL_law_921 rfl (lv_at hl 0 rfl) ?_
  refine lv_iconst (v := (1 : Int32)) hx hb dL_law_922 (by decide) ?_
  refine lv_iadd hx hb dL_law_923 ?_
  refine va_sld hx hb hX hbl hbA hS (lw_in hi (k := 1) (by omega) hL3) dL_law_924 ?_
  refine r_LCi X hL hP hP2 hS (c_X5_greedy l (gC D a1 cA tO tC) u (xs (nI i + 1).toNatClampNeg) e1) (cwV 1 hts gL_law_X5_greedy rfl rfl rfl (by decide +kernel) ⟨Nat.le_of_ble_eq_true rfl, Nat.le_of_ble_eq_true rfl⟩) rfl hl.1 rfl (Nat.le_of_ble_eq_true rfl) dL_law_925 ⟨Nat.le_of_ble_eq_true rfl, Nat.le_of_ble_eq_true rfl⟩ (fun H locs hP hP2 hS => ?_)
  refine lv_aload_n hx hb dL_law_928 rfl (lv_at hl 3 rfl) ?_
  refine lv_aload_n hx hb dL_law_929 rfl (lv_at hl 1 rfl) ?_
  refine lv_iload_n hx hb dL_law_930 rfl (lv_at hl 0 rfl) ?_
  refine lv_iconst (v := (1 : Int32)) hx hb dL_law_931 (by decide) ?_
  refine lv_iadd hx hb dL_law_932 ?_
  refine va_sld hx hb hX hbl hbA hS (lw_in hi (k := 1) (by omega) hL3) dL_law_933 ?_
  refine r_LMi X hL hP hP2 hS (c_X6_greedy l (gM D a2 cA tO tC) v (xs (nI i + 1).toNatClampNeg) e2) (cwV 1 hts gL_law_X6_greedy rfl rfl rfl (by decide +kernel) ⟨Nat.le_of_ble_eq_true rfl, Nat.le_of_ble_eq_true rfl⟩) rfl hl.1 rfl (Nat.le_of_ble_eq_true rfl) dL_law_934 ⟨Nat.le_of_ble_eq_true rfl, Nat.le_of_ble_eq_true rfl⟩ (fun H locs hP hP2 hS => ?_)
  exact lv_icmp_eq (tgt := 1342) hx hb dL_law_937 (by decide) (fun _ => kk _ _ _ _ hI' hP hP2 hS) (fun z => absurd rfl z)
set_option maxHeartbeats 4000000 in
set_option maxRecDepth 100000 in
theorem lc_serve {p : Program} {l : Launch} {e : Env} {s : State} {m : MethodId} {below : List Frame} {meth : Method} {c : Code} {H : Heap} {locs : List Loc} {Q : State → Prop} {ls : Array Slot} {u v : UU} {D : va_G} {a1 a2 : Nat → Nat} {cA : Nat → ClassId} {tO tC b L i : Nat} {xs : Nat → Int32} (hA : LA p s m c b L xs D a1 a2 cA tO tC) (hi : i + 6 ≤ L) (hI : Inv u v) (hP : Ps (gC D a1 cA tO tC) 0 55 u H) (hP2 : Ps (gM D a2 cA tO tC) 55 20 v H) (hS : va_S (fun q => s.heap.size ≤ q) s.heap H locs) (hl : lv_has ls 4 [(3, .int (nI i)), (0, .ref b), (1, .ref (a1 0)), (2, .ref (a2 55))]) (kk : LK p l e s m b below meth c Q D a1 a2 cA tO tC ls) : W p l e room_1 s m #[Value.ref b] below meth c H locs 600000 7302249 Q (F0 m 942 ls []) := by
  obtain ⟨hx, hb, hml, hown, hts, hX, hbl, hL, hL3⟩ := hA
  have hbA : ¬ (fun q : Nat => s.heap.size ≤ q) b := Nat.not_le.mpr hbl
  have X : CallFix p m c cL_law 4 s #[Value.ref b] wsL_law RL := ⟨hx, hb, hml, hown, hts⟩
  obtain ⟨r, u', v', e1, e2, hI'⟩ := op_serve hI (xs (nI i + 1).toNatClampNeg)
  refine lv_aload_n hx hb dL_law_942 rfl (lv_at hl 2 rfl) ?_
  refine lv_aload_n hx hb dL_law_943 rfl (lv_at hl 1 rfl) ?_
  refine lv_iload_n hx hb dL_law_944 rfl (lv_at hl 0 rfl) ?_
  refine lv_iconst (v := (1 : Int32)) hx hb dL_law_945 (by decide) ?_
  refine lv_iadd hx hb dL_law_946 ?_
  refine va_sld hx hb hX hbl hbA hS (lw_in hi (k := 1) (by omega) hL3) dL_law_947 ?_
  refine r_LCi X hL hP hP2 hS (c_X5_serve l (gC D a1 cA tO tC) u (xs (nI i + 1).toNatClampNeg) e1) (cwV 1 hts gL_law_X5_serve rfl rfl rfl (by decide +kernel) ⟨Nat.le_of_ble_eq_true rfl, Nat.le_of_ble_eq_true rfl⟩) rfl hl.1 rfl (Nat.le_of_ble_eq_true rfl) dL_law_948 ⟨Nat.le_of_ble_eq_true rfl, Nat.le_of_ble_eq_true rfl⟩ (fun H locs hP hP2 hS => ?_)
  refine lv_aload_n hx hb dL_law_951 rfl (lv_at hl 3 rfl) ?_
  refine lv_aload_n hx hb dL_law_952 rfl (lv_at hl 1 rfl) ?_
  refine lv_iload_n hx hb dL_law_953 rfl (lv_at hl 0 rfl) ?_
  refine lv_iconst (v := (1 : Int32)) hx hb dL_law_954 (by decide) ?_
  refine lv_iadd hx hb dL_law_955 ?_
  refine va_sld hx hb hX hbl hbA hS (lw_in hi (k := 1) (by omega) hL3) dL_law_956 ?_
  refine r_LMi X hL hP hP2 hS (c_X6_serve l (gM D a2 cA tO tC) v (xs (nI i + 1).toNatClampNeg) e2) (cwV 1 hts gL_law_X6_serve rfl rfl rfl (by decide +kernel) ⟨Nat.le_of_ble_eq_true rfl, Nat.le_of_ble_eq_true rfl⟩) rfl hl.1 rfl (Nat.le_of_ble_eq_true rfl) dL_law_957 ⟨Nat.le_of_ble_eq_true rfl, Nat.le_of_ble_eq_true rfl⟩ (fun H locs hP hP2 hS => ?_)
  exact lv_icmp_eq (tgt := 1342) hx hb dL_law_960 (by decide) (fun _ => kk _ _ _ _ hI' hP hP2 hS) (fun z => absurd rfl z)
set_option maxHeartbeats 4000000 in
set_option maxRecDepth 100000 in
theorem lc_need {p : Program} {l : Launch} {e : Env} {s : State} {m : MethodId} {below : List Frame} {meth : Method} {c : Code} {H : Heap} {locs : List Loc} {Q : State → Prop} {ls : Array Slot} {u v : UU} {D : va_G} {a1 a2 : Nat → Nat} {cA : Nat → ClassId} {tO tC b L i : Nat} {xs : Nat → Int32} (hA : LA p s m c b L xs D a1 a2 cA tO tC) (hi : i + 6 ≤ L) (hI : Inv u v) (hP : Ps (gC D a1 cA tO tC) 0 55 u H) (hP2 : Ps (gM D a2 cA tO tC) 55 20 v H) (hS : va_S (fun q => s.heap.size ≤ q) s.heap H locs) (hl : lv_has ls 4 [(3, .int (nI i)), (0, .ref b), (1, .ref (a1 0)), (2, .ref (a2 55))]) (kk : LK p l e s m b below meth c Q D a1 a2 cA tO tC ls) : W p l e room_1 s m #[Value.ref b] below meth c H locs 600000 7302249 Q (F0 m 965 ls []) := by
  obtain ⟨hx, hb, hml, hown, hts, hX, hbl, hL, hL3⟩ := hA
  have hbA : ¬ (fun q : Nat => s.heap.size ≤ q) b := Nat.not_le.mpr hbl
  have X : CallFix p m c cL_law 4 s #[Value.ref b] wsL_law RL := ⟨hx, hb, hml, hown, hts⟩
  obtain ⟨r, u', v', e1, e2, hI'⟩ := op_need hI 
  refine lv_aload_n hx hb dL_law_965 rfl (lv_at hl 2 rfl) ?_
  refine r_LCi X hL hP hP2 hS (c_X5_need l (gC D a1 cA tO tC) u e1) (cwV 0 hts gL_law_X5_need rfl rfl rfl (by decide +kernel) ⟨Nat.le_of_ble_eq_true rfl, Nat.le_of_ble_eq_true rfl⟩) rfl hl.1 rfl (Nat.le_of_ble_eq_true rfl) dL_law_966 ⟨Nat.le_of_ble_eq_true rfl, Nat.le_of_ble_eq_true rfl⟩ (fun H locs hP hP2 hS => ?_)
  refine lv_aload_n hx hb dL_law_969 rfl (lv_at hl 3 rfl) ?_
  refine r_LMi X hL hP hP2 hS (c_X6_need l (gM D a2 cA tO tC) v e2) (cwV 0 hts gL_law_X6_need rfl rfl rfl (by decide +kernel) ⟨Nat.le_of_ble_eq_true rfl, Nat.le_of_ble_eq_true rfl⟩) rfl hl.1 rfl (Nat.le_of_ble_eq_true rfl) dL_law_970 ⟨Nat.le_of_ble_eq_true rfl, Nat.le_of_ble_eq_true rfl⟩ (fun H locs hP hP2 hS => ?_)
  exact lv_icmp_eq (tgt := 1342) hx hb dL_law_973 (by decide) (fun _ => kk _ _ _ _ hI' hP hP2 hS) (fun z => absurd rfl z)
set_option maxHeartbeats 4000000 in
set_option maxRecDepth 100000 in
theorem lc_poor {p : Program} {l : Launch} {e : Env} {s : State} {m : MethodId} {below : List Frame} {meth : Method} {c : Code} {H : Heap} {locs : List Loc} {Q : State → Prop} {ls : Array Slot} {u v : UU} {D : va_G} {a1 a2 : Nat → Nat} {cA : Nat → ClassId} {tO tC b L i : Nat} {xs : Nat → Int32} (hA : LA p s m c b L xs D a1 a2 cA tO tC) (hi : i + 6 ≤ L) (hI : Inv u v) (hP : Ps (gC D a1 cA tO tC) 0 55 u H) (hP2 : Ps (gM D a2 cA tO tC) 55 20 v H) (hS : va_S (fun q => s.heap.size ≤ q) s.heap H locs) (hl : lv_has ls 4 [(3, .int (nI i)), (0, .ref b), (1, .ref (a1 0)), (2, .ref (a2 55))]) (kk : LK p l e s m b below meth c Q D a1 a2 cA tO tC ls) : W p l e room_1 s m #[Value.ref b] below meth c H locs 600000 7302249 Q (F0 m 978 ls []) := by
  obtain ⟨hx, hb, hml, hown, hts, hX, hbl, hL, hL3⟩ := hA
  have hbA : ¬ (fun q : Nat => s.heap.size ≤ q) b := Nat.not_le.mpr hbl
  have X : CallFix p m c cL_law 4 s #[Value.ref b] wsL_law RL := ⟨hx, hb, hml, hown, hts⟩
  obtain ⟨r, u', v', e1, e2, hI'⟩ := op_poor hI 
  refine lv_aload_n hx hb dL_law_978 rfl (lv_at hl 2 rfl) ?_
  refine r_LCi X hL hP hP2 hS (c_X5_poor l (gC D a1 cA tO tC) u e1) (cwV 0 hts gL_law_X5_poor rfl rfl rfl (by decide +kernel) ⟨Nat.le_of_ble_eq_true rfl, Nat.le_of_ble_eq_true rfl⟩) rfl hl.1 rfl (Nat.le_of_ble_eq_true rfl) dL_law_979 ⟨Nat.le_of_ble_eq_true rfl, Nat.le_of_ble_eq_true rfl⟩ (fun H locs hP hP2 hS => ?_)
  refine lv_aload_n hx hb dL_law_982 rfl (lv_at hl 3 rfl) ?_
  refine r_LMi X hL hP hP2 hS (c_X6_poor l (gM D a2 cA tO tC) v e2) (cwV 0 hts gL_law_X6_poor rfl rfl rfl (by decide +kernel) ⟨Nat.le_of_ble_eq_true rfl, Nat.le_of_ble_eq_true rfl⟩) rfl hl.1 rfl (Nat.le_of_ble_eq_true rfl) dL_law_983 ⟨Nat.le_of_ble_eq_true rfl, Nat.le_of_ble_eq_true rfl⟩ (fun H locs hP hP2 hS => ?_)
  exact lv_icmp_eq (tgt := 1342) hx hb dL_law_986 (by decide) (fun _ => kk _ _ _ _ hI' hP hP2 hS) (fun z => absurd rfl z)
set_option maxHeartbeats 4000000 in
set_option maxRecDepth 100000 in
theorem lc_ready {p : Program} {l : Launch} {e : Env} {s : State} {m : MethodId} {below : List Frame} {meth : Method} {c : Code} {H : Heap} {locs : List Loc} {Q : State → Prop} {ls : Array Slot} {u v : UU} {D : va_G} {a1 a2 : Nat → Nat} {cA : Nat → ClassId} {tO tC b L i : Nat} {xs : Nat → Int32} (hA : LA p s m c b L xs D a1 a2 cA tO tC) (hi : i + 6 ≤ L) (hI : Inv u v) (hP : Ps (gC D a1 cA tO tC) 0 55 u H) (hP2 : Ps (gM D a2 cA tO tC) 55 20 v H) (hS : va_S (fun q => s.heap.size ≤ q) s.heap H locs) (hl : lv_has ls 4 [(3, .int (nI i)), (0, .ref b), (1, .ref (a1 0)), (2, .ref (a2 55))]) (kk : LK p l e s m b below meth c Q D a1 a2 cA tO tC ls) : W p l e room_1 s m #[Value.ref b] below meth c H locs 600000 7302249 Q (F0 m 991 ls []) := by
  obtain ⟨hx, hb, hml, hown, hts, hX, hbl, hL, hL3⟩ := hA
  have hbA : ¬ (fun q : Nat => s.heap.size ≤ q) b := Nat.not_le.mpr hbl
  have X : CallFix p m c cL_law 4 s #[Value.ref b] wsL_law RL := ⟨hx, hb, hml, hown, hts⟩
  obtain ⟨r, u', v', e1, e2, hI'⟩ := op_ready hI 
  refine lv_aload_n hx hb dL_law_991 rfl (lv_at hl 2 rfl) ?_
  refine r_LCi X hL hP hP2 hS (c_X5_ready l (gC D a1 cA tO tC) u e1) (cwV 0 hts gL_law_X5_ready rfl rfl rfl (by decide +kernel) ⟨Nat.le_of_ble_eq_true rfl, Nat.le_of_ble_eq_true rfl⟩) rfl hl.1 rfl (Nat.le_of_ble_eq_true rfl) dL_law_992 ⟨Nat.le_of_ble_eq_true rfl, Nat.le_of_ble_eq_true rfl⟩ (fun H locs hP hP2 hS => ?_)
  refine lv_aload_n hx hb dL_law_995 rfl (lv_at hl 3 rfl) ?_
  refine r_LMi X hL hP hP2 hS (c_X6_ready l (gM D a2 cA tO tC) v e2) (cwV 0 hts gL_law_X6_ready rfl rfl rfl (by decide +kernel) ⟨Nat.le_of_ble_eq_true rfl, Nat.le_of_ble_eq_true rfl⟩) rfl hl.1 rfl (Nat.le_of_ble_eq_true rfl) dL_law_996 ⟨Nat.le_of_ble_eq_true rfl, Nat.le_of_ble_eq_true rfl⟩ (fun H locs hP hP2 hS => ?_)
  exact lv_icmp_eq (tgt := 1342) hx hb dL_law_999 (by decide) (fun _ => kk _ _ _ _ hI' hP hP2 hS) (fun z => absurd rfl z)
set_option maxHeartbeats 4000000 in
set_option maxRecDepth 100000 in
theorem lc_best {p : Program} {l : Launch} {e : Env} {s : State} {m : MethodId} {below : List Frame} {meth : Method} {c : Code} {H : Heap} {locs : List Loc} {Q : State → Prop} {ls : Array Slot} {u v : UU} {D : va_G} {a1 a2 : Nat → Nat} {cA : Nat → ClassId} {tO tC b L i : Nat} {xs : Nat → Int32} (hA : LA p s m c b L xs D a1 a2 cA tO tC) (hi : i + 6 ≤ L) (hI : Inv u v) (hP : Ps (gC D a1 cA tO tC) 0 55 u H) (hP2 : Ps (gM D a2 cA tO tC) 55 20 v H) (hS : va_S (fun q => s.heap.size ≤ q) s.heap H locs) (hl : lv_has ls 4 [(3, .int (nI i)), (0, .ref b), (1, .ref (a1 0)), (2, .ref (a2 55))]) (kk : LK p l e s m b below meth c Q D a1 a2 cA tO tC ls) : W p l e room_1 s m #[Value.ref b] below meth c H locs 600000 7302249 Q (F0 m 1004 ls []) := by
  obtain ⟨hx, hb, hml, hown, hts, hX, hbl, hL, hL3⟩ := hA
  have hbA : ¬ (fun q : Nat => s.heap.size ≤ q) b := Nat.not_le.mpr hbl
  have X : CallFix p m c cL_law 4 s #[Value.ref b] wsL_law RL := ⟨hx, hb, hml, hown, hts⟩
  obtain ⟨r, u', v', e1, e2, hI'⟩ := op_best hI 
  refine lv_aload_n hx hb dL_law_1004 rfl (lv_at hl 2 rfl) ?_
  refine r_LCi X hL hP hP2 hS (c_X5_best l (gC D a1 cA tO tC) u e1) (cwV 0 hts gL_law_X5_best rfl rfl rfl (by decide +kernel) ⟨Nat.le_of_ble_eq_true rfl, Nat.le_of_ble_eq_true rfl⟩) rfl hl.1 rfl (Nat.le_of_ble_eq_true rfl) dL_law_1005 ⟨Nat.le_of_ble_eq_true rfl, Nat.le_of_ble_eq_true rfl⟩ (fun H locs hP hP2 hS => ?_)
  refine lv_aload_n hx hb dL_law_1008 rfl (lv_at hl 3 rfl) ?_
  refine r_LMi X hL hP hP2 hS (c_X6_best l (gM D a2 cA tO tC) v e2) (cwV 0 hts gL_law_X6_best rfl rfl rfl (by decide +kernel) ⟨Nat.le_of_ble_eq_true rfl, Nat.le_of_ble_eq_true rfl⟩) rfl hl.1 rfl (Nat.le_of_ble_eq_true rfl) dL_law_1009 ⟨Nat.le_of_ble_eq_true rfl, Nat.le_of_ble_eq_true rfl⟩ (fun H locs hP hP2 hS => ?_)
  exact lv_icmp_eq (tgt := 1342) hx hb dL_law_1012 (by decide) (fun _ => kk _ _ _ _ hI' hP hP2 hS) (fun z => absurd rfl z)
set_option maxHeartbeats 4000000 in
set_option maxRecDepth 100000 in
theorem lc_dues {p : Program} {l : Launch} {e : Env} {s : State} {m : MethodId} {below : List Frame} {meth : Method} {c : Code} {H : Heap} {locs : List Loc} {Q : State → Prop} {ls : Array Slot} {u v : UU} {D : va_G} {a1 a2 : Nat → Nat} {cA : Nat → ClassId} {tO tC b L i : Nat} {xs : Nat → Int32} (hA : LA p s m c b L xs D a1 a2 cA tO tC) (hi : i + 6 ≤ L) (hI : Inv u v) (hP : Ps (gC D a1 cA tO tC) 0 55 u H) (hP2 : Ps (gM D a2 cA tO tC) 55 20 v H) (hS : va_S (fun q => s.heap.size ≤ q) s.heap H locs) (hl : lv_has ls 4 [(3, .int (nI i)), (0, .ref b), (1, .ref (a1 0)), (2, .ref (a2 55))]) (kk : LK p l e s m b below meth c Q D a1 a2 cA tO tC ls) : W p l e room_1 s m #[Value.ref b] below meth c H locs 600000 7302249 Q (F0 m 1017 ls []) := by
  obtain ⟨hx, hb, hml, hown, hts, hX, hbl, hL, hL3⟩ := hA
  have hbA : ¬ (fun q : Nat => s.heap.size ≤ q) b := Nat.not_le.mpr hbl
  have X : CallFix p m c cL_law 4 s #[Value.ref b] wsL_law RL := ⟨hx, hb, hml, hown, hts⟩
  obtain ⟨r, u', v', e1, e2, hI'⟩ := op_dues hI (xs (nI i + 1).toNatClampNeg)
  refine lv_aload_n hx hb dL_law_1017 rfl (lv_at hl 2 rfl) ?_
  refine lv_aload_n hx hb dL_law_1018 rfl (lv_at hl 1 rfl) ?_
  refine lv_iload_n hx hb dL_law_1019 rfl (lv_at hl 0 rfl) ?_
  refine lv_iconst (v := (1 : Int32)) hx hb dL_law_1020 (by decide) ?_
  refine lv_iadd hx hb dL_law_1021 ?_
  refine va_sld hx hb hX hbl hbA hS (lw_in hi (k := 1) (by omega) hL3) dL_law_1022 ?_
  refine r_LCi X hL hP hP2 hS (c_X5_dues l (gC D a1 cA tO tC) u (xs (nI i + 1).toNatClampNeg) e1) (cwV 1 hts gL_law_X5_dues rfl rfl rfl (by decide +kernel) ⟨Nat.le_of_ble_eq_true rfl, Nat.le_of_ble_eq_true rfl⟩) rfl hl.1 rfl (Nat.le_of_ble_eq_true rfl) dL_law_1023 ⟨Nat.le_of_ble_eq_true rfl, Nat.le_of_ble_eq_true rfl⟩ (fun H locs hP hP2 hS => ?_)
  refine lv_aload_n hx hb dL_law_1026 rfl (lv_at hl 3 rfl) ?_
  refine lv_aload_n hx hb dL_law_1027 rfl (lv_at hl 1 rfl) ?_
  refine lv_iload_n hx hb dL_law_1028 rfl (lv_at hl 0 rfl) ?_
  refine lv_iconst (v := (1 : Int32)) hx hb dL_law_1029 (by decide) ?_
  refine lv_iadd hx hb dL_law_1030 ?_
  refine va_sld hx hb hX hbl hbA hS (lw_in hi (k := 1) (by omega) hL3) dL_law_1031 ?_
  refine r_LMi X hL hP hP2 hS (c_X6_dues l (gM D a2 cA tO tC) v (xs (nI i + 1).toNatClampNeg) e2) (cwV 1 hts gL_law_X6_dues rfl rfl rfl (by decide +kernel) ⟨Nat.le_of_ble_eq_true rfl, Nat.le_of_ble_eq_true rfl⟩) rfl hl.1 rfl (Nat.le_of_ble_eq_true rfl) dL_law_1032 ⟨Nat.le_of_ble_eq_true rfl, Nat.le_of_ble_eq_true rfl⟩ (fun H locs hP hP2 hS => ?_)
  exact lv_icmp_eq (tgt := 1342) hx hb dL_law_1035 (by decide) (fun _ => kk _ _ _ _ hI' hP hP2 hS) (fun z => absurd rfl z)
set_option maxHeartbeats 4000000 in
set_option maxRecDepth 100000 in
theorem lc_kinds {p : Program} {l : Launch} {e : Env} {s : State} {m : MethodId} {below : List Frame} {meth : Method} {c : Code} {H : Heap} {locs : List Loc} {Q : State → Prop} {ls : Array Slot} {u v : UU} {D : va_G} {a1 a2 : Nat → Nat} {cA : Nat → ClassId} {tO tC b L i : Nat} {xs : Nat → Int32} (hA : LA p s m c b L xs D a1 a2 cA tO tC) (hi : i + 6 ≤ L) (hI : Inv u v) (hP : Ps (gC D a1 cA tO tC) 0 55 u H) (hP2 : Ps (gM D a2 cA tO tC) 55 20 v H) (hS : va_S (fun q => s.heap.size ≤ q) s.heap H locs) (hl : lv_has ls 4 [(3, .int (nI i)), (0, .ref b), (1, .ref (a1 0)), (2, .ref (a2 55))]) (kk : LK p l e s m b below meth c Q D a1 a2 cA tO tC ls) : W p l e room_1 s m #[Value.ref b] below meth c H locs 600000 7302249 Q (F0 m 1040 ls []) := by
  obtain ⟨hx, hb, hml, hown, hts, hX, hbl, hL, hL3⟩ := hA
  have hbA : ¬ (fun q : Nat => s.heap.size ≤ q) b := Nat.not_le.mpr hbl
  have X : CallFix p m c cL_law 4 s #[Value.ref b] wsL_law RL := ⟨hx, hb, hml, hown, hts⟩
  obtain ⟨r, u', v', e1, e2, hI'⟩ := op_kinds hI (xs (nI i + 1).toNatClampNeg)
  refine lv_aload_n hx hb dL_law_1040 rfl (lv_at hl 2 rfl) ?_
  refine lv_aload_n hx hb dL_law_1041 rfl (lv_at hl 1 rfl) ?_
  refine lv_iload_n hx hb dL_law_1042 rfl (lv_at hl 0 rfl) ?_
  refine lv_iconst (v := (1 : Int32)) hx hb dL_law_1043 (by decide) ?_
  refine lv_iadd hx hb dL_law_1044 ?_
  refine va_sld hx hb hX hbl hbA hS (lw_in hi (k := 1) (by omega) hL3) dL_law_1045 ?_
  refine r_LCi X hL hP hP2 hS (c_X5_kinds l (gC D a1 cA tO tC) u (xs (nI i + 1).toNatClampNeg) e1) (cwV 1 hts gL_law_X5_kinds rfl rfl rfl (by decide +kernel) ⟨Nat.le_of_ble_eq_true rfl, Nat.le_of_ble_eq_true rfl⟩) rfl hl.1 rfl (Nat.le_of_ble_eq_true rfl) dL_law_1046 ⟨Nat.le_of_ble_eq_true rfl, Nat.le_of_ble_eq_true rfl⟩ (fun H locs hP hP2 hS => ?_)
  refine lv_aload_n hx hb dL_law_1049 rfl (lv_at hl 3 rfl) ?_
  refine lv_aload_n hx hb dL_law_1050 rfl (lv_at hl 1 rfl) ?_
  refine lv_iload_n hx hb dL_law_1051 rfl (lv_at hl 0 rfl) ?_
  refine lv_iconst (v := (1 : Int32)) hx hb dL_law_1052 (by decide) ?_
  refine lv_iadd hx hb dL_law_1053 ?_
  refine va_sld hx hb hX hbl hbA hS (lw_in hi (k := 1) (by omega) hL3) dL_law_1054 ?_
  refine r_LMi X hL hP hP2 hS (c_X6_kinds l (gM D a2 cA tO tC) v (xs (nI i + 1).toNatClampNeg) e2) (cwV 1 hts gL_law_X6_kinds rfl rfl rfl (by decide +kernel) ⟨Nat.le_of_ble_eq_true rfl, Nat.le_of_ble_eq_true rfl⟩) rfl hl.1 rfl (Nat.le_of_ble_eq_true rfl) dL_law_1055 ⟨Nat.le_of_ble_eq_true rfl, Nat.le_of_ble_eq_true rfl⟩ (fun H locs hP hP2 hS => ?_)
  exact lv_icmp_eq (tgt := 1342) hx hb dL_law_1058 (by decide) (fun _ => kk _ _ _ _ hI' hP hP2 hS) (fun z => absurd rfl z)
set_option maxHeartbeats 4000000 in
set_option maxRecDepth 100000 in
theorem lc_test {p : Program} {l : Launch} {e : Env} {s : State} {m : MethodId} {below : List Frame} {meth : Method} {c : Code} {H : Heap} {locs : List Loc} {Q : State → Prop} {ls : Array Slot} {u v : UU} {D : va_G} {a1 a2 : Nat → Nat} {cA : Nat → ClassId} {tO tC b L i : Nat} {xs : Nat → Int32} (hA : LA p s m c b L xs D a1 a2 cA tO tC) (hi : i + 6 ≤ L) (hI : Inv u v) (hP : Ps (gC D a1 cA tO tC) 0 55 u H) (hP2 : Ps (gM D a2 cA tO tC) 55 20 v H) (hS : va_S (fun q => s.heap.size ≤ q) s.heap H locs) (hl : lv_has ls 4 [(3, .int (nI i)), (0, .ref b), (1, .ref (a1 0)), (2, .ref (a2 55))]) (kk : LK p l e s m b below meth c Q D a1 a2 cA tO tC ls) : W p l e room_1 s m #[Value.ref b] below meth c H locs 600000 7302249 Q (F0 m 1063 ls []) := by
  obtain ⟨hx, hb, hml, hown, hts, hX, hbl, hL, hL3⟩ := hA
  have hbA : ¬ (fun q : Nat => s.heap.size ≤ q) b := Nat.not_le.mpr hbl
  have X : CallFix p m c cL_law 4 s #[Value.ref b] wsL_law RL := ⟨hx, hb, hml, hown, hts⟩
  obtain ⟨r, u', v', e1, e2, hI'⟩ := op_test hI (xs (nI i + 1).toNatClampNeg)
  refine lv_aload_n hx hb dL_law_1063 rfl (lv_at hl 2 rfl) ?_
  refine lv_aload_n hx hb dL_law_1064 rfl (lv_at hl 1 rfl) ?_
  refine lv_iload_n hx hb dL_law_1065 rfl (lv_at hl 0 rfl) ?_
  refine lv_iconst (v := (1 : Int32)) hx hb dL_law_1066 (by decide) ?_
  refine lv_iadd hx hb dL_law_1067 ?_
  refine va_sld hx hb hX hbl hbA hS (lw_in hi (k := 1) (by omega) hL3) dL_law_1068 ?_
  refine r_LCi X hL hP hP2 hS (c_X5_test l (gC D a1 cA tO tC) u (xs (nI i + 1).toNatClampNeg) e1) (cwV 1 hts gL_law_X5_test rfl rfl rfl (by decide +kernel) ⟨Nat.le_of_ble_eq_true rfl, Nat.le_of_ble_eq_true rfl⟩) rfl hl.1 rfl (Nat.le_of_ble_eq_true rfl) dL_law_1069 ⟨Nat.le_of_ble_eq_true rfl, Nat.le_of_ble_eq_true rfl⟩ (fun H locs hP hP2 hS => ?_)
  refine lv_aload_n hx hb dL_law_1072 rfl (lv_at hl 3 rfl) ?_
  refine lv_aload_n hx hb dL_law_1073 rfl (lv_at hl 1 rfl) ?_
  refine lv_iload_n hx hb dL_law_1074 rfl (lv_at hl 0 rfl) ?_
  refine lv_iconst (v := (1 : Int32)) hx hb dL_law_1075 (by decide) ?_
  refine lv_iadd hx hb dL_law_1076 ?_
  refine va_sld hx hb hX hbl hbA hS (lw_in hi (k := 1) (by omega) hL3) dL_law_1077 ?_
  refine r_LMi X hL hP hP2 hS (c_X6_test l (gM D a2 cA tO tC) v (xs (nI i + 1).toNatClampNeg) e2) (cwV 1 hts gL_law_X6_test rfl rfl rfl (by decide +kernel) ⟨Nat.le_of_ble_eq_true rfl, Nat.le_of_ble_eq_true rfl⟩) rfl hl.1 rfl (Nat.le_of_ble_eq_true rfl) dL_law_1078 ⟨Nat.le_of_ble_eq_true rfl, Nat.le_of_ble_eq_true rfl⟩ (fun H locs hP hP2 hS => ?_)
  exact lv_icmp_eq (tgt := 1342) hx hb dL_law_1081 (by decide) (fun _ => kk _ _ _ _ hI' hP hP2 hS) (fun z => absurd rfl z)
set_option maxHeartbeats 4000000 in
set_option maxRecDepth 100000 in
theorem lc_duel {p : Program} {l : Launch} {e : Env} {s : State} {m : MethodId} {below : List Frame} {meth : Method} {c : Code} {H : Heap} {locs : List Loc} {Q : State → Prop} {ls : Array Slot} {u v : UU} {D : va_G} {a1 a2 : Nat → Nat} {cA : Nat → ClassId} {tO tC b L i : Nat} {xs : Nat → Int32} (hA : LA p s m c b L xs D a1 a2 cA tO tC) (hi : i + 6 ≤ L) (hI : Inv u v) (hP : Ps (gC D a1 cA tO tC) 0 55 u H) (hP2 : Ps (gM D a2 cA tO tC) 55 20 v H) (hS : va_S (fun q => s.heap.size ≤ q) s.heap H locs) (hl : lv_has ls 4 [(3, .int (nI i)), (0, .ref b), (1, .ref (a1 0)), (2, .ref (a2 55))]) (kk : LK p l e s m b below meth c Q D a1 a2 cA tO tC ls) : W p l e room_1 s m #[Value.ref b] below meth c H locs 600000 7302249 Q (F0 m 1086 ls []) := by
  obtain ⟨hx, hb, hml, hown, hts, hX, hbl, hL, hL3⟩ := hA
  have hbA : ¬ (fun q : Nat => s.heap.size ≤ q) b := Nat.not_le.mpr hbl
  have X : CallFix p m c cL_law 4 s #[Value.ref b] wsL_law RL := ⟨hx, hb, hml, hown, hts⟩
  obtain ⟨r, u', v', e1, e2, hI'⟩ := op_duel hI (xs (nI i + 1).toNatClampNeg) (xs (nI i + 2).toNatClampNeg) (xs (nI i + 3).toNatClampNeg)
  refine lv_aload_n hx hb dL_law_1086 rfl (lv_at hl 2 rfl) ?_
  refine lv_aload_n hx hb dL_law_1087 rfl (lv_at hl 1 rfl) ?_
  refine lv_iload_n hx hb dL_law_1088 rfl (lv_at hl 0 rfl) ?_
  refine lv_iconst (v := (1 : Int32)) hx hb dL_law_1089 (by decide) ?_
  refine lv_iadd hx hb dL_law_1090 ?_
  refine va_sld hx hb hX hbl hbA hS (lw_in hi (k := 1) (by omega) hL3) dL_law_1091 ?_
  refine lv_aload_n hx hb dL_law_1092 rfl (lv_at hl 1 rfl) ?_
  refine lv_iload_n hx hb dL_law_1093 rfl (lv_at hl 0 rfl) ?_
  refine lv_iconst (v := (2 : Int32)) hx hb dL_law_1094 (by decide) ?_
  refine lv_iadd hx hb dL_law_1095 ?_
  refine va_sld hx hb hX hbl hbA hS (lw_in hi (k := 2) (by omega) hL3) dL_law_1096 ?_
  refine lv_aload_n hx hb dL_law_1097 rfl (lv_at hl 1 rfl) ?_
  refine lv_iload_n hx hb dL_law_1098 rfl (lv_at hl 0 rfl) ?_
  refine lv_iconst (v := (3 : Int32)) hx hb dL_law_1099 (by decide) ?_
  refine lv_iadd hx hb dL_law_1100 ?_
  refine va_sld hx hb hX hbl hbA hS (lw_in hi (k := 3) (by omega) hL3) dL_law_1101 ?_
  refine r_LCi X hL hP hP2 hS (c_X5_duel l (gC D a1 cA tO tC) u (xs (nI i + 1).toNatClampNeg) (xs (nI i + 2).toNatClampNeg) (xs (nI i + 3).toNatClampNeg) e1) (cwV 3 hts gL_law_X5_duel rfl rfl rfl (by decide +kernel) ⟨Nat.le_of_ble_eq_true rfl, Nat.le_of_ble_eq_true rfl⟩) rfl hl.1 rfl (Nat.le_of_ble_eq_true rfl) dL_law_1102 ⟨Nat.le_of_ble_eq_true rfl, Nat.le_of_ble_eq_true rfl⟩ (fun H locs hP hP2 hS => ?_)
  refine lv_aload_n hx hb dL_law_1105 rfl (lv_at hl 3 rfl) ?_
  refine lv_aload_n hx hb dL_law_1106 rfl (lv_at hl 1 rfl) ?_
  refine lv_iload_n hx hb dL_law_1107 rfl (lv_at hl 0 rfl) ?_
  refine lv_iconst (v := (1 : Int32)) hx hb dL_law_1108 (by decide) ?_
  refine lv_iadd hx hb dL_law_1109 ?_
  refine va_sld hx hb hX hbl hbA hS (lw_in hi (k := 1) (by omega) hL3) dL_law_1110 ?_
  refine lv_aload_n hx hb dL_law_1111 rfl (lv_at hl 1 rfl) ?_
  refine lv_iload_n hx hb dL_law_1112 rfl (lv_at hl 0 rfl) ?_
  refine lv_iconst (v := (2 : Int32)) hx hb dL_law_1113 (by decide) ?_
  refine lv_iadd hx hb dL_law_1114 ?_
  refine va_sld hx hb hX hbl hbA hS (lw_in hi (k := 2) (by omega) hL3) dL_law_1115 ?_
  refine lv_aload_n hx hb dL_law_1116 rfl (lv_at hl 1 rfl) ?_
  refine lv_iload_n hx hb dL_law_1117 rfl (lv_at hl 0 rfl) ?_
  refine lv_iconst (v := (3 : Int32)) hx hb dL_law_1118 (by decide) ?_
  refine lv_iadd hx hb dL_law_1119 ?_
  refine va_sld hx hb hX hbl hbA hS (lw_in hi (k := 3) (by omega) hL3) dL_law_1120 ?_
  refine r_LMi X hL hP hP2 hS (c_X6_duel l (gM D a2 cA tO tC) v (xs (nI i + 1).toNatClampNeg) (xs (nI i + 2).toNatClampNeg) (xs (nI i + 3).toNatClampNeg) e2) (cwV 3 hts gL_law_X6_duel rfl rfl rfl (by decide +kernel) ⟨Nat.le_of_ble_eq_true rfl, Nat.le_of_ble_eq_true rfl⟩) rfl hl.1 rfl (Nat.le_of_ble_eq_true rfl) dL_law_1121 ⟨Nat.le_of_ble_eq_true rfl, Nat.le_of_ble_eq_true rfl⟩ (fun H locs hP hP2 hS => ?_)
  exact lv_icmp_eq (tgt := 1342) hx hb dL_law_1124 (by decide) (fun _ => kk _ _ _ _ hI' hP hP2 hS) (fun z => absurd rfl z)
set_option maxHeartbeats 4000000 in
set_option maxRecDepth 100000 in
theorem lc_odds {p : Program} {l : Launch} {e : Env} {s : State} {m : MethodId} {below : List Frame} {meth : Method} {c : Code} {H : Heap} {locs : List Loc} {Q : State → Prop} {ls : Array Slot} {u v : UU} {D : va_G} {a1 a2 : Nat → Nat} {cA : Nat → ClassId} {tO tC b L i : Nat} {xs : Nat → Int32} (hA : LA p s m c b L xs D a1 a2 cA tO tC) (hi : i + 6 ≤ L) (hI : Inv u v) (hP : Ps (gC D a1 cA tO tC) 0 55 u H) (hP2 : Ps (gM D a2 cA tO tC) 55 20 v H) (hS : va_S (fun q => s.heap.size ≤ q) s.heap H locs) (hl : lv_has ls 4 [(3, .int (nI i)), (0, .ref b), (1, .ref (a1 0)), (2, .ref (a2 55))]) (kk : LK p l e s m b below meth c Q D a1 a2 cA tO tC ls) : W p l e room_1 s m #[Value.ref b] below meth c H locs 600000 7302249 Q (F0 m 1129 ls []) := by
  obtain ⟨hx, hb, hml, hown, hts, hX, hbl, hL, hL3⟩ := hA
  have hbA : ¬ (fun q : Nat => s.heap.size ≤ q) b := Nat.not_le.mpr hbl
  have X : CallFix p m c cL_law 4 s #[Value.ref b] wsL_law RL := ⟨hx, hb, hml, hown, hts⟩
  obtain ⟨r, u', v', e1, e2, hI'⟩ := op_odds hI (xs (nI i + 1).toNatClampNeg) (xs (nI i + 2).toNatClampNeg)
  refine lv_aload_n hx hb dL_law_1129 rfl (lv_at hl 2 rfl) ?_
  refine lv_aload_n hx hb dL_law_1130 rfl (lv_at hl 1 rfl) ?_
  refine lv_iload_n hx hb dL_law_1131 rfl (lv_at hl 0 rfl) ?_
  refine lv_iconst (v := (1 : Int32)) hx hb dL_law_1132 (by decide) ?_
  refine lv_iadd hx hb dL_law_1133 ?_
  refine va_sld hx hb hX hbl hbA hS (lw_in hi (k := 1) (by omega) hL3) dL_law_1134 ?_
  refine lv_aload_n hx hb dL_law_1135 rfl (lv_at hl 1 rfl) ?_
  refine lv_iload_n hx hb dL_law_1136 rfl (lv_at hl 0 rfl) ?_
  refine lv_iconst (v := (2 : Int32)) hx hb dL_law_1137 (by decide) ?_
  refine lv_iadd hx hb dL_law_1138 ?_
  refine va_sld hx hb hX hbl hbA hS (lw_in hi (k := 2) (by omega) hL3) dL_law_1139 ?_
  refine r_LCi X hL hP hP2 hS (c_X5_odds l (gC D a1 cA tO tC) u (xs (nI i + 1).toNatClampNeg) (xs (nI i + 2).toNatClampNeg) e1) (cwV 2 hts gL_law_X5_odds rfl rfl rfl (by decide +kernel) ⟨Nat.le_of_ble_eq_true rfl, Nat.le_of_ble_eq_true rfl⟩) rfl hl.1 rfl (Nat.le_of_ble_eq_true rfl) dL_law_1140 ⟨Nat.le_of_ble_eq_true rfl, Nat.le_of_ble_eq_true rfl⟩ (fun H locs hP hP2 hS => ?_)
  refine lv_aload_n hx hb dL_law_1143 rfl (lv_at hl 3 rfl) ?_
  refine lv_aload_n hx hb dL_law_1144 rfl (lv_at hl 1 rfl) ?_
  refine lv_iload_n hx hb dL_law_1145 rfl (lv_at hl 0 rfl) ?_
  refine lv_iconst (v := (1 : Int32)) hx hb dL_law_1146 (by decide) ?_
  refine lv_iadd hx hb dL_law_1147 ?_
  refine va_sld hx hb hX hbl hbA hS (lw_in hi (k := 1) (by omega) hL3) dL_law_1148 ?_
  refine lv_aload_n hx hb dL_law_1149 rfl (lv_at hl 1 rfl) ?_
  refine lv_iload_n hx hb dL_law_1150 rfl (lv_at hl 0 rfl) ?_
  refine lv_iconst (v := (2 : Int32)) hx hb dL_law_1151 (by decide) ?_
  refine lv_iadd hx hb dL_law_1152 ?_
  refine va_sld hx hb hX hbl hbA hS (lw_in hi (k := 2) (by omega) hL3) dL_law_1153 ?_
  refine r_LMi X hL hP hP2 hS (c_X6_odds l (gM D a2 cA tO tC) v (xs (nI i + 1).toNatClampNeg) (xs (nI i + 2).toNatClampNeg) e2) (cwV 2 hts gL_law_X6_odds rfl rfl rfl (by decide +kernel) ⟨Nat.le_of_ble_eq_true rfl, Nat.le_of_ble_eq_true rfl⟩) rfl hl.1 rfl (Nat.le_of_ble_eq_true rfl) dL_law_1154 ⟨Nat.le_of_ble_eq_true rfl, Nat.le_of_ble_eq_true rfl⟩ (fun H locs hP hP2 hS => ?_)
  exact lv_icmp_eq (tgt := 1342) hx hb dL_law_1157 (by decide) (fun _ => kk _ _ _ _ hI' hP hP2 hS) (fun z => absurd rfl z)
set_option maxHeartbeats 4000000 in
set_option maxRecDepth 100000 in
theorem lc_mid {p : Program} {l : Launch} {e : Env} {s : State} {m : MethodId} {below : List Frame} {meth : Method} {c : Code} {H : Heap} {locs : List Loc} {Q : State → Prop} {ls : Array Slot} {u v : UU} {D : va_G} {a1 a2 : Nat → Nat} {cA : Nat → ClassId} {tO tC b L i : Nat} {xs : Nat → Int32} (hA : LA p s m c b L xs D a1 a2 cA tO tC) (hi : i + 6 ≤ L) (hI : Inv u v) (hP : Ps (gC D a1 cA tO tC) 0 55 u H) (hP2 : Ps (gM D a2 cA tO tC) 55 20 v H) (hS : va_S (fun q => s.heap.size ≤ q) s.heap H locs) (hl : lv_has ls 4 [(3, .int (nI i)), (0, .ref b), (1, .ref (a1 0)), (2, .ref (a2 55))]) (kk : LK p l e s m b below meth c Q D a1 a2 cA tO tC ls) : W p l e room_1 s m #[Value.ref b] below meth c H locs 600000 7302249 Q (F0 m 1162 ls []) := by
  obtain ⟨hx, hb, hml, hown, hts, hX, hbl, hL, hL3⟩ := hA
  have hbA : ¬ (fun q : Nat => s.heap.size ≤ q) b := Nat.not_le.mpr hbl
  have X : CallFix p m c cL_law 4 s #[Value.ref b] wsL_law RL := ⟨hx, hb, hml, hown, hts⟩
  obtain ⟨r, u', v', e1, e2, hI'⟩ := op_mid hI (xs (nI i + 1).toNatClampNeg) (xs (nI i + 2).toNatClampNeg)
  refine lv_aload_n hx hb dL_law_1162 rfl (lv_at hl 2 rfl) ?_
  refine lv_aload_n hx hb dL_law_1163 rfl (lv_at hl 1 rfl) ?_
  refine lv_iload_n hx hb dL_law_1164 rfl (lv_at hl 0 rfl) ?_
  refine lv_iconst (v := (1 : Int32)) hx hb dL_law_1165 (by decide) ?_
  refine lv_iadd hx hb dL_law_1166 ?_
  refine va_sld hx hb hX hbl hbA hS (lw_in hi (k := 1) (by omega) hL3) dL_law_1167 ?_
  refine lv_aload_n hx hb dL_law_1168 rfl (lv_at hl 1 rfl) ?_
  refine lv_iload_n hx hb dL_law_1169 rfl (lv_at hl 0 rfl) ?_
  refine lv_iconst (v := (2 : Int32)) hx hb dL_law_1170 (by decide) ?_
  refine lv_iadd hx hb dL_law_1171 ?_
  refine va_sld hx hb hX hbl hbA hS (lw_in hi (k := 2) (by omega) hL3) dL_law_1172 ?_
  refine r_LCi X hL hP hP2 hS (c_X5_mid l (gC D a1 cA tO tC) u (xs (nI i + 1).toNatClampNeg) (xs (nI i + 2).toNatClampNeg) e1) (cwV 2 hts gL_law_X5_mid rfl rfl rfl (by decide +kernel) ⟨Nat.le_of_ble_eq_true rfl, Nat.le_of_ble_eq_true rfl⟩) rfl hl.1 rfl (Nat.le_of_ble_eq_true rfl) dL_law_1173 ⟨Nat.le_of_ble_eq_true rfl, Nat.le_of_ble_eq_true rfl⟩ (fun H locs hP hP2 hS => ?_)
  refine lv_aload_n hx hb dL_law_1176 rfl (lv_at hl 3 rfl) ?_
  refine lv_aload_n hx hb dL_law_1177 rfl (lv_at hl 1 rfl) ?_
  refine lv_iload_n hx hb dL_law_1178 rfl (lv_at hl 0 rfl) ?_
  refine lv_iconst (v := (1 : Int32)) hx hb dL_law_1179 (by decide) ?_
  refine lv_iadd hx hb dL_law_1180 ?_
  refine va_sld hx hb hX hbl hbA hS (lw_in hi (k := 1) (by omega) hL3) dL_law_1181 ?_
  refine lv_aload_n hx hb dL_law_1182 rfl (lv_at hl 1 rfl) ?_
  refine lv_iload_n hx hb dL_law_1183 rfl (lv_at hl 0 rfl) ?_
  refine lv_iconst (v := (2 : Int32)) hx hb dL_law_1184 (by decide) ?_
  refine lv_iadd hx hb dL_law_1185 ?_
  refine va_sld hx hb hX hbl hbA hS (lw_in hi (k := 2) (by omega) hL3) dL_law_1186 ?_
  refine r_LMi X hL hP hP2 hS (c_X6_mid l (gM D a2 cA tO tC) v (xs (nI i + 1).toNatClampNeg) (xs (nI i + 2).toNatClampNeg) e2) (cwV 2 hts gL_law_X6_mid rfl rfl rfl (by decide +kernel) ⟨Nat.le_of_ble_eq_true rfl, Nat.le_of_ble_eq_true rfl⟩) rfl hl.1 rfl (Nat.le_of_ble_eq_true rfl) dL_law_1187 ⟨Nat.le_of_ble_eq_true rfl, Nat.le_of_ble_eq_true rfl⟩ (fun H locs hP hP2 hS => ?_)
  exact lv_icmp_eq (tgt := 1342) hx hb dL_law_1190 (by decide) (fun _ => kk _ _ _ _ hI' hP hP2 hS) (fun z => absurd rfl z)
set_option maxHeartbeats 4000000 in
set_option maxRecDepth 100000 in
theorem lc_lots {p : Program} {l : Launch} {e : Env} {s : State} {m : MethodId} {below : List Frame} {meth : Method} {c : Code} {H : Heap} {locs : List Loc} {Q : State → Prop} {ls : Array Slot} {u v : UU} {D : va_G} {a1 a2 : Nat → Nat} {cA : Nat → ClassId} {tO tC b L i : Nat} {xs : Nat → Int32} (hA : LA p s m c b L xs D a1 a2 cA tO tC) (hi : i + 6 ≤ L) (hI : Inv u v) (hP : Ps (gC D a1 cA tO tC) 0 55 u H) (hP2 : Ps (gM D a2 cA tO tC) 55 20 v H) (hS : va_S (fun q => s.heap.size ≤ q) s.heap H locs) (hl : lv_has ls 4 [(3, .int (nI i)), (0, .ref b), (1, .ref (a1 0)), (2, .ref (a2 55))]) (kk : LK p l e s m b below meth c Q D a1 a2 cA tO tC ls) : W p l e room_1 s m #[Value.ref b] below meth c H locs 600000 7302249 Q (F0 m 1195 ls []) := by
  obtain ⟨hx, hb, hml, hown, hts, hX, hbl, hL, hL3⟩ := hA
  have hbA : ¬ (fun q : Nat => s.heap.size ≤ q) b := Nat.not_le.mpr hbl
  have X : CallFix p m c cL_law 4 s #[Value.ref b] wsL_law RL := ⟨hx, hb, hml, hown, hts⟩
  obtain ⟨r, u', v', e1, e2, hI'⟩ := op_lots hI (xs (nI i + 1).toNatClampNeg) (xs (nI i + 2).toNatClampNeg)
  refine lv_aload_n hx hb dL_law_1195 rfl (lv_at hl 2 rfl) ?_
  refine lv_aload_n hx hb dL_law_1196 rfl (lv_at hl 1 rfl) ?_
  refine lv_iload_n hx hb dL_law_1197 rfl (lv_at hl 0 rfl) ?_
  refine lv_iconst (v := (1 : Int32)) hx hb dL_law_1198 (by decide) ?_
  refine lv_iadd hx hb dL_law_1199 ?_
  refine va_sld hx hb hX hbl hbA hS (lw_in hi (k := 1) (by omega) hL3) dL_law_1200 ?_
  refine lv_aload_n hx hb dL_law_1201 rfl (lv_at hl 1 rfl) ?_
  refine lv_iload_n hx hb dL_law_1202 rfl (lv_at hl 0 rfl) ?_
  refine lv_iconst (v := (2 : Int32)) hx hb dL_law_1203 (by decide) ?_
  refine lv_iadd hx hb dL_law_1204 ?_
  refine va_sld hx hb hX hbl hbA hS (lw_in hi (k := 2) (by omega) hL3) dL_law_1205 ?_
  refine r_LCi X hL hP hP2 hS (c_X5_lots l (gC D a1 cA tO tC) u (xs (nI i + 1).toNatClampNeg) (xs (nI i + 2).toNatClampNeg) e1) (cwV 2 hts gL_law_X5_lots rfl rfl rfl (by decide +kernel) ⟨Nat.le_of_ble_eq_true rfl, Nat.le_of_ble_eq_true rfl⟩) rfl hl.1 rfl (Nat.le_of_ble_eq_true rfl) dL_law_1206 ⟨Nat.le_of_ble_eq_true rfl, Nat.le_of_ble_eq_true rfl⟩ (fun H locs hP hP2 hS => ?_)
  refine lv_aload_n hx hb dL_law_1209 rfl (lv_at hl 3 rfl) ?_
  refine lv_aload_n hx hb dL_law_1210 rfl (lv_at hl 1 rfl) ?_
  refine lv_iload_n hx hb dL_law_1211 rfl (lv_at hl 0 rfl) ?_
  refine lv_iconst (v := (1 : Int32)) hx hb dL_law_1212 (by decide) ?_
  refine lv_iadd hx hb dL_law_1213 ?_
  refine va_sld hx hb hX hbl hbA hS (lw_in hi (k := 1) (by omega) hL3) dL_law_1214 ?_
  refine lv_aload_n hx hb dL_law_1215 rfl (lv_at hl 1 rfl) ?_
  refine lv_iload_n hx hb dL_law_1216 rfl (lv_at hl 0 rfl) ?_
  refine lv_iconst (v := (2 : Int32)) hx hb dL_law_1217 (by decide) ?_
  refine lv_iadd hx hb dL_law_1218 ?_
  refine va_sld hx hb hX hbl hbA hS (lw_in hi (k := 2) (by omega) hL3) dL_law_1219 ?_
  refine r_LMi X hL hP hP2 hS (c_X6_lots l (gM D a2 cA tO tC) v (xs (nI i + 1).toNatClampNeg) (xs (nI i + 2).toNatClampNeg) e2) (cwV 2 hts gL_law_X6_lots rfl rfl rfl (by decide +kernel) ⟨Nat.le_of_ble_eq_true rfl, Nat.le_of_ble_eq_true rfl⟩) rfl hl.1 rfl (Nat.le_of_ble_eq_true rfl) dL_law_1220 ⟨Nat.le_of_ble_eq_true rfl, Nat.le_of_ble_eq_true rfl⟩ (fun H locs hP hP2 hS => ?_)
  exact lv_icmp_eq (tgt := 1342) hx hb dL_law_1223 (by decide) (fun _ => kk _ _ _ _ hI' hP hP2 hS) (fun z => absurd rfl z)
set_option maxHeartbeats 4000000 in
set_option maxRecDepth 100000 in
theorem lc_asked {p : Program} {l : Launch} {e : Env} {s : State} {m : MethodId} {below : List Frame} {meth : Method} {c : Code} {H : Heap} {locs : List Loc} {Q : State → Prop} {ls : Array Slot} {u v : UU} {D : va_G} {a1 a2 : Nat → Nat} {cA : Nat → ClassId} {tO tC b L i : Nat} {xs : Nat → Int32} (hA : LA p s m c b L xs D a1 a2 cA tO tC) (hi : i + 6 ≤ L) (hI : Inv u v) (hP : Ps (gC D a1 cA tO tC) 0 55 u H) (hP2 : Ps (gM D a2 cA tO tC) 55 20 v H) (hS : va_S (fun q => s.heap.size ≤ q) s.heap H locs) (hl : lv_has ls 4 [(3, .int (nI i)), (0, .ref b), (1, .ref (a1 0)), (2, .ref (a2 55))]) (kk : LK p l e s m b below meth c Q D a1 a2 cA tO tC ls) : W p l e room_1 s m #[Value.ref b] below meth c H locs 600000 7302249 Q (F0 m 1228 ls []) := by
  obtain ⟨hx, hb, hml, hown, hts, hX, hbl, hL, hL3⟩ := hA
  have hbA : ¬ (fun q : Nat => s.heap.size ≤ q) b := Nat.not_le.mpr hbl
  have X : CallFix p m c cL_law 4 s #[Value.ref b] wsL_law RL := ⟨hx, hb, hml, hown, hts⟩
  obtain ⟨r, e1, e2⟩ := op_asked hI 
  have hI' := hI
  refine lv_aload_n hx hb dL_law_1228 rfl (lv_at hl 2 rfl) ?_
  refine r_LCi X hL hP hP2 hS (c_X5_asked l (gC D a1 cA tO tC) u e1) (cwV 0 hts gL_law_X5_asked rfl rfl rfl (by decide +kernel) ⟨Nat.le_of_ble_eq_true rfl, Nat.le_of_ble_eq_true rfl⟩) rfl hl.1 rfl (Nat.le_of_ble_eq_true rfl) dL_law_1229 ⟨Nat.le_of_ble_eq_true rfl, Nat.le_of_ble_eq_true rfl⟩ (fun H locs hP hP2 hS => ?_)
  refine lv_aload_n hx hb dL_law_1232 rfl (lv_at hl 3 rfl) ?_
  refine r_LMi X hL hP hP2 hS (c_X6_asked l (gM D a2 cA tO tC) v e2) (cwV 0 hts gL_law_X6_asked rfl rfl rfl (by decide +kernel) ⟨Nat.le_of_ble_eq_true rfl, Nat.le_of_ble_eq_true rfl⟩) rfl hl.1 rfl (Nat.le_of_ble_eq_true rfl) dL_law_1233 ⟨Nat.le_of_ble_eq_true rfl, Nat.le_of_ble_eq_true rfl⟩ (fun H locs hP hP2 hS => ?_)
  exact lv_icmp_eq (tgt := 1342) hx hb dL_law_1236 (by decide) (fun _ => kk _ _ _ _ hI' hP hP2 hS) (fun z => absurd rfl z)
set_option maxHeartbeats 4000000 in
set_option maxRecDepth 100000 in
theorem lc_upper {p : Program} {l : Launch} {e : Env} {s : State} {m : MethodId} {below : List Frame} {meth : Method} {c : Code} {H : Heap} {locs : List Loc} {Q : State → Prop} {ls : Array Slot} {u v : UU} {D : va_G} {a1 a2 : Nat → Nat} {cA : Nat → ClassId} {tO tC b L i : Nat} {xs : Nat → Int32} (hA : LA p s m c b L xs D a1 a2 cA tO tC) (hi : i + 6 ≤ L) (hI : Inv u v) (hP : Ps (gC D a1 cA tO tC) 0 55 u H) (hP2 : Ps (gM D a2 cA tO tC) 55 20 v H) (hS : va_S (fun q => s.heap.size ≤ q) s.heap H locs) (hl : lv_has ls 4 [(3, .int (nI i)), (0, .ref b), (1, .ref (a1 0)), (2, .ref (a2 55))]) (kk : LK p l e s m b below meth c Q D a1 a2 cA tO tC ls) : W p l e room_1 s m #[Value.ref b] below meth c H locs 600000 7302249 Q (F0 m 1241 ls []) := by
  obtain ⟨hx, hb, hml, hown, hts, hX, hbl, hL, hL3⟩ := hA
  have hbA : ¬ (fun q : Nat => s.heap.size ≤ q) b := Nat.not_le.mpr hbl
  have X : CallFix p m c cL_law 4 s #[Value.ref b] wsL_law RL := ⟨hx, hb, hml, hown, hts⟩
  obtain ⟨r, e1, e2⟩ := op_upper hI 
  have hI' := hI
  refine lv_aload_n hx hb dL_law_1241 rfl (lv_at hl 2 rfl) ?_
  refine r_LCl X hL hP hP2 hS (c_X5_upper l (gC D a1 cA tO tC) u e1) (cwV 0 hts gL_law_X5_upper rfl rfl rfl (by decide +kernel) ⟨Nat.le_of_ble_eq_true rfl, Nat.le_of_ble_eq_true rfl⟩) rfl hl.1 rfl (Nat.le_of_ble_eq_true rfl) dL_law_1242 ⟨Nat.le_of_ble_eq_true rfl, Nat.le_of_ble_eq_true rfl⟩ (fun H locs hP hP2 hS => ?_)
  refine lv_aload_n hx hb dL_law_1245 rfl (lv_at hl 3 rfl) ?_
  refine r_LMl X hL hP hP2 hS (c_X6_upper l (gM D a2 cA tO tC) v e2) (cwV 0 hts gL_law_X6_upper rfl rfl rfl (by decide +kernel) ⟨Nat.le_of_ble_eq_true rfl, Nat.le_of_ble_eq_true rfl⟩) rfl hl.1 rfl (Nat.le_of_ble_eq_true rfl) dL_law_1246 ⟨Nat.le_of_ble_eq_true rfl, Nat.le_of_ble_eq_true rfl⟩ (fun H locs hP hP2 hS => ?_)
  refine W.lcmp hx hb dL_law_1249 ?_
  exact lv_if_eq (tgt := 1342) hx hb dL_law_1250 (by decide) (fun _ => kk _ _ _ _ hI' hP hP2 hS) (fun z => absurd (cmp_eq.mpr rfl) z)
set_option maxHeartbeats 4000000 in
set_option maxRecDepth 100000 in
theorem lc_lower {p : Program} {l : Launch} {e : Env} {s : State} {m : MethodId} {below : List Frame} {meth : Method} {c : Code} {H : Heap} {locs : List Loc} {Q : State → Prop} {ls : Array Slot} {u v : UU} {D : va_G} {a1 a2 : Nat → Nat} {cA : Nat → ClassId} {tO tC b L i : Nat} {xs : Nat → Int32} (hA : LA p s m c b L xs D a1 a2 cA tO tC) (hi : i + 6 ≤ L) (hI : Inv u v) (hP : Ps (gC D a1 cA tO tC) 0 55 u H) (hP2 : Ps (gM D a2 cA tO tC) 55 20 v H) (hS : va_S (fun q => s.heap.size ≤ q) s.heap H locs) (hl : lv_has ls 4 [(3, .int (nI i)), (0, .ref b), (1, .ref (a1 0)), (2, .ref (a2 55))]) (kk : LK p l e s m b below meth c Q D a1 a2 cA tO tC ls) : W p l e room_1 s m #[Value.ref b] below meth c H locs 600000 7302249 Q (F0 m 1255 ls []) := by
  obtain ⟨hx, hb, hml, hown, hts, hX, hbl, hL, hL3⟩ := hA
  have hbA : ¬ (fun q : Nat => s.heap.size ≤ q) b := Nat.not_le.mpr hbl
  have X : CallFix p m c cL_law 4 s #[Value.ref b] wsL_law RL := ⟨hx, hb, hml, hown, hts⟩
  obtain ⟨r, e1, e2⟩ := op_lower hI 
  have hI' := hI
  refine lv_aload_n hx hb dL_law_1255 rfl (lv_at hl 2 rfl) ?_
  refine r_LCl X hL hP hP2 hS (c_X5_lower l (gC D a1 cA tO tC) u e1) (cwV 0 hts gL_law_X5_lower rfl rfl rfl (by decide +kernel) ⟨Nat.le_of_ble_eq_true rfl, Nat.le_of_ble_eq_true rfl⟩) rfl hl.1 rfl (Nat.le_of_ble_eq_true rfl) dL_law_1256 ⟨Nat.le_of_ble_eq_true rfl, Nat.le_of_ble_eq_true rfl⟩ (fun H locs hP hP2 hS => ?_)
  refine lv_aload_n hx hb dL_law_1259 rfl (lv_at hl 3 rfl) ?_
  refine r_LMl X hL hP hP2 hS (c_X6_lower l (gM D a2 cA tO tC) v e2) (cwV 0 hts gL_law_X6_lower rfl rfl rfl (by decide +kernel) ⟨Nat.le_of_ble_eq_true rfl, Nat.le_of_ble_eq_true rfl⟩) rfl hl.1 rfl (Nat.le_of_ble_eq_true rfl) dL_law_1260 ⟨Nat.le_of_ble_eq_true rfl, Nat.le_of_ble_eq_true rfl⟩ (fun H locs hP hP2 hS => ?_)
  refine W.lcmp hx hb dL_law_1263 ?_
  exact lv_if_eq (tgt := 1342) hx hb dL_law_1264 (by decide) (fun _ => kk _ _ _ _ hI' hP hP2 hS) (fun z => absurd (cmp_eq.mpr rfl) z)
set_option maxHeartbeats 4000000 in
set_option maxRecDepth 100000 in
theorem lc_count {p : Program} {l : Launch} {e : Env} {s : State} {m : MethodId} {below : List Frame} {meth : Method} {c : Code} {H : Heap} {locs : List Loc} {Q : State → Prop} {ls : Array Slot} {u v : UU} {D : va_G} {a1 a2 : Nat → Nat} {cA : Nat → ClassId} {tO tC b L i : Nat} {xs : Nat → Int32} (hA : LA p s m c b L xs D a1 a2 cA tO tC) (hi : i + 6 ≤ L) (hI : Inv u v) (hP : Ps (gC D a1 cA tO tC) 0 55 u H) (hP2 : Ps (gM D a2 cA tO tC) 55 20 v H) (hS : va_S (fun q => s.heap.size ≤ q) s.heap H locs) (hl : lv_has ls 4 [(3, .int (nI i)), (0, .ref b), (1, .ref (a1 0)), (2, .ref (a2 55))]) (kk : LK p l e s m b below meth c Q D a1 a2 cA tO tC ls) : W p l e room_1 s m #[Value.ref b] below meth c H locs 600000 7302249 Q (F0 m 1269 ls []) := by
  obtain ⟨hx, hb, hml, hown, hts, hX, hbl, hL, hL3⟩ := hA
  have hbA : ¬ (fun q : Nat => s.heap.size ≤ q) b := Nat.not_le.mpr hbl
  have X : CallFix p m c cL_law 4 s #[Value.ref b] wsL_law RL := ⟨hx, hb, hml, hown, hts⟩
  obtain ⟨r, e1, e2⟩ := op_count hI (xs (nI i + 1).toNatClampNeg)
  have hI' := hI
  refine lv_aload_n hx hb dL_law_1269 rfl (lv_at hl 2 rfl) ?_
  refine lv_aload_n hx hb dL_law_1270 rfl (lv_at hl 1 rfl) ?_
  refine lv_iload_n hx hb dL_law_1271 rfl (lv_at hl 0 rfl) ?_
  refine lv_iconst (v := (1 : Int32)) hx hb dL_law_1272 (by decide) ?_
  refine lv_iadd hx hb dL_law_1273 ?_
  refine va_sld hx hb hX hbl hbA hS (lw_in hi (k := 1) (by omega) hL3) dL_law_1274 ?_
  refine r_LCi X hL hP hP2 hS (c_X5_count l (gC D a1 cA tO tC) u (xs (nI i + 1).toNatClampNeg) e1) (cwV 1 hts gL_law_X5_count rfl rfl rfl (by decide +kernel) ⟨Nat.le_of_ble_eq_true rfl, Nat.le_of_ble_eq_true rfl⟩) rfl hl.1 rfl (Nat.le_of_ble_eq_true rfl) dL_law_1275 ⟨Nat.le_of_ble_eq_true rfl, Nat.le_of_ble_eq_true rfl⟩ (fun H locs hP hP2 hS => ?_)
  refine lv_aload_n hx hb dL_law_1278 rfl (lv_at hl 3 rfl) ?_
  refine lv_aload_n hx hb dL_law_1279 rfl (lv_at hl 1 rfl) ?_
  refine lv_iload_n hx hb dL_law_1280 rfl (lv_at hl 0 rfl) ?_
  refine lv_iconst (v := (1 : Int32)) hx hb dL_law_1281 (by decide) ?_
  refine lv_iadd hx hb dL_law_1282 ?_
  refine va_sld hx hb hX hbl hbA hS (lw_in hi (k := 1) (by omega) hL3) dL_law_1283 ?_
  refine r_LMi X hL hP hP2 hS (c_X6_count l (gM D a2 cA tO tC) v (xs (nI i + 1).toNatClampNeg) e2) (cwV 1 hts gL_law_X6_count rfl rfl rfl (by decide +kernel) ⟨Nat.le_of_ble_eq_true rfl, Nat.le_of_ble_eq_true rfl⟩) rfl hl.1 rfl (Nat.le_of_ble_eq_true rfl) dL_law_1284 ⟨Nat.le_of_ble_eq_true rfl, Nat.le_of_ble_eq_true rfl⟩ (fun H locs hP hP2 hS => ?_)
  exact lv_icmp_eq (tgt := 1342) hx hb dL_law_1287 (by decide) (fun _ => kk _ _ _ _ hI' hP hP2 hS) (fun z => absurd rfl z)
set_option maxHeartbeats 4000000 in
set_option maxRecDepth 100000 in
theorem lc_finding {p : Program} {l : Launch} {e : Env} {s : State} {m : MethodId} {below : List Frame} {meth : Method} {c : Code} {H : Heap} {locs : List Loc} {Q : State → Prop} {ls : Array Slot} {u v : UU} {D : va_G} {a1 a2 : Nat → Nat} {cA : Nat → ClassId} {tO tC b L i : Nat} {xs : Nat → Int32} (hA : LA p s m c b L xs D a1 a2 cA tO tC) (hi : i + 6 ≤ L) (hI : Inv u v) (hP : Ps (gC D a1 cA tO tC) 0 55 u H) (hP2 : Ps (gM D a2 cA tO tC) 55 20 v H) (hS : va_S (fun q => s.heap.size ≤ q) s.heap H locs) (hl : lv_has ls 4 [(3, .int (nI i)), (0, .ref b), (1, .ref (a1 0)), (2, .ref (a2 55))]) (kk : LK p l e s m b below meth c Q D a1 a2 cA tO tC ls) : W p l e room_1 s m #[Value.ref b] below meth c H locs 600000 7302249 Q (F0 m 1292 ls []) := by
  obtain ⟨hx, hb, hml, hown, hts, hX, hbl, hL, hL3⟩ := hA
  have hbA : ¬ (fun q : Nat => s.heap.size ≤ q) b := Nat.not_le.mpr hbl
  have X : CallFix p m c cL_law 4 s #[Value.ref b] wsL_law RL := ⟨hx, hb, hml, hown, hts⟩
  obtain ⟨r, e1, e2⟩ := op_finding hI 
  have hI' := hI
  refine lv_aload_n hx hb dL_law_1292 rfl (lv_at hl 2 rfl) ?_
  refine r_LCi X hL hP hP2 hS (c_X5_finding l (gC D a1 cA tO tC) u e1) (cwV 0 hts gL_law_X5_finding rfl rfl rfl (by decide +kernel) ⟨Nat.le_of_ble_eq_true rfl, Nat.le_of_ble_eq_true rfl⟩) rfl hl.1 rfl (Nat.le_of_ble_eq_true rfl) dL_law_1293 ⟨Nat.le_of_ble_eq_true rfl, Nat.le_of_ble_eq_true rfl⟩ (fun H locs hP hP2 hS => ?_)
  refine lv_aload_n hx hb dL_law_1296 rfl (lv_at hl 3 rfl) ?_
  refine r_LMi X hL hP hP2 hS (c_X6_finding l (gM D a2 cA tO tC) v e2) (cwV 0 hts gL_law_X6_finding rfl rfl rfl (by decide +kernel) ⟨Nat.le_of_ble_eq_true rfl, Nat.le_of_ble_eq_true rfl⟩) rfl hl.1 rfl (Nat.le_of_ble_eq_true rfl) dL_law_1297 ⟨Nat.le_of_ble_eq_true rfl, Nat.le_of_ble_eq_true rfl⟩ (fun H locs hP hP2 hS => ?_)
  exact lv_icmp_eq (tgt := 1342) hx hb dL_law_1300 (by decide) (fun _ => kk _ _ _ _ hI' hP hP2 hS) (fun z => absurd rfl z)
set_option maxHeartbeats 4000000 in
set_option maxRecDepth 100000 in
theorem lc_findings {p : Program} {l : Launch} {e : Env} {s : State} {m : MethodId} {below : List Frame} {meth : Method} {c : Code} {H : Heap} {locs : List Loc} {Q : State → Prop} {ls : Array Slot} {u v : UU} {D : va_G} {a1 a2 : Nat → Nat} {cA : Nat → ClassId} {tO tC b L i : Nat} {xs : Nat → Int32} (hA : LA p s m c b L xs D a1 a2 cA tO tC) (hi : i + 6 ≤ L) (hI : Inv u v) (hP : Ps (gC D a1 cA tO tC) 0 55 u H) (hP2 : Ps (gM D a2 cA tO tC) 55 20 v H) (hS : va_S (fun q => s.heap.size ≤ q) s.heap H locs) (hl : lv_has ls 4 [(3, .int (nI i)), (0, .ref b), (1, .ref (a1 0)), (2, .ref (a2 55))]) (kk : LK p l e s m b below meth c Q D a1 a2 cA tO tC ls) : W p l e room_1 s m #[Value.ref b] below meth c H locs 600000 7302249 Q (F0 m 1305 ls []) := by
  obtain ⟨hx, hb, hml, hown, hts, hX, hbl, hL, hL3⟩ := hA
  have hbA : ¬ (fun q : Nat => s.heap.size ≤ q) b := Nat.not_le.mpr hbl
  have X : CallFix p m c cL_law 4 s #[Value.ref b] wsL_law RL := ⟨hx, hb, hml, hown, hts⟩
  obtain ⟨r, e1, e2⟩ := op_findings hI (xs (nI i + 1).toNatClampNeg)
  have hI' := hI
  refine lv_aload_n hx hb dL_law_1305 rfl (lv_at hl 2 rfl) ?_
  refine lv_aload_n hx hb dL_law_1306 rfl (lv_at hl 1 rfl) ?_
  refine lv_iload_n hx hb dL_law_1307 rfl (lv_at hl 0 rfl) ?_
  refine lv_iconst (v := (1 : Int32)) hx hb dL_law_1308 (by decide) ?_
  refine lv_iadd hx hb dL_law_1309 ?_
  refine va_sld hx hb hX hbl hbA hS (lw_in hi (k := 1) (by omega) hL3) dL_law_1310 ?_
  refine r_LCi X hL hP hP2 hS (c_X5_findings l (gC D a1 cA tO tC) u (xs (nI i + 1).toNatClampNeg) e1) (cwV 1 hts gL_law_X5_findings rfl rfl rfl (by decide +kernel) ⟨Nat.le_of_ble_eq_true rfl, Nat.le_of_ble_eq_true rfl⟩) rfl hl.1 rfl (Nat.le_of_ble_eq_true rfl) dL_law_1311 ⟨Nat.le_of_ble_eq_true rfl, Nat.le_of_ble_eq_true rfl⟩ (fun H locs hP hP2 hS => ?_)
  refine lv_aload_n hx hb dL_law_1314 rfl (lv_at hl 3 rfl) ?_
  refine lv_aload_n hx hb dL_law_1315 rfl (lv_at hl 1 rfl) ?_
  refine lv_iload_n hx hb dL_law_1316 rfl (lv_at hl 0 rfl) ?_
  refine lv_iconst (v := (1 : Int32)) hx hb dL_law_1317 (by decide) ?_
  refine lv_iadd hx hb dL_law_1318 ?_
  refine va_sld hx hb hX hbl hbA hS (lw_in hi (k := 1) (by omega) hL3) dL_law_1319 ?_
  refine r_LMi X hL hP hP2 hS (c_X6_findings l (gM D a2 cA tO tC) v (xs (nI i + 1).toNatClampNeg) e2) (cwV 1 hts gL_law_X6_findings rfl rfl rfl (by decide +kernel) ⟨Nat.le_of_ble_eq_true rfl, Nat.le_of_ble_eq_true rfl⟩) rfl hl.1 rfl (Nat.le_of_ble_eq_true rfl) dL_law_1320 ⟨Nat.le_of_ble_eq_true rfl, Nat.le_of_ble_eq_true rfl⟩ (fun H locs hP hP2 hS => ?_)
  exact lv_icmp_eq (tgt := 1342) hx hb dL_law_1323 (by decide) (fun _ => kk _ _ _ _ hI' hP hP2 hS) (fun z => absurd rfl z)
set_option maxHeartbeats 4000000 in
set_option maxRecDepth 100000 in
theorem lc_digest {p : Program} {l : Launch} {e : Env} {s : State} {m : MethodId} {below : List Frame} {meth : Method} {c : Code} {H : Heap} {locs : List Loc} {Q : State → Prop} {ls : Array Slot} {u v : UU} {D : va_G} {a1 a2 : Nat → Nat} {cA : Nat → ClassId} {tO tC b L i : Nat} {xs : Nat → Int32} (hA : LA p s m c b L xs D a1 a2 cA tO tC) (hi : i + 6 ≤ L) (hI : Inv u v) (hP : Ps (gC D a1 cA tO tC) 0 55 u H) (hP2 : Ps (gM D a2 cA tO tC) 55 20 v H) (hS : va_S (fun q => s.heap.size ≤ q) s.heap H locs) (hl : lv_has ls 4 [(3, .int (nI i)), (0, .ref b), (1, .ref (a1 0)), (2, .ref (a2 55))]) (kk : LK p l e s m b below meth c Q D a1 a2 cA tO tC ls) : W p l e room_1 s m #[Value.ref b] below meth c H locs 600000 7302249 Q (F0 m 1328 ls []) := by
  obtain ⟨hx, hb, hml, hown, hts, hX, hbl, hL, hL3⟩ := hA
  have hbA : ¬ (fun q : Nat => s.heap.size ≤ q) b := Nat.not_le.mpr hbl
  have X : CallFix p m c cL_law 4 s #[Value.ref b] wsL_law RL := ⟨hx, hb, hml, hown, hts⟩
  obtain ⟨r, v', e1, e2, hI'⟩ := op_digest hI
  refine lv_aload_n hx hb dL_law_1328 rfl (lv_at hl 2 rfl) ?_
  refine r_LCl X hL hP hP2 hS (c_X5_digest l (gC D a1 cA tO tC) u e1) (cwV 0 hts gL_law_X5_digest rfl rfl rfl (by decide +kernel) ⟨Nat.le_of_ble_eq_true rfl, Nat.le_of_ble_eq_true rfl⟩) rfl hl.1 rfl (Nat.le_of_ble_eq_true rfl) dL_law_1329 ⟨Nat.le_of_ble_eq_true rfl, Nat.le_of_ble_eq_true rfl⟩ (fun H locs hP hP2 hS => ?_)
  refine lv_aload_n hx hb dL_law_1332 rfl (lv_at hl 3 rfl) ?_
  refine r_LMl X hL hP hP2 hS (c_X6_digest l (gM D a2 cA tO tC) v e2) (cwV 0 hts gL_law_X6_digest rfl rfl rfl (by decide +kernel) ⟨Nat.le_of_ble_eq_true rfl, Nat.le_of_ble_eq_true rfl⟩) rfl hl.1 rfl (Nat.le_of_ble_eq_true rfl) dL_law_1333 ⟨Nat.le_of_ble_eq_true rfl, Nat.le_of_ble_eq_true rfl⟩ (fun H locs hP hP2 hS => ?_)
  refine W.lcmp hx hb dL_law_1336 ?_
  exact lv_if_eq (tgt := 1342) hx hb dL_law_1337 (by decide) (fun _ => kk _ _ _ _ hI' hP hP2 hS) (fun z => absurd (cmp_eq.mpr rfl) z)
