/-- what fits a worker, out of the numbers alone -/
theorem c_fitV {n : Nat} {kd up lw : Nat → Nat} {v : Nat → Nat} {c : UU} (hn : n ≤ 7) (h : CV n up lw v c) {i : Nat} (hi : i < n) (hk : ui c 13 i = nI (kd i)) (k1 : kd i < 6) (hd : due up lw i < 2 ^ 30) : f_X4_fitFor (nI i) c = some (nI (fitW kd up lw v i)) := by
  have ho : f_X4_openTo (nI i) c = some (nI (andN (KM (kd i)) (v (18 + i)))) := by
    unfold f_X4_openTo
    rw [ix_n (show i < 7 by omega) (by omega), ix_n (show i < 7 by omega) (by omega), nI_clamp (by omega), hk, partsOf_eq _ k1, show ui c 16 i = _ from (h.2.2.2 i hi).1, andN_eq]
  unfold f_X4_fitFor
  rw [ho, bd_some, ix_n (show i < 7 by omega) (by omega), nI_clamp (by omega), show ui c 17 i = _ from (h.2.2.2 i hi).2, show ui c 11 4 = _ from h.2.1, ngt_eq (by omega), fa_and, fa_and, fit_bits k1]
