def bcN (s : Nat) : Nat :=
  (fun a => (fun b => (fun c => (fun d => (fun e => Nat.land e 63) (d + d / 65536)) (c + c / 256)) (Nat.land (b + b / 16) 252645135)) (Nat.land a 858993459 + Nat.land (a / 4) 858993459)) (s - Nat.land (s / 2) 1431655765)
def bcP (s : Nat) : Bool := Nat.beq (bcN (2 * s)) (bcN s) && Nat.beq (bcN (2 * s + 1)) (bcN s + 1)
def bcR (a : Nat) : Nat → Bool
  | 0 => true
  | b + 1 => bcP (256 * a + b) && bcR a b
def bcA (k : Nat) : Nat → Bool
  | 0 => true
  | a + 1 => bcR (k + a) 256 && bcA k a
theorem bcA_0 : bcA 0 32 = true := by decide +kernel
theorem bcA_1 : bcA 32 32 = true := by decide +kernel
theorem bcA_2 : bcA 64 32 = true := by decide +kernel
theorem bcA_3 : bcA 96 32 = true := by decide +kernel
theorem bcA_4 : bcA 128 32 = true := by decide +kernel
theorem bcA_5 : bcA 160 32 = true := by decide +kernel
theorem bcA_6 : bcA 192 32 = true := by decide +kernel
theorem bcA_7 : bcA 224 32 = true := by decide +kernel
theorem bcR_ok {a : Nat} : ∀ {n : Nat}, bcR a n = true → ∀ b, b < n → bcP (256 * a + b) = true
  | 0, _, b, hb => by omega
  | n + 1, h, b, hb => by
    rw [bcR, Bool.and_eq_true] at h
    by_cases e : b = n
    · rw [e]; exact h.1
    · exact bcR_ok h.2 b (by omega)
theorem bcA_ok {k : Nat} : ∀ {n : Nat}, bcA k n = true → ∀ a, a < n → bcR (k + a) 256 = true
  | 0, _, a, ha => by omega
  | n + 1, h, a, ha => by
    rw [bcA, Bool.and_eq_true] at h
    by_cases e : a = n
    · rw [e]; exact h.1
    · exact bcA_ok h.2 a (by omega)
theorem bcP_all {s : Nat} (h : s < 65536) : bcP s = true := by
  have hs : 256 * (s / 256) + s % 256 = s := Nat.div_add_mod s 256
  have ha : s / 256 < 256 := by omega
  have hb : s % 256 < 256 := Nat.mod_lt _ (by omega)
  rw [← hs]
  apply bcR_ok _ _ hb
  generalize s / 256 = a at ha
  rcases (show a < 32 ∨ (32 ≤ a ∧ a < 64) ∨ (64 ≤ a ∧ a < 96) ∨ (96 ≤ a ∧ a < 128) ∨ (128 ≤ a ∧ a < 160) ∨ (160 ≤ a ∧ a < 192) ∨ (192 ≤ a ∧ a < 224) ∨ (224 ≤ a ∧ a < 256) by omega) with q | q | q | q | q | q | q | q
  · have := bcA_ok bcA_0 a q; rwa [Nat.zero_add] at this
  · have := bcA_ok bcA_1 (a - 32) (by omega); rwa [show 32 + (a - 32) = a by omega] at this
  · have := bcA_ok bcA_2 (a - 64) (by omega); rwa [show 64 + (a - 64) = a by omega] at this
  · have := bcA_ok bcA_3 (a - 96) (by omega); rwa [show 96 + (a - 96) = a by omega] at this
  · have := bcA_ok bcA_4 (a - 128) (by omega); rwa [show 128 + (a - 128) = a by omega] at this
  · have := bcA_ok bcA_5 (a - 160) (by omega); rwa [show 160 + (a - 160) = a by omega] at this
  · have := bcA_ok bcA_6 (a - 192) (by omega); rwa [show 192 + (a - 192) = a by omega] at this
  · have := bcA_ok bcA_7 (a - 224) (by omega); rwa [show 224 + (a - 224) = a by omega] at this
