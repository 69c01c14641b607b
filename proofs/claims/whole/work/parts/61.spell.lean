/-! spell -/
theorem k_spell {h : Nat} (hh : 6 ≤ h) (σ : gS) {p : Nat} (hp : p + 8 ≤ 960) (a b c d e f g i : Int32) : g_Met yX8_spell cX8_spell 10 none h kM [.ref 63, .int (nI p), .int a, .int b, .int c, .int d, .int e, .int f, .int g, .int i] σ (fun rv s => rv = none ∧ (s 64 p = a ∧ s 64 (p + 1) = b ∧ s 64 (p + 2) = c ∧ s 64 (p + 3) = d ∧ s 64 (p + 4) = e ∧ s 64 (p + 5) = f ∧ s 64 (p + 6) = g ∧ s 64 (p + 7) = i) ∧ (∀ j, (j < p ∨ p + 8 ≤ j) → s 64 j = σ 64 j) ∧ ∀ x, x ≠ 64 → s x = σ x) := by
  refine w_X8_spell hh ?_
  unfold P_X8_spell
  have N : ∀ k, nI p + nI k = nI (p + k) := fun k => nI_add p k
  refine ⟨p, rfl, by omega, p + 1, N 1, by omega, p + 2, N 2, by omega, p + 3, N 3, by omega, p + 4, N 4, by omega, p + 5, N 5, by omega, p + 6, N 6, by omega, p + 7, N 7, by omega, rfl, ⟨?_, ?_, ?_, ?_, ?_, ?_, ?_, ?_⟩, fun j hj => ?_, fun x hx => ?_⟩
  · repeat (first | rw [u_eq] | rw [u_ne (by omega)])
  · repeat (first | rw [u_eq] | rw [u_ne (by omega)])
  · repeat (first | rw [u_eq] | rw [u_ne (by omega)])
  · repeat (first | rw [u_eq] | rw [u_ne (by omega)])
  · repeat (first | rw [u_eq] | rw [u_ne (by omega)])
  · repeat (first | rw [u_eq] | rw [u_ne (by omega)])
  · repeat (first | rw [u_eq] | rw [u_ne (by omega)])
  · rw [u_eq]
  · rw [u_ne (by omega), u_ne (by omega), u_ne (by omega), u_ne (by omega), u_ne (by omega), u_ne (by omega), u_ne (by omega), u_ne (by omega)]
  · rw [g_up_ne hx, g_up_ne hx, g_up_ne hx, g_up_ne hx, g_up_ne hx, g_up_ne hx, g_up_ne hx, g_up_ne hx]
