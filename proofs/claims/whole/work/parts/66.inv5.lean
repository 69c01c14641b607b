/-! RAINS KEEP THE INVARIANT -/
def r_ok (ra : gF) : Prop := ∀ h, h < 24 → ∃ q, ra h = nI q ∧ q ≤ 9
theorem rn_go_ok {it : gF} {z a : Nat} : ∀ (k j : Nat) (c : Int32) (ra : gF), r_ok ra → r_ok (rn_go it z a k j c ra).2
  | 0, _, _, _, h => h
  | k + 1, j, c, ra, h => by
    rw [rn_go]
    split
    · split
      · next w =>
        refine rn_go_ok k (j + 1) (c + 1) _ (fun i hi => ?_)
        obtain ⟨q, hq, e⟩ := n_of (M := 9) w.2 (by decide)
        by_cases y : i = ix (it (a + 2 * j))
        · exact ⟨q, (if_pos y).trans e, hq⟩
        · obtain ⟨q', e', h'⟩ := h i hi
          exact ⟨q', (if_neg y).trans e', h'⟩
      · exact rn_go_ok k (j + 1) c ra h
    · exact h
theorem a_rains_ok {so sz : gF} {it : Nat → gF} {sh so2 fr n : Int32} {ra : gF} (h : r_ok ra) : r_ok (a_rains so sz it sh so2 fr n ra).2 := by
  unfold a_rains rn_all
  split
  · split
    · exact h
    · split
      · split
        · exact rn_go_ok _ _ _ _ h
        · split
          · exact h
          · exact h
      · exact h
  · exact h
theorem j_rainsX {σ : gS} {H : mH} {nT t : Nat} {TT : Nat → mT} {b : gF} {n : Nat} (h : IV σ H nT t TT b n) {k : Nat} (hk : 8 ≤ k) (sh so fr m : Int32) : g_Met yX7_rains cX7_rains 6 (some .int) k kX [.ref 0, .int sh, .int so, .int fr, .int m] σ (fun rv s => rv = some (.int (a_rains (x_so σ) (x_sz σ) (fun t => σ (38 + 2 * t)) sh so fr m (h_ra H)).1) ∧ (∀ h, h < 24 → s 2 h = (a_rains (x_so σ) (x_sz σ) (fun t => σ (38 + 2 * t)) sh so fr m (h_ra H)).2 h) ∧ ∀ x, x ≠ 2 → s x = σ x) :=
  k_X7_rains hk σ (fun t ht _ => (h.2.2.2.2.2.2.1.2 t ht).1) h.1.1.2.1 sh so fr m
theorem j_rainsM {σ s1 : gS} {H : mH} {nT t : Nat} {TT : Nat → mT} {b : gF} {n : Nat} (h : IV σ H nT t TT b n) {k : Nat} (hk : 6 ≤ k) (sh so fr m : Int32) (q1 : ∀ h, h < 24 → s1 2 h = (a_rains (x_so σ) (x_sz σ) (fun t => σ (38 + 2 * t)) sh so fr m (h_ra H)).2 h) (q2 : ∀ x, x ≠ 2 → s1 x = σ x) : g_Met yX8_rains cX8_rains 8 (some .int) k kM [.ref 63, .int sh, .int so, .int fr, .int m] s1 (fun rv s => rv = some (.int (a_rains (x_so σ) (x_sz σ) (fun t => σ (38 + 2 * t)) sh so fr m (h_ra H)).1) ∧ IV s (hs_ra H (a_rains (x_so σ) (x_sz σ) (fun t => σ (38 + 2 * t)) sh so fr m (h_ra H)).2) nT t TT b n) := by
  have ms : msh s1 (x_so σ) (x_sz σ) (fun t => σ (38 + 2 * t)) := fun j hj => by
    rw [q2 86 (by decide), q2 87 (by decide), q2 88 (by decide), q2 89 (by decide)]
    exact h.2.2.2.2.2.2.1.1 j hj
  refine k_mono (k_M_rains hk s1 ms (ra := h_ra H) (fun i hi => by rw [q2 67 (by decide)]; exact h.1.2.1.2.1 i hi) h.2.1.2.2.1 sh so fr m) (fun rv s hq => ?_)
  obtain ⟨p1, p2, p3⟩ := hq
  exact ⟨p1, h.zra (fun a x y => by rw [p3 a y, q2 a x]) (fun i hi => by rw [p3 2 (by decide)]; exact q1 i hi) p2 (a_rains_ok h.2.1.2.2.1)⟩
