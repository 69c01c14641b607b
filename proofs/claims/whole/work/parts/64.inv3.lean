/-! THE INVARIANT UNDER A CHANGE OF THE HOUSE -/
theorem iv_im.zh {σ : gS} {H H' : mH} {nT : Nat} (h : iv_im σ H nT) (c1 : h_nd H ≤ h_nd H') (c2 : h_nv H ≤ h_nv H') (k1 : ∀ d, d < h_nd H → h_kd H' d = h_kd H d) (k2 : ∀ v, v < h_nv H → h_sz H' v = h_sz H v) : iv_im σ H' nT := by
  rcases h with z | ⟨z, K, tk, a1, a2, a3, a4, a5, a6⟩
  · exact Or.inl z
  · exact Or.inr ⟨z, K, tk, a1, a2, ⟨by omega, by omega⟩, fun d hd => (a4 d hd).trans (k1 d (by omega)).symm, fun v hv => (a5 v hv).trans (k2 v (by omega)).symm, a6⟩
/-- what a change of the house leaves -/
def hfr (σ s : gS) : Prop := (∀ a, a ≠ 1 → a ≠ 63 → (a < 2 ∨ 9 < a) → (a < 67 ∨ 74 < a) → s a = σ a) ∧ s 1 13 = σ 1 13 ∧ ∀ j, j ≠ 8 → j ≠ 9 → j ≠ 10 → j ≠ 15 → j ≠ 19 → s 63 j = σ 63 j
theorem IV.zh {σ s : gS} {H H' : mH} {nT t : Nat} {TT : Nat → mT} {b : gF} {n : Nat} (h : IV σ H nT t TT b n) (e : hfr σ s) (h1 : iv_h s H') (h2 : h_ok H') (c1 : h_nd H ≤ h_nd H') (c2 : h_nv H ≤ h_nv H') (k1 : ∀ d, d < h_nd H → h_kd H' d = h_kd H d) (k2 : ∀ v, v < h_nv H → h_sz H' v = h_sz H v) : IV s H' nT t TT b n := by
  obtain ⟨-, -, h3, h4, h5, h6, h7, h8⟩ := h
  obtain ⟨e1, e2, e3⟩ := e
  have E : ∀ a, (a < 1 ∨ 9 < a) → a ≠ 63 → (a < 67 ∨ 74 < a) → s a = σ a := fun a x y z => e1 a (by omega) y (by omega) z
  have J : ∀ j, j ≠ 8 → j ≠ 9 → j ≠ 10 → j ≠ 15 → j ≠ 19 → s 63 j = σ 63 j := e3
  refine ⟨h1, h2, ?_, ⟨e2.trans h4.1, (J 4 (by decide) (by decide) (by decide) (by decide) (by decide)).trans h4.2⟩, h5, ?_, ?_, ?_⟩
  · refine ⟨⟨by rw [E 0 (by decide) (by decide) (by decide)]; exact h3.1.1, (J 3 (by decide) (by decide) (by decide) (by decide) (by decide)).trans h3.1.2.1, h3.1.2.2⟩, fun i hi => ?_⟩
    have h6' := h3.1.2.2.2
    obtain ⟨⟨m1, m2⟩, b', n', ⟨q1, q2, q3, q4, q5⟩, m4, m5⟩ := h3.2 i hi
    obtain ⟨w1, w2⟩ := m1.same (s := s) (E _ (by omega) (by omega) (by omega)) (E _ (by omega) (by omega) (by omega))
    exact ⟨⟨w1, fun pa hp mo nm => (w2 pa mo nm).trans (m2 pa hp mo nm)⟩, b', n', ⟨q1, q2, by rw [E 65 (by decide) (by decide) (by decide)]; exact q3, fun i hi => by rw [E 64 (by decide) (by decide) (by decide)]; exact q4 i hi, q5⟩, m4, m5⟩
  · obtain ⟨p1, p2, p3, p4⟩ := h6
    exact ⟨by rw [E 19 (by decide) (by decide) (by decide)]; exact p1, (J 6 (by decide) (by decide) (by decide) (by decide) (by decide)).trans p2, p3, fun i hi => by rw [E 20 (by decide) (by decide) (by decide), E 66 (by decide) (by decide) (by decide)]; exact p4 i hi⟩
  · have es : ∀ t, t < 4 → x_so s t = x_so σ t ∧ x_sz s t = x_sz σ t ∧ s (38 + 2 * t) = σ (38 + 2 * t) := fun t ht => by
      unfold x_so x_sz
      rw [E (37 + 2 * t) (by omega) (by omega) (by omega)]
      exact ⟨rfl, rfl, E _ (by omega) (by omega) (by omega)⟩
    obtain ⟨p1, p2⟩ := h7
    refine ⟨fun j hj => ?_, fun j hj => ?_⟩
    · have := p1 j hj
      dsimp only at this ⊢
      rw [(es j hj).1, (es j hj).2.1, (es j hj).2.2, E 86 (by decide) (by decide) (by decide), E 87 (by decide) (by decide) (by decide), E 88 (by decide) (by decide) (by decide), E 89 (by decide) (by decide) (by decide)]
      exact this
    · rw [(es j hj).1, (es j hj).2.1]
      exact p2 j hj
  · have : iv_im s H nT := by
      unfold iv_im iv_kX iv_kM at h8 ⊢
      have Jk : ∀ j, 50 ≤ j → s 63 j = σ 63 j := fun j hj => J j (by omega) (by omega) (by omega) (by omega) (by omega)
      rw [E 0 (by decide) (by decide) (by decide), E 10 (by decide) (by decide) (by decide), E 11 (by decide) (by decide) (by decide), E 12 (by decide) (by decide) (by decide), E 13 (by decide) (by decide) (by decide), E 14 (by decide) (by decide) (by decide), E 15 (by decide) (by decide) (by decide), E 16 (by decide) (by decide) (by decide), E 17 (by decide) (by decide) (by decide), E 18 (by decide) (by decide) (by decide), E 83 (by decide) (by decide) (by decide), E 84 (by decide) (by decide) (by decide), E 85 (by decide) (by decide) (by decide), Jk 54 (by decide), Jk 55 (by decide), Jk 56 (by decide), Jk 57 (by decide), Jk 58 (by decide), Jk 59 (by decide)]
      exact h8
    exact this.zh c1 c2 k1 k2
