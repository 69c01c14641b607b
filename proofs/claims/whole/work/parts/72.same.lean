/-! THE INVARIANT'S PIECES where their cells stay; force, feed, text -/
theorem iv_h.zs {σ s : gS} {H : mH} (h : iv_h σ H) (e : ∀ a, 2 ≤ a → a ≤ 9 → s a = σ a) (e1 : ∀ j, 8 ≤ j → j ≤ 12 → s 1 j = σ 1 j) (ej : ∀ j, j = 8 ∨ j = 9 ∨ j = 10 ∨ j = 15 ∨ j = 19 ∨ j = 44 → s 63 j = σ 63 j) (em : ∀ a, 67 ≤ a → a ≤ 74 → s a = σ a) : iv_h s H := by
  obtain ⟨⟨y1, y2, y3, y4⟩, ⟨d1, d2, d3⟩, v1, v2, v3, v4⟩ := h
  refine ⟨⟨?_, ?_, ?_, ?_⟩, ⟨?_, ?_, ?_⟩, ?_, ?_, ?_, ?_⟩
  · rw [e1 8 (by decide) (by decide), e1 9 (by decide) (by decide), e1 10 (by decide) (by decide), e1 11 (by decide) (by decide), e1 12 (by decide) (by decide)]; exact y1
  · rw [e 2 (by decide) (by decide)]; exact y2
  · rw [e 3 (by decide) (by decide), e 4 (by decide) (by decide), e 5 (by decide) (by decide), e 6 (by decide) (by decide)]; exact y3
  · rw [e 7 (by decide) (by decide), e 8 (by decide) (by decide), e 9 (by decide) (by decide)]; exact y4
  · rw [ej 15 (by decide)]; exact d1
  · rw [em 67 (by decide) (by decide)]; exact d2
  · rw [em 68 (by decide) (by decide), em 69 (by decide) (by decide), em 70 (by decide) (by decide), em 71 (by decide) (by decide)]; exact d3
  · rw [ej 19 (by decide)]; exact v1
  · rw [em 72 (by decide) (by decide), em 73 (by decide) (by decide), em 74 (by decide) (by decide)]; exact v2
  · rw [ej 8 (by decide), ej 9 (by decide), ej 10 (by decide)]; exact v3
  · rw [ej 44 (by decide)]; exact v4
/-- what both know of text i -/
def iv_t1 (σ : gS) (TT : Nat → mT) (i : Nat) : Prop := (m_tok σ i ∧ ∀ pa, pa < 3 → ∀ mo nm, m_tell σ i pa mo nm = TT i pa mo nm) ∧ ∃ b n, mtx b n i σ ∧ p_fa (p_end (q_l b n)) = none ∧ TT i = t_of (q_l b n)
theorem iv_t1.zs {σ s : gS} {TT : Nat → mT} {i : Nat} (h : iv_t1 σ TT i) (e1 : s (46 + 3 * i) = σ (46 + 3 * i)) (e2 : s (47 + 3 * i) = σ (47 + 3 * i)) (e3 : s 65 i = σ 65 i) (e4 : ∀ j, j < 160 → s 64 (160 * i + j) = σ 64 (160 * i + j)) : iv_t1 s TT i := by
  obtain ⟨⟨m1, m2⟩, b, n, ⟨q1, q2, q3, q4, q5⟩, m4, m5⟩ := h
  obtain ⟨w1, w2⟩ := m1.same (s := s) e1 e2
  exact ⟨⟨w1, fun pa hp mo nm => (w2 pa mo nm).trans (m2 pa hp mo nm)⟩, b, n, ⟨q1, q2, e3.trans q3, fun j hj => (e4 j (by omega)).trans (q4 j hj), q5⟩, m4, m5⟩
theorem iv_tx.zs {σ s : gS} {nT : Nat} {TT : Nat → mT} (h : iv_tx σ nT TT) (e0 : s 0 5 = σ 0 5) (e3 : s 63 3 = σ 63 3) (ec : ∀ i, i < 6 → s (46 + 3 * i) = σ (46 + 3 * i) ∧ s (47 + 3 * i) = σ (47 + 3 * i)) (e64 : s 64 = σ 64) (e65 : s 65 = σ 65) : iv_tx s nT TT := by
  obtain ⟨⟨a1, a2, a3, a4⟩, h2⟩ := h
  exact ⟨⟨e0.trans a1, e3.trans a2, a3, a4⟩, fun i hi => iv_t1.zs (TT := TT) (h2 i hi) (ec i (by omega)).1 (ec i (by omega)).2 (by rw [e65]) (fun j _ => by rw [e64])⟩
theorem iv_t.zs {σ s : gS} {t : Nat} (h : iv_t σ t) (e1 : s 1 13 = σ 1 13) (e2 : s 63 4 = σ 63 4) : iv_t s t := ⟨e1.trans h.1, e2.trans h.2⟩
theorem iv_tp.zs {σ s : gS} {b : gF} {n : Nat} (h : iv_tp σ b n) (e1 : s 19 1 = σ 19 1) (e2 : s 63 6 = σ 63 6) (e3 : s 20 = σ 20) (e4 : s 66 = σ 66) : iv_tp s b n := by
  obtain ⟨p1, p2, p3, p4⟩ := h
  exact ⟨e1.trans p1, e2.trans p2, p3, fun i hi => by rw [e3, e4]; exact p4 i hi⟩
theorem iv_sh.zs {σ s : gS} (h : iv_sh σ) (e : ∀ a, 37 ≤ a → a ≤ 44 → s a = σ a) (e2 : ∀ a, 86 ≤ a → a ≤ 89 → s a = σ a) : iv_sh s := by
  have es : ∀ t, t < 4 → x_so s t = x_so σ t ∧ x_sz s t = x_sz σ t ∧ s (38 + 2 * t) = σ (38 + 2 * t) := fun t ht => by
    unfold x_so x_sz
    rw [e (37 + 2 * t) (by omega) (by omega)]
    exact ⟨rfl, rfl, e _ (by omega) (by omega)⟩
  obtain ⟨p1, p2⟩ := h
  refine ⟨fun j hj => ?_, fun j hj => ?_⟩
  · have := p1 j hj
    dsimp only at this ⊢
    rw [(es j hj).1, (es j hj).2.1, (es j hj).2.2, e2 86 (by decide) (by decide), e2 87 (by decide) (by decide), e2 88 (by decide) (by decide), e2 89 (by decide) (by decide)]
    exact this
  · rw [(es j hj).1, (es j hj).2.1]
    exact p2 j hj
theorem iv_im.zs {σ s : gS} {H : mH} {nT : Nat} (h : iv_im σ H nT) (e0 : s 0 2 = σ 0 2) (e : ∀ a, 10 ≤ a → a ≤ 18 → s a = σ a) (ej : ∀ j, 54 ≤ j → j ≤ 59 → s 63 j = σ 63 j) (em : ∀ a, 83 ≤ a → a ≤ 85 → s a = σ a) : iv_im s H nT := by
  unfold iv_im iv_kX iv_kM at h ⊢
  rw [e0, e 10 (by decide) (by decide), e 11 (by decide) (by decide), e 12 (by decide) (by decide), e 13 (by decide) (by decide), e 14 (by decide) (by decide), e 15 (by decide) (by decide), e 16 (by decide) (by decide), e 17 (by decide) (by decide), e 18 (by decide) (by decide), em 83 (by decide) (by decide), em 84 (by decide) (by decide), em 85 (by decide) (by decide), ej 54 (by decide) (by decide), ej 55 (by decide) (by decide), ej 56 (by decide) (by decide), ej 57 (by decide) (by decide), ej 58 (by decide) (by decide), ej 59 (by decide) (by decide)]
  exact h
/-- more texts: the image stays good -/
theorem iv_im.zt {σ : gS} {H : mH} {nT nT' : Nat} (h : iv_im σ H nT) (e : nT ≤ nT') : iv_im σ H nT' := by
  rcases h with z | ⟨z, K, tk, a1, a2, a3⟩
  · exact Or.inl z
  · exact Or.inr ⟨z, K, tk, a1, by omega, a3⟩
section JR
variable {σ : gS} {H : mH} {nT t : Nat} {TT : Nat → mT} {b : gF} {n : Nat}
theorem jp_force (h : IV σ H nT t TT b n) (v : Int32) : JP yX7_force cX7_force 3 yX8_force cX8_force 3 [.int v] σ := by
  obtain ⟨h1, h2, h3, h4, h5, h6, h7, h8⟩ := h
  have e05 := h3.1.1
  have e63 := h3.1.2.1
  have hT6 := h3.1.2.2.2
  refine JP.zsz (hX := 3) (hM := 3) (by decide) (by decide) (c_X7_force σ v) (c_X8_force _ v) ?_
  rw [g_up_if (a := 63) (by decide), e05, e63, h4.1, h4.2]
  by_cases c : g_in v 0 (nI nT - 1)
  · rw [if_pos c, if_pos c, if_pos c]
    obtain ⟨k, hk, rfl⟩ := g_nat c rfl (by omega)
    refine ⟨rfl, H, nT, k, TT, b, n, ?_, h2, ?_, ⟨?_, ?_⟩, hk, ?_, ?_, ?_⟩
    · exact h1.zs (fun a _ _ => by rw [g_up_ne (by omega), g_up_ne (by omega)]) (fun j _ _ => by rw [g_up_ne (by decide), u_ne (by omega)]) (fun j hj => by rw [u_ne (by omega), g_up_ne (by decide)]) (fun a _ _ => by rw [g_up_ne (by omega), g_up_ne (by omega)])
    · exact h3.zs (by rw [g_up_ne (by decide), g_up_ne (by decide)]) (by rw [u_ne (by decide), g_up_ne (by decide)]) (fun i hi => ⟨by rw [g_up_ne (by omega), g_up_ne (by omega)], by rw [g_up_ne (by omega), g_up_ne (by omega)]⟩) (by rw [g_up_ne (by decide), g_up_ne (by decide)]) (by rw [g_up_ne (by decide), g_up_ne (by decide)])
    · rw [g_up_ne (by decide), u_eq]
    · rw [u_eq]
    · exact h6.zs (by rw [g_up_ne (by decide), g_up_ne (by decide)]) (by rw [u_ne (by decide), g_up_ne (by decide)]) (by rw [g_up_ne (by decide), g_up_ne (by decide)]) (by rw [g_up_ne (by decide), g_up_ne (by decide)])
    · exact h7.zs (fun a _ _ => by rw [g_up_ne (by omega), g_up_ne (by omega)]) (fun a _ _ => by rw [g_up_ne (by omega), g_up_ne (by omega)])
    · exact h8.zs (by rw [g_up_ne (by decide), g_up_ne (by decide)]) (fun a _ _ => by rw [g_up_ne (by omega), g_up_ne (by omega)]) (fun j _ _ => by rw [u_ne (by omega), g_up_ne (by decide)]) (fun a _ _ => by rw [g_up_ne (by omega), g_up_ne (by omega)])
  · rw [if_neg c, if_neg c, if_neg c]
    exact ⟨rfl, H, nT, t, TT, b, n, h1, h2, h3, h4, h5, h6, h7, h8⟩
theorem jp_feed (h : IV σ H nT t TT b n) (v : Int32) : JP yX7_feed cX7_feed 2 yX8_feed cX8_feed 2 [.int v] σ := by
  obtain ⟨h1, h2, h3, h4, h5, h6, h7, h8⟩ := h
  obtain ⟨p1, p2, p3, p4⟩ := h6
  have e6 : (if g_in v 0 255 then (if g_in (σ 19 1) 0 159 then (g_up (g_up σ 20 (ix (σ 19 1)) v) 19 1 ((σ 19 1) + 1)) else σ) else σ) 63 = σ 63 := by
    split
    · split
      · rw [g_up_ne (by decide), g_up_ne (by decide)]
      · rfl
    · rfl
  refine JP.zsz (hX := 4) (hM := 3) (by decide) (by decide) (c_X7_feed σ v p1 p3) (c_X8_feed _ v (by rw [e6]; exact p2) p3) ?_
  rw [e6, p1, p2]
  by_cases c : g_in v 0 255
  · rw [if_pos c, if_pos c, if_pos c, if_pos c]
    obtain ⟨q, hq, rfl⟩ := n_of (M := 255) c (by decide)
    have hc : g_in (nI n) 0 159 ↔ n ≤ 159 := by
      have := n_in (a := n) (lo := 0) (hi := 159) (by omega) (by omega) (by omega)
      exact this.trans (by omega)
    have h160 : nI n = 160 ↔ n = 160 := n_eq (a := n) (b := 160) (by omega) (by omega)
    by_cases c2 : n ≤ 159
    · have c3 := hc.mpr c2
      have c4 : ¬ nI n = 160 := fun z => by have := h160.mp z; omega
      rw [if_pos c3, if_pos c3, if_neg c4, if_neg c4, ix_nI (by omega), nI_1]
      refine ⟨rfl, H, nT, t, TT, m_put b n (nI q), n + 1, ?_, h2, ?_, ?_, h5, ⟨?_, ?_, by omega, fun i hi => ?_⟩, ?_, ?_⟩
      · exact h1.zs (fun a _ _ => by rw [g_up_ne (by omega), g_up_ne (by omega), g_up_ne (by omega), g_up_ne (by omega)]) (fun j _ _ => by rw [g_up_ne (by decide), g_up_ne (by decide), g_up_ne (by decide), g_up_ne (by decide)]) (fun j hj => by rw [u_ne (by omega), g_up_ne (by decide), g_up_ne (by decide), g_up_ne (by decide)]) (fun a _ _ => by rw [g_up_ne (by omega), g_up_ne (by omega), g_up_ne (by omega), g_up_ne (by omega)])
      · exact h3.zs (by rw [g_up_ne (by decide), g_up_ne (by decide), g_up_ne (by decide), g_up_ne (by decide)]) (by rw [u_ne (by decide), g_up_ne (by decide), g_up_ne (by decide), g_up_ne (by decide)]) (fun i hi => ⟨by rw [g_up_ne (by omega), g_up_ne (by omega), g_up_ne (by omega), g_up_ne (by omega)], by rw [g_up_ne (by omega), g_up_ne (by omega), g_up_ne (by omega), g_up_ne (by omega)]⟩) (by rw [g_up_ne (by decide), g_up_ne (by decide), g_up_ne (by decide), g_up_ne (by decide)]) (by rw [g_up_ne (by decide), g_up_ne (by decide), g_up_ne (by decide), g_up_ne (by decide)])
      · exact h4.zs (by rw [g_up_ne (by decide), g_up_ne (by decide), g_up_ne (by decide), g_up_ne (by decide)]) (by rw [u_ne (by decide), g_up_ne (by decide), g_up_ne (by decide), g_up_ne (by decide)])
      · rw [g_up_ne (by decide), g_up_ne (by decide), u_eq]
      · rw [u_eq]
      · have m_same : m_put b n (nI q) i = if i = n then nI q else b i := rfl
        rw [m_same, g_up_ne (a := 20) (by decide), g_up_ne (a := 20) (by decide), g_up_ne (a := 20) (by decide), g_up_ne (a := 66) (by decide)]
        by_cases z : i = n
        · subst z
          rw [if_pos rfl, u_eq, u_eq]
          exact ⟨rfl, rfl, c⟩
        · rw [if_neg z, u_ne z, u_ne z, g_up_ne (a := 66) (by decide), g_up_ne (a := 66) (by decide)]
          exact p4 i (by omega)
      · exact h7.zs (fun a _ _ => by rw [g_up_ne (by omega), g_up_ne (by omega), g_up_ne (by omega), g_up_ne (by omega)]) (fun a _ _ => by rw [g_up_ne (by omega), g_up_ne (by omega), g_up_ne (by omega), g_up_ne (by omega)])
      · exact h8.zs (by rw [g_up_ne (by decide), g_up_ne (by decide), g_up_ne (by decide), g_up_ne (by decide)]) (fun a _ _ => by rw [g_up_ne (by omega), g_up_ne (by omega), g_up_ne (by omega), g_up_ne (by omega)]) (fun j _ _ => by rw [u_ne (by omega), g_up_ne (by decide), g_up_ne (by decide), g_up_ne (by decide)]) (fun a _ _ => by rw [g_up_ne (by omega), g_up_ne (by omega), g_up_ne (by omega), g_up_ne (by omega)])
    · have c3 : ¬ g_in (nI n) 0 159 := fun z => c2 (hc.mp z)
      have c4 : nI n = 160 := h160.mpr (by omega)
      rw [if_neg c3, if_neg c3, if_pos c4, if_pos c4]
      exact ⟨rfl, H, nT, t, TT, b, n, h1, h2, h3, h4, h5, ⟨p1, p2, p3, p4⟩, h7, h8⟩
  · rw [if_neg c, if_neg c, if_neg c, if_neg c]
    exact ⟨rfl, H, nT, t, TT, b, n, h1, h2, h3, h4, h5, ⟨p1, p2, p3, p4⟩, h7, h8⟩
theorem jp_text (h : IV σ H nT t TT b n) : JP yX7_text cX7_text 2 yX8_text cX8_text 2 [] σ := by
  obtain ⟨h1, h2, h3, h4, h5, h6, h7, h8⟩ := h
  obtain ⟨p1, p2, p3, p4⟩ := h6
  have hT1 := h3.1.2.2.1
  have hT6 := h3.1.2.2.2
  have hbb : ∀ k, k < n → g_in (b k) 0 255 := fun k hk => (p4 k hk).2.2
  refine ⟨49, _, by decide, k_X7_text (by decide) σ h3.1.1 hT6 p3 p1 (fun i hi => (p4 i hi).1) hbb, fun rv s1 hq => ?_⟩
  obtain ⟨q1, q2, q3, q4, q5, q6, q7⟩ := hq
  have q64 : s1 64 = σ 64 ∧ s1 65 = σ 65 := by
    by_cases z : nT = 6
    · rw [q6 z]; exact ⟨rfl, rfl⟩
    · exact ⟨q5 64 (by decide) (by decide) (by omega) (by omega), q5 65 (by decide) (by decide) (by omega) (by omega)⟩
  refine ⟨66, _, _, by decide, q1, k_M_text (by decide) s1 (b := b) (n := n) (nT := nT) (by rw [q5 63 (by decide) (by decide) (by omega) (by omega)]; exact h3.1.2.1) hT6 p3 (by rw [q5 63 (by decide) (by decide) (by omega) (by omega)]; exact p2) (fun i hi => by rw [q5 66 (by decide) (by decide) (by omega) (by omega)]; exact (p4 i hi).2.1) hbb, fun rv2 s2 hr => ?_⟩
  obtain ⟨r1, r2, r3, r4, r5, r6, r7, r8⟩ := hr
  refine ⟨r1, ?_⟩
  have E : ∀ a, a ≠ 0 → a ≠ 19 → a ≠ 46 + 3 * nT → a ≠ 47 + 3 * nT → a ≠ 63 → a ≠ 64 → a ≠ 65 → s2 a = σ a := fun a z0 z19 z46 z47 z63 z64 z65 => (r5 a z63 z64 z65).trans (q5 a z0 z19 z46 z47)
  have J0 : ∀ j, j ≠ 5 → s2 0 j = σ 0 j := fun j hj => by rw [r5 0 (by decide) (by decide) (by decide)]; exact q4 j hj
  have J63 : ∀ j, j ≠ 3 → j ≠ 6 → (j < 20 ∨ 34 < j) → s2 63 j = σ 63 j := fun j z1 z2 z3 => (r4 j z1 z2 z3).trans (by rw [q5 63 (by decide) (by decide) (by omega) (by omega)])
  have hnT : n_text nT (q_l b n) = nT ∨ (n_text nT (q_l b n) = nT + 1 ∧ nT ≤ 5) := by
    unfold n_text
    split
    · next z => exact Or.inr ⟨rfl, z.1⟩
    · exact Or.inl rfl
  have g1 : iv_h s2 H := h1.zs (fun a z1 z2 => E a (by omega) (by omega) (by omega) (by omega) (by omega) (by omega) (by omega)) (fun j _ _ => by rw [E 1 (by decide) (by decide) (by omega) (by omega) (by decide) (by decide) (by decide)]) (fun j hj => J63 j (by omega) (by omega) (by omega)) (fun a z1 z2 => E a (by omega) (by omega) (by omega) (by omega) (by omega) (by omega) (by omega))
  have g4 : iv_t s2 t := h4.zs (by rw [E 1 (by decide) (by decide) (by omega) (by omega) (by decide) (by decide) (by decide)]) (J63 4 (by decide) (by decide) (by decide))
  have g7 : iv_sh s2 := h7.zs (fun a z1 z2 => E a (by omega) (by omega) (by omega) (by omega) (by omega) (by omega) (by omega)) (fun a z1 z2 => E a (by omega) (by omega) (by omega) (by omega) (by omega) (by omega) (by omega))
  have g8 : iv_im s2 H nT := h8.zs (J0 2 (by decide)) (fun a z1 z2 => E a (by omega) (by omega) (by omega) (by omega) (by omega) (by omega) (by omega)) (fun j z1 z2 => J63 j (by omega) (by omega) (by omega)) (fun a z1 z2 => E a (by omega) (by omega) (by omega) (by omega) (by omega) (by omega) (by omega))
  have old : ∀ i, i < nT → iv_t1 s2 TT i := fun i hi => iv_t1.zs (TT := TT) (h3.2 i hi) (E _ (by omega) (by omega) (by omega) (by omega) (by omega) (by omega) (by omega)) (E _ (by omega) (by omega) (by omega) (by omega) (by omega) (by omega) (by omega)) ((r6 i (by omega)).trans (by rw [q64.2])) (fun j hj => (r7 _ (by omega)).trans (by rw [q64.1]))
  have e05 : s2 0 5 = nI (n_text nT (q_l b n)) := by rw [r5 0 (by decide) (by decide) (by decide)]; exact q2
  have e19 : s2 19 1 = if nT ≤ 5 then 0 else nI n := by rw [r5 19 (by decide) (by decide) (by decide)]; exact q3
  have tape : ∃ b' n', iv_tp s2 b' n' := by
    by_cases z : nT ≤ 5
    · rw [if_pos z] at e19 r3
      exact ⟨b, 0, e19, r3, by omega, fun i hi => absurd hi (by omega)⟩
    · rw [if_neg z] at e19 r3
      exact ⟨b, n, e19, r3, p3, fun i hi => by rw [E 20 (by decide) (by decide) (by omega) (by omega) (by decide) (by decide) (by decide), E 66 (by decide) (by decide) (by omega) (by omega) (by decide) (by decide) (by decide)]; exact p4 i hi⟩
  obtain ⟨b', n', g6⟩ := tape
  rcases hnT with z | ⟨z, z5⟩
  · rw [z] at e05 r2
    exact ⟨H, nT, t, TT, b', n', g1, h2, ⟨⟨e05, r2, hT1, hT6⟩, old⟩, g4, h5, g6, g7, g8⟩
  · obtain ⟨f1, f2⟩ := q7 z
    have f3 := r8 z
    have hfa : p_fa (p_end (q_l b n)) = none := by
      unfold n_text at z
      by_cases y : nT ≤ 5 ∧ p_fa (p_end (q_l b n)) = none
      · exact y.2
      · rw [if_neg y] at z; omega
    rw [z] at e05 r2
    refine ⟨H, nT + 1, t, fun i => if i = nT then t_of (q_l b n) else TT i, b', n', g1, h2, ⟨⟨e05, r2, by omega, by omega⟩, fun i hi => ?_⟩, g4, by omega, g6, g7, g8.zt (by omega)⟩
    by_cases y : i = nT
    · subst y
      obtain ⟨w1, w2⟩ := f1.same (s := s2) (r5 _ (by omega) (by omega) (by omega)) (r5 _ (by omega) (by omega) (by omega))
      dsimp only
      rw [if_pos rfl]
      exact ⟨⟨w1, fun pa hp mo nm => (w2 pa mo nm).trans (f2 pa hp mo nm)⟩, b, n, f3, hfa, rfl⟩
    · have := old i (by omega)
      unfold iv_t1 at this
      dsimp only
      rw [if_neg y]
      exact this
end JR
