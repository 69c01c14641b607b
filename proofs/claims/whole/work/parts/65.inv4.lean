/-! THE RAIN CHANGES -/
def hs_ra (H : mH) (ra : gF) : mH := (h_kd H, h_nu H, h_rt H, h_pl H, ra, h_sz H, h_st H, h_w H, h_nd H, h_nv H, h_up H, h_hd H, h_so H)
theorem IV.zra {σ s : gS} {H : mH} {nT t : Nat} {TT : Nat → mT} {b : gF} {n : Nat} (h : IV σ H nT t TT b n) {ra : gF} (e : ∀ a, a ≠ 2 → a ≠ 67 → s a = σ a) (x2 : ∀ h, h < 24 → s 2 h = ra h) (x67 : ∀ h, h < 24 → s 67 h = ra h) (ok : ∀ h, h < 24 → ∃ q, ra h = nI q ∧ q ≤ 9) : IV s (hs_ra H ra) nT t TT b n := by
  have hh := h.1
  have hk := h.2.1
  obtain ⟨⟨y1, y2, y3, y4⟩, ⟨d1, d2, d3⟩, v1, v2, v3, v4⟩ := hh
  refine h.zh ⟨fun a z1 z2 z3 z4 => e a (by omega) (by omega), by rw [e 1 (by decide) (by decide)], fun j _ _ _ _ _ => by rw [e 63 (by decide) (by decide)]⟩ ⟨⟨?_, x2, ?_, ?_⟩, ⟨?_, x67, ?_⟩, ?_, ?_, ?_, ?_⟩ ⟨hk.1, hk.2.1, ok, hk.2.2.2.1, hk.2.2.2.2⟩ (Nat.le_refl _) (Nat.le_refl _) (fun _ _ => rfl) (fun _ _ => rfl)
  · rw [e 1 (by decide) (by decide)]; exact y1
  · rw [e 3 (by decide) (by decide), e 4 (by decide) (by decide), e 5 (by decide) (by decide), e 6 (by decide) (by decide)]; exact y3
  · rw [e 7 (by decide) (by decide), e 8 (by decide) (by decide), e 9 (by decide) (by decide)]; exact y4
  · rw [e 63 (by decide) (by decide)]; exact d1
  · rw [e 68 (by decide) (by decide), e 69 (by decide) (by decide), e 70 (by decide) (by decide), e 71 (by decide) (by decide)]; exact d3
  · rw [e 63 (by decide) (by decide)]; exact v1
  · rw [e 72 (by decide) (by decide), e 73 (by decide) (by decide), e 74 (by decide) (by decide)]; exact v2
  · rw [e 63 (by decide) (by decide)]; exact v3
  · rw [e 63 (by decide) (by decide)]; exact v4
theorem j_set0 {σ : gS} {H : mH} {nT t : Nat} {TT : Nat → mT} {b : gF} {n : Nat} (h : IV σ H nT t TT b n) (o v : Int32) {s1 s2 : gS} (e1 : s1 = if g_in o 0 23 ∧ g_in v 0 9 then g_up σ 2 (ix o) v else σ) (e2 : s2 = if g_in o 0 23 ∧ g_in v 0 9 then g_up s1 67 (ix o) v else s1) : (if g_in o 0 23 ∧ g_in v 0 9 then σ 2 (ix o) else -2) = (if g_in o 0 23 ∧ g_in v 0 9 then s1 67 (ix o) else -2) ∧ ∃ H', IV s2 H' nT t TT b n := by
  by_cases c : g_in o 0 23 ∧ g_in v 0 9
  · rw [if_pos c] at e1 e2 ⊢
    rw [if_pos c]
    subst e1
    subst e2
    obtain ⟨k, hk, rfl⟩ := n_of (M := 23) c.1 (by decide)
    obtain ⟨q, hq, rfl⟩ := n_of (M := 9) c.2 (by decide)
    rw [ix_nI (by omega)]
    have hr2 := h.1.1.2.1
    have hr67 := h.1.2.1.2.1
    refine ⟨by rw [g_up_ne (by decide), hr2 k (by omega), hr67 k (by omega)], hs_ra H (m_put (h_ra H) k (nI q)), h.zra (fun a x y => by rw [g_up_ne y, g_up_ne x]) (fun j hj => ?_) (fun j hj => ?_) (fun j hj => ?_)⟩
    · rw [g_up_ne (by decide)]
      by_cases z : j = k
      · subst z; rw [u_eq]; exact (if_pos rfl).symm
      · rw [u_ne z, hr2 j hj]; exact (if_neg z).symm
    · by_cases z : j = k
      · subst z; rw [u_eq]; exact (if_pos rfl).symm
      · rw [u_ne z, g_up_ne (by decide), hr67 j hj]; exact (if_neg z).symm
    · by_cases z : j = k
      · exact ⟨q, if_pos z, hq⟩
      · obtain ⟨q', e', h'⟩ := h.2.1.2.2.1 j hj
        exact ⟨q', (if_neg z).trans e', h'⟩
  · rw [if_neg c] at e1 e2 ⊢
    rw [if_neg c]
    subst e1
    subst e2
    exact ⟨rfl, H, h⟩
