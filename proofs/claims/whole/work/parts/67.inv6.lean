/-! WAKING HOURS, HANDS, SORT CHANGE -/
def hs_w (H : mH) (up : Int32) (hd : Nat) (so : Int32) : mH := (h_kd H, h_nu H, h_rt H, h_pl H, h_ra H, h_sz H, h_st H, h_w H, h_nd H, h_nv H, up, hd, so)
theorem IV.zw {σ s : gS} {H : mH} {nT t : Nat} {TT : Nat → mT} {b : gF} {n : Nat} (h : IV σ H nT t TT b n) {up so : Int32} {hd : Nat} (e : ∀ a, a ≠ 1 → a ≠ 63 → s a = σ a) (e1 : ∀ j, j ≠ 10 → j ≠ 11 → j ≠ 12 → s 1 j = σ 1 j) (e63 : ∀ j, j ≠ 8 → j ≠ 9 → j ≠ 10 → s 63 j = σ 63 j) (x1 : s 1 10 = up ∧ s 1 11 = nI hd ∧ s 1 12 = so) (m1 : s 63 8 = up ∧ s 63 9 = nI hd ∧ s 63 10 = so) (ok : hd ≤ 5 ∧ 1 ≤ hd ∧ (so = 0 ∨ so = 1) ∧ g_in up 0 16777215) : IV s (hs_w H up hd so) nT t TT b n := by
  have hh := h.1
  have hk := h.2.1
  obtain ⟨⟨y1, y2, y3, y4⟩, ⟨d1, d2, d3⟩, v1, v2, v3, v4⟩ := hh
  refine h.zh ⟨fun a z1 z2 z3 z4 => e a z1 z2, e1 13 (by decide) (by decide) (by decide), fun j z1 z2 z3 _ _ => e63 j z1 z2 z3⟩ ⟨⟨⟨?_, ?_, x1⟩, ?_, ?_, ?_⟩, ⟨?_, ?_, ?_⟩, ?_, ?_, ⟨m1.1, m1.2.2, m1.2.1⟩, ?_⟩ ⟨⟨hk.1.1, hk.1.2.1, ok⟩, hk.2⟩ (Nat.le_refl _) (Nat.le_refl _) (fun _ _ => rfl) (fun _ _ => rfl)
  · rw [e1 8 (by decide) (by decide) (by decide)]; exact y1.1
  · rw [e1 9 (by decide) (by decide) (by decide)]; exact y1.2.1
  · rw [e 2 (by decide) (by decide)]; exact y2
  · rw [e 3 (by decide) (by decide), e 4 (by decide) (by decide), e 5 (by decide) (by decide), e 6 (by decide) (by decide)]; exact y3
  · rw [e 7 (by decide) (by decide), e 8 (by decide) (by decide), e 9 (by decide) (by decide)]; exact y4
  · rw [e63 15 (by decide) (by decide) (by decide)]; exact d1
  · rw [e 67 (by decide) (by decide)]; exact d2
  · rw [e 68 (by decide) (by decide), e 69 (by decide) (by decide), e 70 (by decide) (by decide), e 71 (by decide) (by decide)]; exact d3
  · rw [e63 19 (by decide) (by decide) (by decide)]; exact v1
  · rw [e 72 (by decide) (by decide), e 73 (by decide) (by decide), e 74 (by decide) (by decide)]; exact v2
  · rw [e63 44 (by decide) (by decide) (by decide)]; exact v4
theorem j_set1 {σ : gS} {H : mH} {nT t : Nat} {TT : Nat → mT} {b : gF} {n : Nat} (h : IV σ H nT t TT b n) (v : Int32) {s1 s2 : gS} (e1 : s1 = if g_in v 0 16777215 then g_up σ 1 10 v else σ) (e2 : s2 = if g_in v 0 16777215 then g_up s1 63 8 v else s1) : (if g_in v 0 16777215 then σ 1 10 else -2) = (if g_in v 0 16777215 then s1 63 8 else -2) ∧ ∃ H', IV s2 H' nT t TT b n := by
  obtain ⟨y1, -, d⟩ := h.1
  by_cases c : g_in v 0 16777215
  · rw [if_pos c] at e1 e2 ⊢
    rw [if_pos c]
    subst e1
    subst e2
    refine ⟨by rw [g_up_ne (by decide), y1.1.2.2.1, d.2.2.1.1], hs_w H v (h_hd H) (h_so H), h.zw (fun a z1 z2 => by rw [g_up_ne z2, g_up_ne z1]) (fun j z1 _ _ => by rw [g_up_ne (by decide), u_ne z1]) (fun j z1 _ _ => by rw [u_ne z1, g_up_ne (by decide)]) ⟨by rw [g_up_ne (by decide), u_eq], by rw [g_up_ne (by decide), u_ne (by decide)]; exact y1.1.2.2.2.1, by rw [g_up_ne (by decide), u_ne (by decide)]; exact y1.1.2.2.2.2⟩ ⟨u_eq _ _ _ _, by rw [u_ne (by decide), g_up_ne (by decide)]; exact d.2.2.1.2.2, by rw [u_ne (by decide), g_up_ne (by decide)]; exact d.2.2.1.2.1⟩ ⟨h.2.1.1.2.2.1, h.2.1.1.2.2.2.1, h.2.1.1.2.2.2.2.1, c⟩⟩
  · rw [if_neg c] at e1 e2 ⊢
    rw [if_neg c]
    subst e1
    subst e2
    exact ⟨rfl, H, h⟩
theorem j_set2 {σ : gS} {H : mH} {nT t : Nat} {TT : Nat → mT} {b : gF} {n : Nat} (h : IV σ H nT t TT b n) (v : Int32) {s1 s2 : gS} (e1 : s1 = if g_in v 1 5 then g_up σ 1 11 v else σ) (e2 : s2 = if g_in v 1 5 then g_up s1 63 9 v else s1) : (if g_in v 1 5 then σ 1 11 else -2) = (if g_in v 1 5 then s1 63 9 else -2) ∧ ∃ H', IV s2 H' nT t TT b n := by
  obtain ⟨y1, -, d⟩ := h.1
  by_cases c : g_in v 1 5
  · rw [if_pos c] at e1 e2 ⊢
    rw [if_pos c]
    obtain ⟨q, hq1, hq5, rfl⟩ := n_of1 (M := 5) c (by decide)
    subst e1
    subst e2
    refine ⟨by rw [g_up_ne (by decide), y1.1.2.2.2.1, d.2.2.1.2.2], hs_w H (h_up H) q (h_so H), h.zw (fun a z1 z2 => by rw [g_up_ne z2, g_up_ne z1]) (fun j _ z1 _ => by rw [g_up_ne (by decide), u_ne z1]) (fun j _ z1 _ => by rw [u_ne z1, g_up_ne (by decide)]) ⟨by rw [g_up_ne (by decide), u_ne (by decide)]; exact y1.1.2.2.1, by rw [g_up_ne (by decide), u_eq], by rw [g_up_ne (by decide), u_ne (by decide)]; exact y1.1.2.2.2.2⟩ ⟨by rw [u_ne (by decide), g_up_ne (by decide)]; exact d.2.2.1.1, u_eq _ _ _ _, by rw [u_ne (by decide), g_up_ne (by decide)]; exact d.2.2.1.2.1⟩ ⟨hq5, hq1, h.2.1.1.2.2.2.2.1, h.2.1.1.2.2.2.2.2⟩⟩
  · rw [if_neg c] at e1 e2 ⊢
    rw [if_neg c]
    subst e1
    subst e2
    exact ⟨rfl, H, h⟩
theorem j_set3 {σ : gS} {H : mH} {nT t : Nat} {TT : Nat → mT} {b : gF} {n : Nat} (h : IV σ H nT t TT b n) (v : Int32) {s1 s2 : gS} (e1 : s1 = if g_in v 0 1 then g_up σ 1 12 v else σ) (e2 : s2 = if g_in v 0 1 then g_up s1 63 10 v else s1) : (if g_in v 0 1 then σ 1 12 else -2) = (if g_in v 0 1 then s1 63 10 else -2) ∧ ∃ H', IV s2 H' nT t TT b n := by
  obtain ⟨y1, -, d⟩ := h.1
  by_cases c : g_in v 0 1
  · rw [if_pos c] at e1 e2 ⊢
    rw [if_pos c]
    subst e1
    subst e2
    have c01 : v = 0 ∨ v = 1 := by
      obtain ⟨q, hq, rfl⟩ := n_of (M := 1) c (by decide)
      have : q = 0 ∨ q = 1 := by omega
      rcases this with rfl | rfl
      · exact Or.inl rfl
      · exact Or.inr rfl
    refine ⟨by rw [g_up_ne (by decide), y1.1.2.2.2.2, d.2.2.1.2.1], hs_w H (h_up H) (h_hd H) v, h.zw (fun a z1 z2 => by rw [g_up_ne z2, g_up_ne z1]) (fun j _ _ z1 => by rw [g_up_ne (by decide), u_ne z1]) (fun j _ _ z1 => by rw [u_ne z1, g_up_ne (by decide)]) ⟨by rw [g_up_ne (by decide), u_ne (by decide)]; exact y1.1.2.2.1, by rw [g_up_ne (by decide), u_ne (by decide)]; exact y1.1.2.2.2.1, by rw [g_up_ne (by decide), u_eq]⟩ ⟨by rw [u_ne (by decide), g_up_ne (by decide)]; exact d.2.2.1.1, by rw [u_ne (by decide), g_up_ne (by decide)]; exact d.2.2.1.2.2, u_eq _ _ _ _⟩ ⟨h.2.1.1.2.2.1, h.2.1.1.2.2.2.1, c01, h.2.1.1.2.2.2.2.2⟩⟩
  · rw [if_neg c] at e1 e2 ⊢
    rw [if_neg c]
    subst e1
    subst e2
    exact ⟨rfl, H, h⟩
