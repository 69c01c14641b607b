/-! NUMBER, RATE, PLACE OF A DRIP CHANGE -/
def hs_d (H : mH) (nu rt pl : gF) : mH := (h_kd H, nu, rt, pl, h_ra H, h_sz H, h_st H, h_w H, h_nd H, h_nv H, h_up H, h_hd H, h_so H)
theorem IV.zd {σ s : gS} {H : mH} {nT t : Nat} {TT : Nat → mT} {b : gF} {n : Nat} (h : IV σ H nT t TT b n) {nu rt pl : gF} (e : ∀ a, (a < 4 ∨ 6 < a) → (a < 69 ∨ 71 < a) → s a = σ a) (x : ∀ d, d < h_nd H → s 4 d = nu d ∧ s 5 d = rt d ∧ s 6 d = pl d) (m : ∀ d, d < h_nd H → s 69 d = nu d ∧ s 70 d = rt d ∧ s 71 d = pl d) (ok : ∀ d, d < h_nd H → (∃ q, nu d = nI q ∧ q ≤ 9) ∧ (∃ q, rt d = nI q ∧ q ≤ 9) ∧ ∃ q, pl d = nI q ∧ q ≤ 7) : IV s (hs_d H nu rt pl) nT t TT b n := by
  have hh := h.1
  have hk := h.2.1
  obtain ⟨⟨y1, y2, y3, y4⟩, ⟨d1, d2, d3⟩, v1, v2, v3, v4⟩ := hh
  refine h.zh ⟨fun a z1 z2 z3 z4 => e a (by omega) (by omega), by rw [e 1 (by decide) (by decide)], fun j _ _ _ _ _ => by rw [e 63 (by decide) (by decide)]⟩ ⟨⟨?_, ?_, fun d hd => ⟨?_, x d hd⟩, ?_⟩, ⟨?_, ?_, fun d hd => ⟨?_, m d hd⟩⟩, ?_, ?_, ?_, ?_⟩ ⟨hk.1, fun d hd => ⟨(hk.2.1 d hd).1, ok d hd⟩, hk.2.2⟩ (Nat.le_refl _) (Nat.le_refl _) (fun _ _ => rfl) (fun _ _ => rfl)
  · rw [e 1 (by decide) (by decide)]; exact y1
  · rw [e 2 (by decide) (by decide)]; exact y2
  · rw [e 3 (by decide) (by decide)]; exact (y3 d hd).1
  · rw [e 7 (by decide) (by decide), e 8 (by decide) (by decide), e 9 (by decide) (by decide)]; exact y4
  · rw [e 63 (by decide) (by decide)]; exact d1
  · rw [e 67 (by decide) (by decide)]; exact d2
  · rw [e 68 (by decide) (by decide)]; exact (d3 d hd).1
  · rw [e 63 (by decide) (by decide)]; exact v1
  · rw [e 72 (by decide) (by decide), e 73 (by decide) (by decide), e 74 (by decide) (by decide)]; exact v2
  · rw [e 63 (by decide) (by decide)]; exact v3
  · rw [e 63 (by decide) (by decide)]; exact v4
theorem j_set4 {σ : gS} {H : mH} {nT t : Nat} {TT : Nat → mT} {b : gF} {n : Nat} (h : IV σ H nT t TT b n) (o v : Int32) {s1 s2 : gS} (e1 : s1 = if g_in o 0 (σ 1 8 - 1) ∧ g_in v 0 9 then g_up σ 4 (ix o) v else σ) (e2 : s2 = if g_in o 0 (s1 63 15 - 1) ∧ g_in v 0 9 then g_up s1 69 (ix o) v else s1) : (if g_in o 0 (σ 1 8 - 1) ∧ g_in v 0 9 then σ 4 (ix o) else -2) = (if g_in o 0 (s1 63 15 - 1) ∧ g_in v 0 9 then s1 69 (ix o) else -2) ∧ ∃ H', IV s2 H' nT t TT b n := by
  obtain ⟨y1, d, -⟩ := h.1
  have hd6 := h.2.1.1.1
  rw [y1.1.1] at e1 ⊢
  have e15 : s1 63 15 = nI (h_nd H) := by
    rw [e1]
    split
    · rw [g_up_ne (by decide)]; exact d.1
    · exact d.1
  rw [e15] at e2 ⊢
  by_cases c : g_in o 0 (nI (h_nd H) - 1) ∧ g_in v 0 9
  · rw [if_pos c] at e1 e2 ⊢
    rw [if_pos c]
    obtain ⟨k, hk, rfl⟩ := g_nat c.1 rfl (by omega)
    obtain ⟨q, hq, rfl⟩ := n_of (M := 9) c.2 (by decide)
    rw [ix_nI (by omega)] at e1 e2 ⊢
    subst e1
    subst e2
    have yk := y1.2.2.1
    have dk := d.2.2
    refine ⟨by rw [g_up_ne (by decide), (yk k hk).2.1, (dk k hk).2.1], hs_d H (m_put (h_nu H) k (nI q)) (h_rt H) (h_pl H), h.zd (fun a z1 z2 => by rw [g_up_ne (by omega), g_up_ne (by omega)]) (fun j hj => ?_) (fun j hj => ?_) (fun j hj => ?_)⟩
    · obtain ⟨-, a1, a2, a3⟩ := yk j hj
      refine ⟨?_, ?_, ?_⟩
      · by_cases z : j = k
        · subst z; rw [g_up_ne (by decide), u_eq]; exact (if_pos rfl).symm
        · rw [g_up_ne (by decide), u_ne z, a1]; exact (if_neg z).symm
      · rw [g_up_ne (by decide), g_up_ne (by decide)]; exact a2
      · rw [g_up_ne (by decide), g_up_ne (by decide)]; exact a3
    · obtain ⟨-, a1, a2, a3⟩ := dk j hj
      refine ⟨?_, ?_, ?_⟩
      · by_cases z : j = k
        · subst z; rw [u_eq]; exact (if_pos rfl).symm
        · rw [u_ne z, g_up_ne (by decide), a1]; exact (if_neg z).symm
      · rw [g_up_ne (by decide), g_up_ne (by decide)]; exact a2
      · rw [g_up_ne (by decide), g_up_ne (by decide)]; exact a3
    · obtain ⟨-, a1, a2, a3⟩ := h.2.1.2.1 j hj
      refine ⟨?_, ?_, ?_⟩
      · by_cases z : j = k
        · exact ⟨q, if_pos z, hq⟩
        · obtain ⟨q', f1, f2⟩ := a1
          exact ⟨q', (if_neg z).trans f1, f2⟩
      · exact a2
      · exact a3
  · rw [if_neg c] at e1 e2 ⊢
    rw [if_neg c]
    subst e1
    subst e2
    exact ⟨rfl, H, h⟩
theorem j_set5 {σ : gS} {H : mH} {nT t : Nat} {TT : Nat → mT} {b : gF} {n : Nat} (h : IV σ H nT t TT b n) (o v : Int32) {s1 s2 : gS} (e1 : s1 = if g_in o 0 (σ 1 8 - 1) ∧ g_in v 0 9 then g_up σ 5 (ix o) v else σ) (e2 : s2 = if g_in o 0 (s1 63 15 - 1) ∧ g_in v 0 9 then g_up s1 70 (ix o) v else s1) : (if g_in o 0 (σ 1 8 - 1) ∧ g_in v 0 9 then σ 5 (ix o) else -2) = (if g_in o 0 (s1 63 15 - 1) ∧ g_in v 0 9 then s1 70 (ix o) else -2) ∧ ∃ H', IV s2 H' nT t TT b n := by
  obtain ⟨y1, d, -⟩ := h.1
  have hd6 := h.2.1.1.1
  rw [y1.1.1] at e1 ⊢
  have e15 : s1 63 15 = nI (h_nd H) := by
    rw [e1]
    split
    · rw [g_up_ne (by decide)]; exact d.1
    · exact d.1
  rw [e15] at e2 ⊢
  by_cases c : g_in o 0 (nI (h_nd H) - 1) ∧ g_in v 0 9
  · rw [if_pos c] at e1 e2 ⊢
    rw [if_pos c]
    obtain ⟨k, hk, rfl⟩ := g_nat c.1 rfl (by omega)
    obtain ⟨q, hq, rfl⟩ := n_of (M := 9) c.2 (by decide)
    rw [ix_nI (by omega)] at e1 e2 ⊢
    subst e1
    subst e2
    have yk := y1.2.2.1
    have dk := d.2.2
    refine ⟨by rw [g_up_ne (by decide), (yk k hk).2.2.1, (dk k hk).2.2.1], hs_d H (h_nu H) (m_put (h_rt H) k (nI q)) (h_pl H), h.zd (fun a z1 z2 => by rw [g_up_ne (by omega), g_up_ne (by omega)]) (fun j hj => ?_) (fun j hj => ?_) (fun j hj => ?_)⟩
    · obtain ⟨-, a1, a2, a3⟩ := yk j hj
      refine ⟨?_, ?_, ?_⟩
      · rw [g_up_ne (by decide), g_up_ne (by decide)]; exact a1
      · by_cases z : j = k
        · subst z; rw [g_up_ne (by decide), u_eq]; exact (if_pos rfl).symm
        · rw [g_up_ne (by decide), u_ne z, a2]; exact (if_neg z).symm
      · rw [g_up_ne (by decide), g_up_ne (by decide)]; exact a3
    · obtain ⟨-, a1, a2, a3⟩ := dk j hj
      refine ⟨?_, ?_, ?_⟩
      · rw [g_up_ne (by decide), g_up_ne (by decide)]; exact a1
      · by_cases z : j = k
        · subst z; rw [u_eq]; exact (if_pos rfl).symm
        · rw [u_ne z, g_up_ne (by decide), a2]; exact (if_neg z).symm
      · rw [g_up_ne (by decide), g_up_ne (by decide)]; exact a3
    · obtain ⟨-, a1, a2, a3⟩ := h.2.1.2.1 j hj
      refine ⟨?_, ?_, ?_⟩
      · exact a1
      · by_cases z : j = k
        · exact ⟨q, if_pos z, hq⟩
        · obtain ⟨q', f1, f2⟩ := a2
          exact ⟨q', (if_neg z).trans f1, f2⟩
      · exact a3
  · rw [if_neg c] at e1 e2 ⊢
    rw [if_neg c]
    subst e1
    subst e2
    exact ⟨rfl, H, h⟩
theorem j_set6 {σ : gS} {H : mH} {nT t : Nat} {TT : Nat → mT} {b : gF} {n : Nat} (h : IV σ H nT t TT b n) (o v : Int32) {s1 s2 : gS} (e1 : s1 = if g_in o 0 (σ 1 8 - 1) ∧ g_in v 0 7 then g_up σ 6 (ix o) v else σ) (e2 : s2 = if g_in o 0 (s1 63 15 - 1) ∧ g_in v 0 7 then g_up s1 71 (ix o) v else s1) : (if g_in o 0 (σ 1 8 - 1) ∧ g_in v 0 7 then σ 6 (ix o) else -2) = (if g_in o 0 (s1 63 15 - 1) ∧ g_in v 0 7 then s1 71 (ix o) else -2) ∧ ∃ H', IV s2 H' nT t TT b n := by
  obtain ⟨y1, d, -⟩ := h.1
  have hd6 := h.2.1.1.1
  rw [y1.1.1] at e1 ⊢
  have e15 : s1 63 15 = nI (h_nd H) := by
    rw [e1]
    split
    · rw [g_up_ne (by decide)]; exact d.1
    · exact d.1
  rw [e15] at e2 ⊢
  by_cases c : g_in o 0 (nI (h_nd H) - 1) ∧ g_in v 0 7
  · rw [if_pos c] at e1 e2 ⊢
    rw [if_pos c]
    obtain ⟨k, hk, rfl⟩ := g_nat c.1 rfl (by omega)
    obtain ⟨q, hq, rfl⟩ := n_of (M := 7) c.2 (by decide)
    rw [ix_nI (by omega)] at e1 e2 ⊢
    subst e1
    subst e2
    have yk := y1.2.2.1
    have dk := d.2.2
    refine ⟨by rw [g_up_ne (by decide), (yk k hk).2.2.2, (dk k hk).2.2.2], hs_d H (h_nu H) (h_rt H) (m_put (h_pl H) k (nI q)), h.zd (fun a z1 z2 => by rw [g_up_ne (by omega), g_up_ne (by omega)]) (fun j hj => ?_) (fun j hj => ?_) (fun j hj => ?_)⟩
    · obtain ⟨-, a1, a2, a3⟩ := yk j hj
      refine ⟨?_, ?_, ?_⟩
      · rw [g_up_ne (by decide), g_up_ne (by decide)]; exact a1
      · rw [g_up_ne (by decide), g_up_ne (by decide)]; exact a2
      · by_cases z : j = k
        · subst z; rw [g_up_ne (by decide), u_eq]; exact (if_pos rfl).symm
        · rw [g_up_ne (by decide), u_ne z, a3]; exact (if_neg z).symm
    · obtain ⟨-, a1, a2, a3⟩ := dk j hj
      refine ⟨?_, ?_, ?_⟩
      · rw [g_up_ne (by decide), g_up_ne (by decide)]; exact a1
      · rw [g_up_ne (by decide), g_up_ne (by decide)]; exact a2
      · by_cases z : j = k
        · subst z; rw [u_eq]; exact (if_pos rfl).symm
        · rw [u_ne z, g_up_ne (by decide), a3]; exact (if_neg z).symm
    · obtain ⟨-, a1, a2, a3⟩ := h.2.1.2.1 j hj
      refine ⟨?_, ?_, ?_⟩
      · exact a1
      · exact a2
      · by_cases z : j = k
        · exact ⟨q, if_pos z, hq⟩
        · obtain ⟨q', f1, f2⟩ := a3
          exact ⟨q', (if_neg z).trans f1, f2⟩
  · rw [if_neg c] at e1 e2 ⊢
    rw [if_neg c]
    subst e1
    subst e2
    exact ⟨rfl, H, h⟩
