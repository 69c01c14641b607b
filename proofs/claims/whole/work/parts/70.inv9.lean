/-! fill KEEPS THE INVARIANT -/
theorem j_fill {σ : gS} {H : mH} {nT t : Nat} {TT : Nat → mT} {b : gF} {n : Nat} (h : IV σ H nT t TT b n) (o v : Int32) {s1 s2 : gS} (e1 : s1 = if g_in o 0 (σ 1 9 - 1) then (if g_in v 0 (σ 7 (Int32.toNatClampNeg o)) then g_up σ 9 (ix o) v else σ) else σ) (e2 : s2 = if g_in o 0 (s1 63 19 - 1) then (if g_in v 0 (s1 72 (Int32.toNatClampNeg o)) then g_up s1 74 (ix o) v else s1) else s1) : (if g_in o 0 (σ 1 9 - 1) then (if g_in v 0 (σ 7 (Int32.toNatClampNeg o)) then σ 9 (ix o) else -2) else -2) = (if g_in o 0 (s1 63 19 - 1) then (if g_in v 0 (s1 72 (Int32.toNatClampNeg o)) then s1 74 (ix o) else -2) else -2) ∧ ∃ H', IV s2 H' nT t TT b n := by
  obtain ⟨y1, d, v19, v2, -⟩ := h.1
  have hn5 := h.2.1.1.2.1
  rw [y1.1.2.1] at e1 ⊢
  have eo : ∀ a, a ≠ 9 → s1 a = σ a := fun a ha => by
    rw [e1]
    split
    · split
      · exact g_up_ne ha
      · rfl
    · rfl
  rw [eo 63 (by decide), eo 72 (by decide), v19] at e2 ⊢
  rw [eo 74 (by decide)]
  by_cases c : g_in o 0 (nI (h_nv H) - 1)
  · rw [if_pos c] at e1 e2 ⊢
    rw [if_pos c]
    obtain ⟨k, hk, rfl⟩ := g_nat c rfl (by omega)
    have ek : Int32.toNatClampNeg (nI k) = k := ix_nI (by omega)
    rw [ek] at e1 e2 ⊢
    rw [ix_nI (by omega)] at e1 e2 ⊢
    have yk := (y1.2.2.2 k hk).1
    have mk := (v2 k hk).1
    rw [yk] at e1 ⊢
    rw [mk] at e2 ⊢
    by_cases c2 : g_in v 0 (h_sz H k)
    · rw [if_pos c2] at e1 e2 ⊢
      rw [if_pos c2]
      obtain ⟨W, S, f1, f2, f3, f4, f5⟩ := (h.2.1.2.2.2.1 k hk).1
      rw [f2] at c2
      obtain ⟨q, hq, rfl⟩ := n_of c2 (by omega)
      refine ⟨by rw [(y1.2.2.2 k hk).2.2, (v2 k hk).2.2], hs_v H (m_put (h_w H) k (nI q)), ?_⟩
      subst e2
      subst e1
      refine h.zv (fun a z1 z2 => by rw [g_up_ne z2, g_up_ne z1]) (fun j hj => ?_) (fun j hj => ?_) (fun j hj => ?_)
      · rw [g_up_ne (by decide)]
        by_cases z : j = k
        · subst z; rw [u_eq]; exact (if_pos rfl).symm
        · rw [u_ne z, (y1.2.2.2 j hj).2.2]; exact (if_neg z).symm
      · by_cases z : j = k
        · subst z; rw [u_eq]; exact (if_pos rfl).symm
        · rw [u_ne z, g_up_ne (by decide), (v2 j hj).2.2]; exact (if_neg z).symm
      · by_cases z : j = k
        · subst z; exact ⟨q, S, if_pos rfl, f2, hq, f4, f5⟩
        · obtain ⟨W', S', p1, p2⟩ := (h.2.1.2.2.2.1 j hj).1
          exact ⟨W', S', (if_neg z).trans p1, p2⟩
    · rw [if_neg c2] at e1 e2 ⊢
      rw [if_neg c2]
      subst e1
      subst e2
      exact ⟨rfl, H, h⟩
  · rw [if_neg c] at e1 e2 ⊢
    rw [if_neg c]
    subst e1
    subst e2
    exact ⟨rfl, H, h⟩
