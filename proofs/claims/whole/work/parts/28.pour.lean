/-! pour, run, lay of the class's day -/
theorem xst.upr {σ s : gS} (h : xst σ s) {a : Nat} (j : Nat) (v : Int32) (ha : a = 24 ∨ a = 25 ∨ a = 28 ∨ a = 29 ∨ a = 30 ∨ a = 31 ∨ a = 32) : xst σ (g_up s a j v) :=
  ⟨fun b b1 b2 b3 b4 b5 b6 b7 b8 => by rw [g_up_ne (by omega)]; exact h.1 b b1 b2 b3 b4 b5 b6 b7 b8, by rw [g_up_ne (by omega)]; exact h.2.1, by rw [g_up_ne (by omega)]; exact h.2.2.1, by rw [g_up_ne (by omega)]; exact h.2.2.2⟩
theorem xst.up26 {σ s : gS} (h : xst σ s) {j : Nat} (v : Int32) (h3 : 3 ≠ j) (h4 : 4 ≠ j) (h5 : 5 ≠ j) : xst σ (g_up s 26 j v) :=
  ⟨fun b b1 b2 b3 b4 b5 b6 b7 b8 => by rw [g_up_ne b3]; exact h.1 b b1 b2 b3 b4 b5 b6 b7 b8, by rw [u_ne h3]; exact h.2.1, by rw [u_ne h4]; exact h.2.2.1, by rw [u_ne h5]; exact h.2.2.2⟩
theorem xm.same {σ s : gS} {c : mC} (h : xm σ c) (h1 : s 31 = σ 31) (h2 : s 32 = σ 32) : xm s c := fun hr p q a b1 b2 b3 b4 => by rw [h1, h2]; exact h hr p q a b1 b2 b3 b4
theorem xon.same {σ s : gS} {c : mC} (h : xon σ c) (h1 : s 28 = σ 28) : xon s c := fun p hp => by rw [h1]; exact h p hp
theorem k_D_pour {h : Nat} (hh : 12 ≤ h) (σ : gS) (c : mC) (t : Nat) (hx : xr σ c t) (hc : c_ok c) (hm : xm σ c) (ho : xon σ c) {hr : Nat} (h24 : hr < 24) (x : mD) (hd : xd σ c x) (hg : m_gd c hr x) : g_Met yX0_pour cX0_pour 6 none h kX [.ref 26, .int (nI hr)] σ (fun rv s => rv = none ∧ xst σ s ∧ xm s c ∧ xon s c ∧ xd s c (m_pf c hr 8 0 x)) := by
  refine w_X0_pour (by omega) ?_
  unfold P_X0_pour
  refine ⟨fun k v1 s => ∃ p x', v1 = nI p ∧ k + p = 8 ∧ xst σ s ∧ xm s c ∧ xon s c ∧ xd s c x' ∧ m_gd c hr x' ∧ m_pf c hr k p x' = m_pf c hr 8 0 x, ⟨8, 0, x, rfl, rfl, xst.refl σ, hm, ho, hd, hg, rfl⟩, fun k v1 s hI => ?_⟩
  obtain ⟨p, x', rfl, hk, hst, hm, ho, hd, hg, hR⟩ := hI
  have hxs := hx.same hst
  refine ⟨fun h1 => ?_, fun h1 => ?_⟩
  · have hp := (n_lt (b := 8) (by omega) (by omega)).mp h1
    obtain ⟨k, rfl⟩ : ∃ k', k = k' + 1 := ⟨k - 1, by omega⟩
    refine ⟨8 * hr + p, n_mul8 hr p, by omega, p, rfl, hp, ?_⟩
    have hsu : s 36 (8 * hr + p) = c_su c (8 * hr + p) := hxs.2.2.2.2.2.2.1 _ (by omega)
    obtain ⟨q, eq, hq⟩ := hc.2.1 (8 * hr + p) (by omega)
    rw [hsu, ho p hp]
    obtain ⟨d1, ⟨d2, d3, d4, d5, d6, d7⟩, d8⟩ := hd
    refine ⟨fun v23 s24 => v23 = (m_c1 c hr p x').2 ∧ xst σ s24 ∧ xm s24 c ∧ xon s24 c ∧ xd s24 c (m_c1 c hr p x').1, ⟨fun h2 => ⟨fun h3 => ?_, fun h3 => ?_⟩, fun h2 => ?_⟩, fun v23 s24 hJ => ?_⟩
    · cases hon : m_on (c_st c) (c_nv c) p with
      | none => rw [hon] at h3; exact absurd h3 (by decide)
      | some v =>
        have hv := m_on_lt hon
        have hn5 := hx.2.2.1.1
        refine ⟨v, rfl, by omega, ?_, (hst.up26 _ (by decide) (by decide) (by decide)).upr _ _ (by decide), hm.same (by rw [g_up_ne (by decide), g_up_ne (by decide)]) (by rw [g_up_ne (by decide), g_up_ne (by decide)]), ho.same (by rw [g_up_ne (by decide), g_up_ne (by decide)]), fun u hu => ?_, ⟨?_, ?_, ?_, ?_, ?_, ?_⟩, fun u hu => ?_⟩
        · simp only [m_c1, m_ca, hon, if_pos h2]
          rw [hxs.2.2.2.1 v hv, d1 v hv]
          rfl
        · simp only [m_c1, m_ca, hon, if_pos h2]
          by_cases e : u = v
          · subst e
            rw [u_eq, hxs.2.2.2.1 u hu, d1 u hu]
            exact (if_pos rfl).symm
          · rw [u_ne e, g_up_ne (by decide)]
            exact (d1 u hu).trans (if_neg e).symm
        · rw [g_up_ne (by decide), u_ne (by decide)]; exact d2
        · rw [g_up_ne (by decide), u_ne (by decide)]; exact d3
        · rw [g_up_ne (by decide), u_ne (by decide)]; exact d4
        · rw [g_up_ne (by decide), u_ne (by decide)]; exact d5
        · rw [g_up_ne (by decide), u_ne (by decide)]; exact d6
        · rw [g_up_ne (by decide), u_eq, d7]; rfl
        · rw [g_up_ne (by decide), g_up_ne (by decide)]; exact d8 u hu
    · cases hon : m_on (c_st c) (c_nv c) p with
      | some v =>
        rw [hon] at h3
        have hv := m_on_lt hon
        have hn5 := hx.2.2.1.1
        exact absurd ((n_in (lo := 0) (hi := 4) (by omega) (by omega) (by omega)).mpr (by omega)) h3
      | none =>
        refine ⟨?_, hst.up26 _ (by decide) (by decide) (by decide), hm.same (by rw [g_up_ne (by decide)]) (by rw [g_up_ne (by decide)]), ho.same (by rw [g_up_ne (by decide)]), fun u hu => ?_, ⟨?_, ?_, ?_, ?_, ?_, ?_⟩, fun u hu => ?_⟩
        · simp only [m_c1, m_ca, hon]
        · simp only [m_c1, m_ca, hon]; rw [g_up_ne (by decide)]; exact d1 u hu
        · rw [u_ne (by decide)]; exact d2
        · rw [u_ne (by decide)]; exact d3
        · rw [u_ne (by decide)]; exact d4
        · rw [u_ne (by decide)]; exact d5
        · rw [u_ne (by decide)]; exact d6
        · rw [u_eq, d7]; rfl
        · rw [g_up_ne (by decide)]; exact d8 u hu
    · have hca : m_ca (c_su c (8 * hr + p)) (c_sz c) (d_w x') (m_on (c_st c) (c_nv c) p) = (d_w x', c_su c (8 * hr + p)) := by
        cases m_on (c_st c) (c_nv c) p with
        | none => rfl
        | some v => simp only [m_ca, if_neg h2]
      refine ⟨?_, hst.up26 _ (by decide) (by decide) (by decide), hm.same (by rw [g_up_ne (by decide)]) (by rw [g_up_ne (by decide)]), ho.same (by rw [g_up_ne (by decide)]), fun u hu => ?_, ⟨?_, ?_, ?_, ?_, ?_, ?_⟩, fun u hu => ?_⟩
      · simp only [m_c1, hca]
      · simp only [m_c1, hca]; rw [g_up_ne (by decide)]; exact d1 u hu
      · rw [u_ne (by decide)]; exact d2
      · rw [u_ne (by decide)]; exact d3
      · rw [u_ne (by decide)]; exact d4
      · rw [u_ne (by decide)]; exact d5
      · rw [u_ne (by decide)]; exact d6
      · rw [u_eq, d7]; rfl
      · rw [g_up_ne (by decide)]; exact d8 u hu
    · obtain ⟨rfl, hst4, hm4, ho4, ⟨d1, ⟨d2, d3, d4, d5, d6, d7⟩, d8⟩⟩ := hJ
      have hg1 := m_p1_gd hc hg (p := p) (by omega)
      have hrest := (m_ca_ok hg hq p).2
      rw [← eq] at hrest
      obtain ⟨r, er, hrq⟩ := hrest
      obtain ⟨a, ea, ha⟩ := hg.2
      have er' : (m_c1 c hr p x').2 = nI r := er
      refine ⟨fun h2 => ?_, fun h2 => ?_⟩
      · rw [er'] at h2 ⊢
        have hst5 := ((hst4.upr (a := 30) p (nI r) (by decide)).up26 (j := 15) (s24 26 15 + nI r) (by decide) (by decide) (by decide)).up26 (j := 16) (if s24 26 16 = -1 then nI hr else s24 26 16) (by decide) (by decide) (by decide)
        refine g_call.i (k_harmOn (h := 10) (by omega) _ c t (hx.same hst5) (hm4.same (by rw [g_up_ne (by decide), g_up_ne (by decide), g_up_ne (by decide)]) (by rw [g_up_ne (by decide), g_up_ne (by decide), g_up_ne (by decide)])) h24 hp (q := r) (by omega) (a := a) (by omega) (by rw [u_ne (by decide), u_ne (by decide), g_up_ne (by decide)]; exact d6.trans ea)) (by omega) (fun rv s6 hq6 => ?_)
        obtain ⟨rfl, hm6, hf6⟩ := hq6
        have hst6 : xst _ s6 := ⟨fun b b1 b2 b3 b4 b5 b6 b7 b8 => hf6 b b1 b2 b7 b8, by rw [hf6 26 (by decide) (by decide) (by decide) (by decide)], by rw [hf6 26 (by decide) (by decide) (by decide) (by decide)], by rw [hf6 26 (by decide) (by decide) (by decide) (by decide)]⟩
        have f26 := hf6 26 (by decide) (by decide) (by decide) (by decide)
        have f28 := hf6 28 (by decide) (by decide) (by decide) (by decide)
        have f29 := hf6 29 (by decide) (by decide) (by decide) (by decide)
        have f30 := hf6 30 (by decide) (by decide) (by decide) (by decide)
        have em : m_s1 c hr p (m_c1 c hr p x') = (d_w (m_c1 c hr p x').1, d_hm (m_c1 c hr p x').1 + m_H c hr p (nI r) (nI a), d_wk (m_c1 c hr p x').1, d_ov (m_c1 c hr p x').1 + nI r, (if d_fi (m_c1 c hr p x').1 = -1 then nI hr else d_fi (m_c1 c hr p x').1), d_al (m_c1 c hr p x').1, m_put (d_sp (m_c1 c hr p x').1) p (nI r), d_fa (m_c1 c hr p x').1) := by
          unfold m_s1
          rw [er', if_pos h2]
          show _ = _
          rw [show d_al (m_c1 c hr p x').1 = nI a from ea]
        refine ⟨_, rfl, k, by omega, p + 1, m_s1 c hr p (m_c1 c hr p x'), nI_1 p, by omega, (hst5.trans hst6).up26 _ (by decide) (by decide) (by decide), hm6.same (by rw [g_up_ne (by decide)]) (by rw [g_up_ne (by decide)]), (ho4.same (by rw [g_up_ne (by decide), f28, g_up_ne (by decide), g_up_ne (by decide), g_up_ne (by decide)])), ?_, hg1, hR⟩
        rw [em]
        refine ⟨fun u hu => ?_, ⟨?_, ?_, ?_, ?_, ?_, ?_⟩, fun u hu => ?_⟩
        · rw [g_up_ne (by decide), f29, g_up_ne (by decide), g_up_ne (by decide), g_up_ne (by decide)]; exact d1 u hu
        · rw [u_eq, d2]
        · rw [u_ne (by decide), f26, u_ne (by decide), u_ne (by decide), g_up_ne (by decide)]; exact d3
        · rw [u_ne (by decide), f26, u_ne (by decide), u_eq, d4]
        · rw [u_ne (by decide), f26, u_eq, d5]
        · rw [u_ne (by decide), f26, u_ne (by decide), u_ne (by decide), g_up_ne (by decide)]; exact d6
        · rw [u_ne (by decide), f26, u_ne (by decide), u_ne (by decide), g_up_ne (by decide)]; exact d7
        · rw [g_up_ne (by decide), f30, g_up_ne (by decide), g_up_ne (by decide)]
          by_cases e : u = p
          · subst e; rw [u_eq]; exact (if_pos rfl).symm
          · rw [u_ne e]; exact (d8 u hu).trans (if_neg e).symm
      · rw [er'] at h2 ⊢
        have em : m_s1 c hr p (m_c1 c hr p x') = (d_w (m_c1 c hr p x').1, d_hm (m_c1 c hr p x').1, d_wk (m_c1 c hr p x').1, d_ov (m_c1 c hr p x').1, d_fi (m_c1 c hr p x').1, d_al (m_c1 c hr p x').1, m_put (d_sp (m_c1 c hr p x').1) p (nI r), d_fa (m_c1 c hr p x').1) := by
          unfold m_s1
          rw [er', if_neg h2]
        refine ⟨k, by omega, p + 1, m_s1 c hr p (m_c1 c hr p x'), nI_1 p, by omega, hst4.upr _ _ (by decide), hm4.same (by rw [g_up_ne (by decide)]) (by rw [g_up_ne (by decide)]), ho4.same (by rw [g_up_ne (by decide)]), ?_, hg1, hR⟩
        rw [em]
        refine ⟨fun u hu => ?_, ⟨?_, ?_, ?_, ?_, ?_, ?_⟩, fun u hu => ?_⟩
        · rw [g_up_ne (by decide)]; exact d1 u hu
        · rw [g_up_ne (by decide)]; exact d2
        · rw [g_up_ne (by decide)]; exact d3
        · rw [g_up_ne (by decide)]; exact d4
        · rw [g_up_ne (by decide)]; exact d5
        · rw [g_up_ne (by decide)]; exact d6
        · rw [g_up_ne (by decide)]; exact d7
        · by_cases e : u = p
          · subst e; rw [u_eq]; exact (if_pos rfl).symm
          · rw [u_ne e]; exact (d8 u hu).trans (if_neg e).symm
  · have : k = 0 := by
      rcases Nat.lt_or_ge p 8 with z | z
      · exact absurd ((n_lt (b := 8) (by omega) (by omega)).mpr z) h1
      · omega
    subst this
    rw [← hR]
    exact ⟨rfl, hst, hm, ho, hd⟩
