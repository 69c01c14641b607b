/-! run of the class's day -/
theorem m_bit01 (x : Int32) : x &&& 1 = 0 ∨ x &&& 1 = 1 := by
  have h := pk_and x (m := 1) 1 rfl
  have hlt : x.toBitVec.toNat % 2 ^ 1 < 2 := Nat.mod_lt _ (by decide)
  rw [h]
  rcases Nat.lt_or_ge (x.toBitVec.toNat % 2 ^ 1) 1 with z | z
  · left; rw [show x.toBitVec.toNat % 2 ^ 1 = 0 by omega]; rfl
  · right; rw [show x.toBitVec.toNat % 2 ^ 1 = 1 by omega]; rfl
theorem k_run {h : Nat} (hh : 14 ≤ h) (σ : gS) (c : mC) (t : Nat) (hx : xr σ c t) (hc : c_ok c) (hm : xm σ c) {n : Nat} (hn : n ≤ 24) (en : Int32) : g_Met yX0_run cX0_run 4 none h kX [.ref 26, .int (nI n), .int en] σ (fun rv s => rv = none ∧ xst σ s ∧ xm s c ∧ xon s c ∧ ∃ k, k ≤ n ∧ xd s c (m_go c k 0 (m_x0 c)) ∧ (k = n ∨ ¬ m_cost (m_go c k 0 (m_x0 c)) < en)) := by
  refine w_X0_run (by omega) ?_
  unfold P_X0_run
  have hst0 : xst σ (g_up (g_up (g_up (g_up (g_up (g_up σ 26 13 0) 26 14 0) 26 15 0) 26 16 (-1)) 26 17 0) 26 12 0) := ((((((xst.refl σ).up26 _ (by decide) (by decide) (by decide)).up26 _ (by decide) (by decide) (by decide)).up26 _ (by decide) (by decide) (by decide)).up26 _ (by decide) (by decide) (by decide)).up26 _ (by decide) (by decide) (by decide)).up26 _ (by decide) (by decide) (by decide)
  refine g_call.i (k_setOut (h := 6) (by omega) _ c t (hx.same hst0)) (by omega) (fun rv s1 hq => ?_)
  obtain ⟨rfl, ho, hw, hp, hf⟩ := hq
  have f26 := hf 26 (by decide) (by decide) (by decide)
  have hst1 : xst σ s1 := hst0.trans ⟨fun b b1 b2 b3 b4 b5 b6 b7 b8 => hf b b4 b5 b6, by rw [f26], by rw [f26], by rw [f26]⟩
  have hm1 : xm s1 c := hm.same (by rw [hf 31 (by decide) (by decide) (by decide)]; simp only [g_up_ne (show 31 ≠ 26 by decide)]) (by rw [hf 32 (by decide) (by decide) (by decide)]; simp only [g_up_ne (show 32 ≠ 26 by decide)])
  have hd1 : xd s1 c (m_x0 c) := ⟨hw, ⟨by rw [f26]; simp [g_up, m_x0], by rw [f26]; simp [g_up, m_x0], by rw [f26]; simp [g_up, m_x0], by rw [f26]; simp [g_up, m_x0], by rw [f26]; simp [g_up, m_x0], by rw [f26]; simp [g_up, m_x0]⟩, hp⟩
  refine ⟨rfl, fun k v3 s => ∃ hr, v3 = nI hr ∧ k + hr = n ∧ xst σ s ∧ xm s c ∧ xon s c ∧ xd s c (m_go c hr 0 (m_x0 c)), ⟨n, 0, rfl, rfl, hst1, hm1, ho, hd1⟩, fun k v3 s hI => ?_⟩
  obtain ⟨hr, rfl, hk, hst, hm, ho, hd⟩ := hI
  have hxs := hx.same hst
  have hg := m_go_gd hc hr (by omega)
  refine ⟨fun h1 => ⟨fun h2 => ?_, fun h2 => absurd ((n_lt (b := 24) (by omega) (by omega)).mpr (by have := (n_lt (by omega) (by omega)).mp h1; omega)) h2⟩, fun h1 => ?_⟩
  · have hrn := (n_lt (by omega) (by omega)).mp h1
    refine g_call.i (k_D_cost (h := 6) (by omega) s) (by omega) (fun rv s' hq => ?_)
    obtain ⟨rfl, rfl⟩ := hq
    refine ⟨_, rfl, ?_⟩
    obtain ⟨d1, ⟨d2, d3, d4, d5, d6, d7⟩, d8⟩ := hd
    rw [d2, d3]
    generalize hxx : m_go c hr 0 (m_x0 c) = x at d1 d2 d3 d4 d5 d6 d7 d8 hg ⊢
    refine ⟨fun h3 => ⟨fun s26 => xst σ s26 ∧ xm s26 c ∧ xon s26 c ∧ xd s26 c (m_wake c hr x), ⟨fun h4 => ?_, fun h4 => ?_⟩, fun s26 hJ => ?_⟩, fun h3 => ?_⟩
    · rw [hst.2.1, hx.2.2.2.2.2.2.2.1] at h4
      refine ⟨hst, hm, ho, ?_⟩
      rw [m_wake, if_pos h4]
      exact ⟨d1, ⟨d2, d3, d4, d5, d6, d7⟩, d8⟩
    · rw [hst.2.1, hx.2.2.2.2.2.2.2.1] at h4
      refine ⟨hr, rfl, by omega, g_call.i (k_X3_name (h := 6) (by omega) _ _ _ _ _ _ _) (by omega) (fun rv s2 hq2 => ?_)⟩
      obtain ⟨rfl, hn2, hf2⟩ := hq2
      have hx2 : x_tx s2 t (c_T c) := hxs.1.same (by rw [hf2 23 (by decide)]) (by rw [hf2 _ (by omega)]) (by rw [hf2 _ (by omega)])
      refine ⟨rfl, g_call.i (k_X3_tells (h := 8) (by omega) s2 (t := t) (pa := 2) 999 hx2.1 hx2.2.1 (by decide)) (by omega) (fun rv s3 hq3 => ?_)⟩
      obtain ⟨rfl, hf3⟩ := hq3
      have e : m_tell s2 t 2 999 (s2 24) = c_T c 2 999 (m_nm (c_ra c hr) (nI hr) 0 0 0 (d_al x)) := by
        rw [T_nm s2 t 2 999 hn2, hx2.2.2 2 (by decide), hxs.2.1 hr (by omega), d6]
      rw [e]
      refine ⟨_, rfl, ?_⟩
      have f3 : ∀ b, b ≠ 24 → b ≠ 25 → s3 b = s' b := fun b b1 b2 => (hf3 b b2).trans (hf2 b b1)
      have hst3 : xst σ s3 := hst.trans ⟨fun b b1 b2 b3 b4 b5 b6 b7 b8 => f3 b b1 b2, by rw [f3 26 (by decide) (by decide)], by rw [f3 26 (by decide) (by decide)], by rw [f3 26 (by decide) (by decide)]⟩
      have hst4 := hst3.up26 (j := 14) ((s2 26 14) + c_T c 2 999 (m_nm (c_ra c hr) (nI hr) 0 0 0 (d_al x))) (by decide) (by decide) (by decide)
      refine g_call.i (k_emptySome (h := 8) (by omega) _ c t (hx.same hst4) (d_w x) (fun v hv => by rw [g_up_ne (by decide), f3 29 (by decide) (by decide)]; exact d1 v hv)) (by omega) (fun rv s5 hq5 => ?_)
      obtain ⟨rfl, hw5, hf5⟩ := hq5
      have g26 := hf5 26 (by decide)
      have hst5 : xst σ s5 := hst4.trans ⟨fun b b1 b2 b3 b4 b5 b6 b7 b8 => hf5 b b5, by rw [g26], by rw [g26], by rw [g26]⟩
      refine ⟨rfl, hst5.up26 _ (by decide) (by decide) (by decide), hm.same (by rw [g_up_ne (by decide), hf5 31 (by decide), g_up_ne (by decide), f3 31 (by decide) (by decide)]) (by rw [g_up_ne (by decide), hf5 32 (by decide), g_up_ne (by decide), f3 32 (by decide) (by decide)]), ho.same (by rw [g_up_ne (by decide), hf5 28 (by decide), g_up_ne (by decide), f3 28 (by decide) (by decide)]), ?_⟩
      rw [m_wake, if_neg h4]
      have r26 : ∀ j, j ≠ 12 → j ≠ 14 → (g_up s5 26 12 0) 26 j = s' 26 j := fun j j1 j2 => by rw [u_ne j1, g26, u_ne j2, f3 26 (by decide) (by decide)]
      refine ⟨fun v hv => by rw [g_up_ne (by decide)]; exact hw5 v hv, ⟨(r26 13 (by decide) (by decide)).trans d2, ?_, (r26 15 (by decide) (by decide)).trans d4, (r26 16 (by decide) (by decide)).trans d5, by rw [u_eq], (r26 17 (by decide) (by decide)).trans d7⟩, fun p hp => by rw [g_up_ne (by decide), hf5 30 (by decide), g_up_ne (by decide), f3 30 (by decide) (by decide)]; exact d8 p hp⟩
      rw [u_ne (by decide), g26, u_eq, hf2 26 (by decide), d3]
    · obtain ⟨hst6, hm6, ho6, hd6⟩ := hJ
      refine g_call.i (k_D_pour (h := 12) (by omega) s26 c t (hx.same hst6) hc hm6 ho6 (hr := hr) (by omega) _ hd6 (m_wake_gd hg)) (by omega) (fun rv s7 hq7 => ?_)
      obtain ⟨rfl, hst7, hm7, ho7, ⟨e1, ⟨e2, e3, e4, e5, e6, e7⟩, e8⟩⟩ := hq7
      refine ⟨rfl, k - 1, by omega, hr + 1, nI_1 hr, by omega, (hst6.trans hst7).up26 _ (by decide) (by decide) (by decide), hm7.same (by rw [g_up_ne (by decide)]) (by rw [g_up_ne (by decide)]), ho7.same (by rw [g_up_ne (by decide)]), ?_⟩
      rw [m_go_snoc, Nat.zero_add, hxx]
      refine ⟨fun v hv => by rw [g_up_ne (by decide)]; exact e1 v hv, ⟨by rw [u_ne (by decide)]; exact e2, by rw [u_ne (by decide)]; exact e3, by rw [u_ne (by decide)]; exact e4, by rw [u_ne (by decide)]; exact e5, by rw [u_eq, e6]; rfl, by rw [u_ne (by decide)]; exact e7⟩, fun p hp => by rw [g_up_ne (by decide)]; exact e8 p hp⟩
    · refine ⟨rfl, hst, hm, ho, hr, by omega, ?_, Or.inr ?_⟩
      · rw [hxx]; exact ⟨d1, ⟨d2, d3, d4, d5, d6, d7⟩, d8⟩
      · rw [hxx]; exact h3
  · have : hr = n := by
      rcases Nat.lt_or_ge hr n with z | z
      · exact absurd ((n_lt (by omega) (by omega)).mpr z) h1
      · omega
    subst this
    exact ⟨rfl, hst, hm, ho, hr, by omega, hd, Or.inl rfl⟩
/-- without a limit -/
theorem k_runAll {h : Nat} (hh : 14 ≤ h) (σ : gS) (c : mC) (t : Nat) (hx : xr σ c t) (hc : c_ok c) (hm : xm σ c) {n : Nat} (hn : n ≤ 24) : g_Met yX0_run cX0_run 4 none h kX [.ref 26, .int (nI n), .int 2147483647] σ (fun rv s => rv = none ∧ xst σ s ∧ xm s c ∧ xon s c ∧ ∃ k, k ≤ n ∧ xd s c (m_go c k 0 (m_x0 c)) ∧ (k = n ∨ ¬ m_cost (m_go c k 0 (m_x0 c)) < 2147483647)) := k_run hh σ c t hx hc hm hn 2147483647
theorem m_k_all {c : mC} (hc : c_ok c) {k n : Nat} (hn : n ≤ 24) (hk : k ≤ n) (h : k = n ∨ ¬ m_cost (m_go c k 0 (m_x0 c)) < 2147483647) : k = n := by
  rcases h with h | h
  · exact h
  · obtain ⟨a, b, e1, e2, h1, h2⟩ := m_go_cost hc hk hn
    rw [e1] at h
    exact absurd (by rw [Int32.lt_iff_toInt_lt, nI_toInt (by omega)]; have : (2147483647 : Int32).toInt = 2147483647 := rfl; omega) h
theorem m_k_better {c : mC} (hc : c_ok c) {k : Nat} {en : Int32} (hk : k ≤ 24) (h : k = 24 ∨ ¬ m_cost (m_go c k 0 (m_x0 c)) < en) : (m_cost (m_go c k 0 (m_x0 c)) < en ↔ m_cost (m_go c 24 0 (m_x0 c)) < en) ∧ (m_cost (m_go c k 0 (m_x0 c)) < en → m_cost (m_go c k 0 (m_x0 c)) = m_cost (m_go c 24 0 (m_x0 c))) := by
  rcases h with h | h
  · subst h; exact ⟨Iff.rfl, fun _ => rfl⟩
  · obtain ⟨a, b, e1, e2, h1, h2⟩ := m_go_cost hc hk (Nat.le_refl 24)
    refine ⟨⟨fun z => absurd z h, fun z => ?_⟩, fun z => absurd z h⟩
    exfalso
    apply h
    rw [e1]
    rw [e2] at z
    rw [Int32.lt_iff_toInt_lt, nI_toInt (by omega)] at z ⊢
    omega
