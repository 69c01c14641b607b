/-! TEXTS, on both sides -/
def a_text (nT : Nat) (l : Nat → Int32) : Int32 := if nT ≤ 5 then (match p_fa (p_end l) with
  | none => nI nT
  | some f => -100 - nI f) else -4
def n_text (nT : Nat) (l : Nat → Int32) : Nat := if nT ≤ 5 ∧ p_fa (p_end l) = none then nT + 1 else nT
theorem k_X7_text {h : Nat} (hh : 49 ≤ h) (σ : gS) {b : gF} {n nT : Nat} (hT : σ 0 5 = nI nT) (hT6 : nT ≤ 6) (hn : n ≤ 160) (h1 : σ 19 1 = nI n) (hb : ∀ i, i < n → σ 20 i = b i) (hbb : ∀ k, k < n → g_in (b k) 0 255) : g_Met yX7_text cX7_text 2 (some .int) h kX [.ref 0] σ (fun rv s => rv = some (.int (a_text nT (q_l b n))) ∧ s 0 5 = nI (n_text nT (q_l b n)) ∧ (s 19 1 = if nT ≤ 5 then 0 else nI n) ∧ (∀ j, j ≠ 5 → s 0 j = σ 0 j) ∧ (∀ a, a ≠ 0 → a ≠ 19 → a ≠ 46 + 3 * nT → a ≠ 47 + 3 * nT → s a = σ a) ∧ (nT = 6 → s = σ) ∧ (n_text nT (q_l b n) = nT + 1 → m_tok s nT ∧ ∀ pa, pa < 3 → ∀ mo nm, m_tell s nT pa mo nm = t_of (q_l b n) pa mo nm)) := by
  refine w_X7_text (by omega) ?_
  unfold P_X7_text
  rw [hT]
  refine ⟨fun g5 => ?_, fun g5 => ?_⟩
  · have h5 := ((n_in (a := nT) (lo := 0) (hi := 5) (by omega) (by omega) (by omega)).mp g5).2
    refine ⟨nT, rfl, by omega, g_call.i (k_X2_read (h := 47) (by omega) σ (b := b) (n := n) (t := nT) (by omega) hn h1 hb hbb) (by omega) (fun rv s hq => ?_)⟩
    obtain ⟨hf, s1, hg, hbad⟩ := hq
    have e05 : s 0 5 = nI nT := by rw [hf 0 (by decide) (by omega) (by omega)]; exact hT
    unfold a_text n_text
    rw [if_pos h5]
    cases hE : p_fa (p_end (q_l b n)) with
    | none =>
      obtain ⟨rfl, k1, k2⟩ := hg hE
      refine ⟨_, rfl, fun _ => ?_, fun z => absurd rfl z⟩
      have e1 : nI nT + 1 = nI (nT + 1) := nI_1 nT
      have e2 : nI (nT + 1) - 1 = nI nT := pk_sub (a := nT + 1) (b := 1) (by omega)
      rw [e05, e1, e2, if_pos ⟨h5, rfl⟩]
      refine ⟨rfl, u_eq _ _ _ _, by rw [g_up_ne (by decide), if_pos h5]; exact s1, fun j hj => by rw [u_ne hj, hf 0 (by decide) (by omega) (by omega)], fun a x y z w => by rw [g_up_ne x]; exact hf a y z w, fun z => by omega, fun _ => ?_⟩
      obtain ⟨m1, m2⟩ := k1.same (s := g_up s 0 5 (nI (nT + 1))) (g_up_ne (by omega)) (g_up_ne (by omega))
      exact ⟨m1, fun pa hp mo nm => (m2 pa mo nm).trans (k2 pa hp mo nm)⟩
    | some f =>
      obtain ⟨rfl, hf200⟩ := hbad f hE
      have nz : ¬ nI f = -1 := nI_m1 (by omega)
      rw [if_neg (fun z => absurd z.2 (by intro y; cases y))]
      exact ⟨_, rfl, fun z => absurd z nz, fun _ => ⟨rfl, e05, by rw [if_pos h5]; exact s1, fun j hj => by rw [hf 0 (by decide) (by omega) (by omega)], fun a x y z w => hf a y z w, fun z => by omega, fun z => by omega⟩⟩
  · have h6 : nT = 6 := by
      rcases Nat.lt_or_ge nT 6 with z | z
      · exact absurd ((n_in (a := nT) (lo := 0) (hi := 5) (by omega) (by omega) (by omega)).mpr ⟨Nat.zero_le _, by omega⟩) g5
      · omega
    unfold a_text n_text
    rw [if_neg (by omega), if_neg (fun z => by omega), if_neg (by omega)]
    exact ⟨rfl, hT, h1, fun _ _ => rfl, fun _ _ _ _ _ => rfl, fun _ => rfl, fun z => by omega⟩
theorem k_M_text {h : Nat} (hh : 66 ≤ h) (σ : gS) {b : gF} {n nT : Nat} (hT : σ 63 3 = nI nT) (hT6 : nT ≤ 6) (hn : n ≤ 160) (h1 : σ 63 6 = nI n) (hb : ∀ i, i < n → σ 66 i = b i) (hbb : ∀ k, k < n → g_in (b k) 0 255) : g_Met yX8_text cX8_text 2 (some .int) h kM [.ref 63] σ (fun rv s => rv = some (.int (a_text nT (q_l b n))) ∧ s 63 3 = nI (n_text nT (q_l b n)) ∧ (s 63 6 = if nT ≤ 5 then 0 else nI n) ∧ (∀ j, j ≠ 3 → j ≠ 6 → (j < 20 ∨ 34 < j) → s 63 j = σ 63 j) ∧ (∀ a, a ≠ 63 → a ≠ 64 → a ≠ 65 → s a = σ a) ∧ (∀ j, j ≠ nT → s 65 j = σ 65 j) ∧ (∀ j, j < 160 * nT → s 64 j = σ 64 j) ∧ (n_text nT (q_l b n) = nT + 1 → mtx b n nT s)) := by
  refine w_X8_text (by omega) ?_
  unfold P_X8_text
  rw [hT]
  refine ⟨fun g6 => ?_, fun g6 => ?_⟩
  · have h6 := (n_eq (a := nT) (b := 6) (by omega) (by omega)).mp g6
    unfold a_text n_text
    rw [if_neg (by omega), if_neg (fun z => by omega), if_neg (by omega)]
    exact ⟨rfl, hT, h1, fun _ _ _ _ => rfl, fun _ _ _ _ => rfl, fun _ _ => rfl, fun _ _ => rfl, fun z => by omega⟩
  · have h5 : nT ≤ 5 := by
      rcases Nat.lt_or_ge nT 6 with z | z
      · omega
      · exact absurd ((n_eq (a := nT) (b := 6) (by omega) (by omega)).mpr (by omega)) g6
    refine ⟨fun k i s => ∃ v, i = nI v ∧ k + v = n ∧ (∀ a, a ≠ 64 → s a = σ a) ∧ (∀ j, j < 160 * nT → s 64 j = σ 64 j) ∧ ∀ w, w < v → s 64 (160 * nT + w) = b w, ⟨n, 0, rfl, rfl, fun _ _ => rfl, fun _ _ => rfl, fun w hw => absurd hw (Nat.not_lt_zero w)⟩, fun k i s hI => ?_⟩
    obtain ⟨v, rfl, hk, hf, h64, hw⟩ := hI
    rw [hf 63 (by decide), h1, hT]
    refine ⟨fun g => ?_, fun g => ?_⟩
    · have hv := (n_lt (by omega) (by omega)).mp g
      have e1 : 160 * nI nT + nI v = nI (160 * nT + v) := by
        have e : 160 * nI nT = nI (160 * nT) := pk_mul 160 nT
        rw [e, nI_add]
      refine ⟨v, rfl, by omega, 160 * nT + v, e1, by omega, k - 1, by omega, v + 1, nI_1 v, by omega, fun a ha => by rw [g_up_ne ha]; exact hf a ha, fun j hj => by rw [u_ne (by omega)]; exact h64 j hj, fun w hw1 => ?_⟩
      by_cases e : w = v
      · subst e; rw [u_eq, hf 66 (by decide)]; exact hb w hv
      · rw [u_ne (by omega)]; exact hw w (by omega)
    · have ev : v = n := by
        rcases Nat.lt_or_ge v n with z | z
        · exact absurd ((n_lt (by omega) (by omega)).mpr z) g
        · omega
      subst ev
      refine ⟨nT, rfl, by omega, ?_⟩
      generalize hs2 : g_up (g_up s 65 nT (nI v)) 63 6 0 = s2
      have b64 : s2 64 = s 64 := by rw [← hs2, g_up_ne (by decide), g_up_ne (by decide)]
      have b65 : s2 65 nT = nI v := by rw [← hs2, g_up_ne (by decide), u_eq]
      have b65' : ∀ j, j ≠ nT → s2 65 j = σ 65 j := fun j hj => by rw [← hs2, g_up_ne (by decide), u_ne hj, hf 65 (by decide)]
      have b63 : ∀ j, j ≠ 6 → s2 63 j = σ 63 j := fun j hj => by rw [← hs2, u_ne hj, g_up_ne (by decide), hf 63 (by decide)]
      have b636 : s2 63 6 = 0 := by rw [← hs2, u_eq]
      have bo : ∀ a, a ≠ 63 → a ≠ 64 → a ≠ 65 → s2 a = σ a := fun a x y z => by rw [← hs2, g_up_ne x, g_up_ne z, hf a y]
      have hm : mtx b v nT s2 := ⟨by omega, hn, b65, fun i hi => by rw [b64]; exact hw i hi, hbb⟩
      refine g_call.i (k_M_read (h := 64) (by omega) s2 hm (nm := fun j => s2 63 (20 + j)) ⟨rfl, rfl, rfl, rfl, rfl, rfl⟩ (te := nI nT) rfl (w := 0) (by decide)) (by omega) (fun rv s3 hq => ?_)
      obtain ⟨r, rfl, hmf, hgood, hbad⟩ := hq
      have c63 : ∀ j, j ≠ 6 → (j < 20 ∨ 34 < j) → s3 63 j = σ 63 j := fun j x y => (hmf.2 j y).trans (b63 j x)
      have c3 : s3 63 3 = nI nT := (c63 3 (by decide) (by omega)).trans hT
      have c6 : s3 63 6 = 0 := (hmf.2 6 (by omega)).trans b636
      have co : ∀ a, a ≠ 63 → a ≠ 64 → a ≠ 65 → s3 a = σ a := fun a x y z => (hmf.1 a x).trans (bo a x y z)
      have c65 : s3 65 = s2 65 := hmf.1 65 (by decide)
      have c64 : s3 64 = s2 64 := hmf.1 64 (by decide)
      unfold a_text n_text
      rw [if_pos h5, if_pos h5]
      cases hE : p_fa (p_end (q_l b v)) with
      | none =>
        obtain ⟨d33, -⟩ := hgood hE
        have e1 : nI nT + 1 = nI (nT + 1) := nI_1 nT
        have e2 : nI (nT + 1) - 1 = nI nT := pk_sub (a := nT + 1) (b := 1) (by omega)
        rw [c3, e1, e2, if_pos ⟨h5, rfl⟩]
        refine ⟨_, rfl, fun _ => ⟨rfl, u_eq _ _ _ _, by rw [u_ne (by decide)]; exact c6, fun j x y z => by rw [u_ne x]; exact c63 j y z, fun a x y z => by rw [g_up_ne x]; exact co a x y z, fun j hj => by rw [g_up_ne (by decide), c65]; exact b65' j hj, fun j hj => by rw [g_up_ne (by decide), c64, b64]; exact h64 j hj, fun _ => ⟨by omega, hn, by rw [g_up_ne (by decide), c65]; exact b65, fun i hi => by rw [g_up_ne (by decide), c64, b64]; exact hw i hi, hbb⟩⟩, fun z => absurd d33 z⟩
      | some f =>
        obtain ⟨d33, d34⟩ := hbad f hE
        rw [if_neg (fun z => absurd z.2 (by intro y; cases y)), d34]
        refine ⟨_, rfl, fun z => absurd (d33.symm.trans z) (by decide), fun _ => ⟨rfl, c3, c6, fun j x y z => c63 j y z, co, fun j hj => by rw [c65]; exact b65' j hj, fun j hj => by rw [c64, b64]; exact h64 j hj, fun z => by omega⟩⟩
