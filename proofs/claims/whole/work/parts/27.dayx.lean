/-! THE CLASS'S DAY -/
theorem m_en_m1 {o : Option Nat} {n : Nat} (h : ∀ v, o = some v → v < n) (hn : n ≤ 1000000) : m_en o = -1 ↔ o = none := by
  cases o with
  | none => exact ⟨fun _ => rfl, fun _ => rfl⟩
  | some v =>
    have := h v rfl
    exact ⟨fun z => absurd z (nI_m1 (by omega)), fun z => by cases z⟩
theorem k_D_cost {h : Nat} (hh : 6 ≤ h) (σ : gS) : g_Met yX0_cost cX0_cost 1 (some .int) h kX [.ref 26] σ (fun rv s => rv = some (.int (σ 26 13 + σ 26 14)) ∧ s = σ) := by
  refine w_X0_cost hh ?_
  exact ⟨rfl, rfl⟩
theorem k_setOut {h : Nat} (hh : 6 ≤ h) (σ : gS) (c : mC) (t : Nat) (hx : xr σ c t) : g_Met yX0_setOut cX0_setOut 2 none h kX [.ref 26] σ (fun rv s => rv = none ∧ xon s c ∧ (∀ v, v < c_nv c → s 29 v = c_w0 c v) ∧ (∀ p, p < 8 → s 30 p = 0) ∧ ∀ a, a ≠ 28 → a ≠ 29 → a ≠ 30 → s a = σ a) := by
  obtain ⟨-, -, ⟨hn5, hnv⟩, -, hst, hw, -, -⟩ := hx
  refine w_X0_setOut hh ?_
  unfold P_X0_setOut
  refine ⟨fun k i s => ∃ p, i = nI p ∧ k + p = 8 ∧ (∀ q, q < p → s 28 q = -1 ∧ s 30 q = 0) ∧ ∀ a, a ≠ 28 → a ≠ 30 → s a = σ a, ⟨8, 0, rfl, rfl, fun q hq => absurd hq (Nat.not_lt_zero q), fun a _ _ => rfl⟩, fun k i s hI => ?_⟩
  obtain ⟨p, rfl, hk, hz, hf⟩ := hI
  refine ⟨fun h1 => ?_, fun h1 => ?_⟩
  · have hp := (n_lt (b := 8) (by omega) (by omega)).mp h1
    refine ⟨p, rfl, hp, k - 1, by omega, p + 1, nI_1 p, by omega, fun q hq => ?_, fun a h2 h3 => by rw [g_up_ne h3, g_up_ne h2]; exact hf a h2 h3⟩
    by_cases e : q = p
    · subst e
      exact ⟨by rw [g_up_ne (by decide), u_eq], by rw [u_eq]⟩
    · exact ⟨by rw [g_up_ne (by decide), u_ne e]; exact (hz q (by omega)).1, by rw [u_ne e, g_up_ne (by decide)]; exact (hz q (by omega)).2⟩
  · have hp8 : p = 8 := by
      rcases Nat.lt_or_ge p 8 with z | z
      · exact absurd ((n_lt (b := 8) (by omega) (by omega)).mpr z) h1
      · omega
    subst hp8
    refine ⟨fun k i s => ∃ v, i = nI v ∧ k + v = 5 ∧ (∀ p, p < 8 → s 28 p = m_en (m_on (c_st c) (min v (c_nv c)) p)) ∧ (∀ u, u < v → s 29 u = σ 9 u) ∧ (∀ p, p < 8 → s 30 p = 0) ∧ ∀ a, a ≠ 28 → a ≠ 29 → a ≠ 30 → s a = σ a, ⟨5, 0, rfl, rfl, fun p hp => by rw [(hz p hp).1, Nat.zero_min]; rfl, fun u hu => absurd hu (Nat.not_lt_zero u), fun p hp => (hz p hp).2, fun a h2 _ h3 => hf a h2 h3⟩, fun k i s hI => ?_⟩
    obtain ⟨v, rfl, hk, h28, h29, h30, hf⟩ := hI
    have f1 := hf 1 (by decide) (by decide) (by decide)
    have f27 := hf 27 (by decide) (by decide) (by decide)
    have f9 := hf 9 (by decide) (by decide) (by decide)
    refine ⟨fun h1 => ?_, fun h1 => ?_⟩
    · have hv := (n_lt (b := 5) (by omega) (by omega)).mp h1
      refine ⟨v, rfl, hv, ?_⟩
      rw [f1, hnv, f27, f9]
      have g29 : ∀ (s' : gS), s' 29 = (g_up s 29 v (σ 9 v)) 29 → ∀ u, u < v + 1 → s' 29 u = σ 9 u := by
        intro s' e u hu
        rw [e]
        by_cases eu : u = v
        · subst eu; rw [u_eq]
        · rw [u_ne eu]; exact h29 u (by omega)
      refine ⟨fun h2 => ?_, fun h2 => ?_⟩
      · have hvn := (n_lt (by omega) (by omega)).mp h2
        have m1 : min (v + 1) (c_nv c) = v + 1 := by omega
        have m0 : min v (c_nv c) = v := by omega
        rw [hst v hvn]
        refine ⟨fun h3 => ?_, fun h3 => ?_⟩
        · obtain ⟨p, hp, ep⟩ := n_of (M := 7) h3 (by decide)
          refine ⟨p, ep, by omega, k - 1, by omega, v + 1, nI_1 v, by omega, fun q hq => ?_, g29 _ (by rw [g_up_ne (by decide)]), fun q hq => by rw [g_up_ne (by decide), g_up_ne (by decide)]; exact h30 q hq, fun a h4 h5 h6 => by rw [g_up_ne h4, g_up_ne h5]; exact hf a h4 h5 h6⟩
          rw [m1, m_on, ep]
          by_cases e : q = p
          · subst e
            rw [u_eq, if_pos rfl]
            rfl
          · rw [u_ne e, g_up_ne (by decide), if_neg (fun z => e ((n_eq (by omega) (by omega)).mp z).symm), h28 q hq, m0]
        · refine ⟨k - 1, by omega, v + 1, nI_1 v, by omega, fun q hq => ?_, g29 _ rfl, fun q hq => by rw [g_up_ne (by decide)]; exact h30 q hq, fun a h4 h5 h6 => by rw [g_up_ne h5]; exact hf a h4 h5 h6⟩
          rw [m1, m_on, if_neg (fun z => h3 (by rw [z]; exact (n_in (lo := 0) (hi := 7) (by omega) (by omega) (by omega)).mpr (by omega))), g_up_ne (by decide), h28 q hq, m0]
      · have hvn : c_nv c ≤ v := by
          rcases Nat.lt_or_ge v (c_nv c) with z | z
          · exact absurd ((n_lt (by omega) (by omega)).mpr z) h2
          · exact z
        refine ⟨k - 1, by omega, v + 1, nI_1 v, by omega, fun q hq => ?_, g29 _ rfl, fun q hq => by rw [g_up_ne (by decide)]; exact h30 q hq, fun a h4 h5 h6 => by rw [g_up_ne h5]; exact hf a h4 h5 h6⟩
        rw [g_up_ne (by decide), h28 q hq, show min (v + 1) (c_nv c) = min v (c_nv c) by omega]
    · have : v = 5 := by
        rcases Nat.lt_or_ge v 5 with z | z
        · exact absurd ((n_lt (b := 5) (by omega) (by omega)).mpr z) h1
        · omega
      subst this
      refine ⟨rfl, fun p hp => ?_, fun v hv => by rw [h29 v (by omega)]; exact hw v hv, h30, hf⟩
      rw [h28 p hp, show min 5 (c_nv c) = c_nv c by omega]
theorem k_nextToEmpty {h : Nat} (hh : 6 ≤ h) (σ : gS) (c : mC) (t : Nat) (hx : xr σ c t) (w : gF) (hw : ∀ v, v < c_nv c → σ 29 v = w v) : g_Met yX0_nextToEmpty cX0_nextToEmpty 5 (some .int) h kX [.ref 26] σ (fun rv s => rv = some (.int (m_en (m_nx c w))) ∧ s = σ) := by
  obtain ⟨-, -, ⟨hn5, hnv⟩, hsz, hst, -, -, ⟨-, hso, -, -⟩⟩ := hx
  refine w_X0_nextToEmpty hh ?_
  unfold P_X0_nextToEmpty
  rw [hnv]
  refine ⟨fun k v1 v2 v3 => ∃ v nx, v3 = nI v ∧ v1 = m_en nx ∧ k + v = c_nv c ∧ (∀ u, nx = some u → u < v) ∧ m_ns c w k v nx v2 = m_nx c w, ⟨c_nv c, 0, none, rfl, rfl, rfl, (fun u z => by cases z), rfl⟩, fun k v1 v2 v3 hI => ?_⟩
  obtain ⟨v, nx, rfl, rfl, hk, hnx, hR⟩ := hI
  have hm1 := m_en_m1 hnx (by omega)
  refine ⟨fun h1 => ⟨fun h2 => ?_, fun h2 => absurd ((n_lt (b := 5) (by omega) (by omega)).mpr (by have := (n_lt (by omega) (by omega)).mp h1; omega)) h2⟩, fun h1 => ?_⟩
  · have hv := (n_lt (by omega) (by omega)).mp h1
    obtain ⟨k, rfl⟩ : ∃ k', k = k' + 1 := ⟨k - 1, by omega⟩
    refine ⟨v, rfl, by omega, ?_⟩
    rw [hst v hv, hw v hv, hsz v hv, hso]
    have efu : (if (c_so c : Int32) = 0 then w v else w v - c_sz c v) = m_fu c w v := rfl
    rw [efu]
    have no : ∀ (hn : ¬ (¬ c_st c v = -1 ∧ 0 < w v ∧ (nx = none ∨ v2 < m_fu c w v))), ∃ k26, k26 < k + 1 ∧ ∃ v', ∃ nx', nI v + 1 = nI v' ∧ m_en nx = m_en nx' ∧ k26 + v' = c_nv c ∧ (∀ u, nx' = some u → u < v') ∧ m_ns c w k26 v' nx' v2 = m_nx c w := by
      intro hn
      refine ⟨k, by omega, v + 1, nx, nI_1 v, rfl, by omega, fun u hu => by have := hnx u hu; omega, ?_⟩
      rw [← hR, m_ns, if_neg hn]
    have ye : ∀ (hn : ¬ c_st c v = -1 ∧ 0 < w v ∧ (nx = none ∨ v2 < m_fu c w v)), ∃ k26, k26 < k + 1 ∧ ∃ v', ∃ nx', nI v + 1 = nI v' ∧ nI v = m_en nx' ∧ k26 + v' = c_nv c ∧ (∀ u, nx' = some u → u < v') ∧ m_ns c w k26 v' nx' (m_fu c w v) = m_nx c w := by
      intro hn
      refine ⟨k, by omega, v + 1, some v, nI_1 v, rfl, by omega, fun u hu => by cases hu; omega, ?_⟩
      rw [← hR, m_ns, if_pos hn]
    exact ⟨fun h3 => no (fun z => z.1 h3), fun h3 => ⟨fun h4 => ⟨fun h5 => ye ⟨h3, h4, Or.inl (hm1.mp h5)⟩, fun h5 => ⟨fun h6 => ye ⟨h3, h4, Or.inr h6⟩, fun h6 => no (fun z => z.2.2.elim (fun y => h5 (hm1.mpr y)) h6)⟩⟩, fun h4 => no (fun z => h4 z.2.1)⟩⟩
  · have : k = 0 := by
      rcases Nat.lt_or_ge v (c_nv c) with z | z
      · exact absurd ((n_lt (by omega) (by omega)).mpr z) h1
      · omega
    subst this
    rw [← hR]
    exact ⟨rfl, rfl⟩
theorem m_nx_lt {c : mC} {w : gF} : ∀ {k v : Nat} {nx : Option Nat} {mo : Int32}, k + v = c_nv c → (∀ u, nx = some u → u < c_nv c) → ∀ u, m_ns c w k v nx mo = some u → u < c_nv c
  | 0, _, _, _, _, h, u, e => h u e
  | k + 1, v, nx, mo, hk, h, u, e => by
    rw [m_ns] at e
    split at e
    · exact m_nx_lt (by omega) (fun u z => by cases z; omega) u e
    · exact m_nx_lt (by omega) h u e
theorem k_emptySome {h : Nat} (hh : 8 ≤ h) (σ : gS) (c : mC) (t : Nat) (hx : xr σ c t) (w : gF) (hw : ∀ v, v < c_nv c → σ 29 v = w v) : g_Met yX0_emptySome cX0_emptySome 3 none h kX [.ref 26] σ (fun rv s => rv = none ∧ (∀ v, v < c_nv c → s 29 v = m_em c (c_hd c) w v) ∧ ∀ a, a ≠ 29 → s a = σ a) := by
  have hx0 := hx
  obtain ⟨-, -, ⟨hn5, hnv⟩, hsz, hst, -, -, ⟨-, hso, hhd, hhd5⟩⟩ := hx
  refine w_X0_emptySome (by omega) ?_
  unfold P_X0_emptySome
  refine ⟨fun k v1 s => ∃ n w', v1 = nI n ∧ k + n = c_hd c ∧ (∀ v, v < c_nv c → s 29 v = w' v) ∧ m_em c k w' = m_em c (c_hd c) w ∧ ∀ a, a ≠ 29 → s a = σ a, ⟨c_hd c, 0, w, rfl, rfl, hw, rfl, fun _ _ => rfl⟩, fun k v1 s hI => ?_⟩
  obtain ⟨n, w', rfl, hk, hw', hR, hf⟩ := hI
  rw [hf 26 (by decide), hhd]
  have hxs : xr s c t := hx0.same ⟨fun a b1 b2 b3 b4 b5 b6 b7 b8 => hf a b5, by rw [hf 26 (by decide)], by rw [hf 26 (by decide)], by rw [hf 26 (by decide)]⟩
  refine ⟨fun h1 => ⟨fun h2 => ?_, fun h2 => absurd ((n_lt (b := 5) (by omega) (by omega)).mpr (by have := (n_lt (by omega) (by omega)).mp h1; omega)) h2⟩, fun h1 => ?_⟩
  · have hn := (n_lt (by omega) (by omega)).mp h1
    obtain ⟨k, rfl⟩ : ∃ k', k = k' + 1 := ⟨k - 1, by omega⟩
    refine g_call.i (k_nextToEmpty (h := 6) (by omega) s c t hxs w' hw') (by omega) (fun rv s' hq => ?_)
    obtain ⟨rfl, rfl⟩ := hq
    refine ⟨_, rfl, ?_⟩
    rw [m_em] at hR
    cases ho : m_nx c w' with
    | none =>
      rw [ho] at hR
      refine ⟨fun h3 => absurd h3 (by decide), fun _ => ⟨rfl, fun v hv => by rw [← hR]; exact hw' v hv, hf⟩⟩
    | some u =>
      rw [ho] at hR
      have hu : u < c_nv c := m_nx_lt (by omega) (fun u z => by cases z) u ho
      refine ⟨fun h3 => ⟨u, rfl, by omega, k, by omega, n + 1, m_put w' u 0, nI_1 n, by omega, fun v hv => ?_, hR, fun a ha => by rw [g_up_ne ha]; exact hf a ha⟩, fun h3 => absurd ((n_in (lo := 0) (hi := 4) (by omega) (by omega) (by omega)).mpr (by omega)) h3⟩
      by_cases e : v = u
      · subst e; rw [u_eq, m_put, if_pos rfl]
      · rw [u_ne e, m_put, if_neg e]; exact hw' v hv
  · have : k = 0 := by
      rcases Nat.lt_or_ge n (c_hd c) with z | z
      · exact absurd ((n_lt (by omega) (by omega)).mpr z) h1
      · omega
    subst this
    exact ⟨rfl, fun v hv => by rw [← hR]; exact hw' v hv, hf⟩
theorem k_harmOn {h : Nat} (hh : 10 ≤ h) (σ : gS) (c : mC) (t : Nat) (hx : xr σ c t) (hm : xm σ c) {hr p q a : Nat} (h24 : hr < 24) (hp : p < 8) (hq : q ≤ 100000) (ha : a < 24) (hal : σ 26 12 = nI a) : g_Met yX0_harmOn cX0_harmOn 6 (some .int) h kX [.ref 26, .int (nI hr), .int (nI p), .int (nI q)] σ (fun rv s => rv = some (.int (m_H c hr p (nI q) (nI a))) ∧ xm s c ∧ ∀ a, a ≠ 24 → a ≠ 25 → a ≠ 31 → a ≠ 32 → s a = σ a) := by
  refine w_X0_harmOn (by omega) ?_
  unfold P_X0_harmOn
  have hidx : nI q * 24 + nI a = nI (24 * q + a) := by
    have e : nI q * 24 = nI (q * 24) := pk_mul q 24
    rw [e, nI_add, Nat.mul_comm]
  rw [hal, hidx]
  refine ⟨8 * hr + p, n_mul8 hr p, by omega, fun h1 => ⟨?_, hm, fun _ _ _ _ _ => rfl⟩, fun h1 => ⟨hr, rfl, h24, ?_⟩⟩
  · rw [hm hr p q a h24 hp hq ha h1]
  · have hr34 : σ 34 hr = c_ra c hr := hx.2.1 hr h24
    refine g_call.i (k_X3_name (h := 6) (by omega) _ _ _ _ _ _ _) (by omega) (fun rv s1 hq1 => ?_)
    obtain ⟨rfl, hn, hf⟩ := hq1
    have hx1 : x_tx s1 t (c_T c) := hx.1.same (by rw [hf 23 (by decide), g_up_ne (by decide)]) (by rw [hf _ (by omega), g_up_ne (by omega)]) (by rw [hf _ (by omega), g_up_ne (by omega)])
    refine ⟨rfl, g_call.i (k_X3_tells (h := 8) (by omega) s1 (t := t) (pa := 1) 999 hx1.1 hx1.2.1 (by decide)) (by omega) (fun rv s2 hq2 => ?_)⟩
    obtain ⟨rfl, hf2⟩ := hq2
    have e : m_tell s1 t 1 999 (s1 24) = m_H c hr p (nI q) (nI a) := by
      rw [T_nm s1 t 1 999 hn, hx1.2.2 1 (by decide), hr34]
      rfl
    rw [e]
    refine ⟨_, rfl, rfl, fun h' p' q' a' b1 b2 b3 b4 b5 => ?_, fun b b1 b2 b3 b4 => by rw [g_up_ne b4, hf2 b b2, hf b b1, g_up_ne b3]⟩
    rw [g_up_ne (by decide), hf2 31 (by decide), hf 31 (by decide)] at b5
    by_cases ei : 8 * h' + p' = 8 * hr + p
    · have eh : h' = hr := by omega
      have ep : p' = p := by omega
      subst eh ep
      rw [u_eq, nI_eq (by omega) (by omega)] at b5
      have eq1 : q' = q := by omega
      have ea1 : a' = a := by omega
      subst eq1 ea1
      rw [u_eq]
    · rw [u_ne ei] at b5
      rw [u_ne ei, hf2 32 (by decide), hf 32 (by decide), g_up_ne (by decide)]
      exact hm h' p' q' a' b1 b2 b3 b4 b5
