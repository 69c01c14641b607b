/-! THE REFERENCE'S CALLS OVER A DAY: drawn, chance, seen, strange -/
theorem m_z_suc (seed : Int32) (i : Nat) : m_z seed i * 1103515245 + 12345 = m_z seed (i + 1) := by rw [m_z]
theorem m_dr_suc (seed : Int32) (i : Nat) : (Int32.toUInt32 ((m_z seed i * 1103515245) + 12345) >>> (Int32.toUInt32 9 &&& Int32.toUInt32 31)).toInt32 - (Int32.toUInt32 ((m_z seed i * 1103515245) + 12345) >>> (Int32.toUInt32 9 &&& Int32.toUInt32 31)).toInt32 / 10 * 10 = m_dr seed i := by
  unfold m_dr m_u9
  rw [m_z]
def m_vr (H : mH) (ra : gF) : mV := (ra, v_tm (m_v0 H), -1, -1, h_st H, h_up H, h_so H, h_hd H)
theorem m_vr_ok {H : mH} (hH : h_ok H) (ra : gF) : v_ok H (m_vr H ra) := ⟨(m_v0_ok hH).1, (m_v0_ok hH).2.1, (m_v0_ok hH).2.2⟩
theorem m_vd_vr (H : mH) (seed : Int32) : m_vd H seed = m_vr H (m_dr seed) := by
  unfold m_vd m_vr
  rfl
theorem k_draws {h : Nat} (hh : 78 ≤ h) (σ : gS) {t : Nat} {T : mT} {H : mH} (hx : mok σ t T H) (seed : Int32) : g_Met yX8_draws cX8_draws 5 (some .int) h kM [.ref 63, .int seed] σ (fun rv s => rv = some (.int (a_drawn T H seed)) ∧ s 63 41 = d_ov (m_day T H (m_vd H seed) 24) ∧ mxf σ s) := by
  obtain ⟨hm, hH, hT⟩ := hx
  have hds := m_dr_suc seed
  have hzs := m_z_suc seed
  have hz0 : seed = m_z seed 0 := by rw [m_z]
  rw [a_drawn, m_vd_vr]
  generalize m_dr seed = ra at hds ⊢
  generalize hZ : m_z seed = Z at hds hzs hz0
  refine w_X8_draws (by omega) ?_
  unfold P_X8_draws
  refine ⟨fun k v s => ∃ i, v = nI i ∧ k + i = 24 ∧ (∀ q, q < i → s 82 q = σ 67 q) ∧ ∀ a, a ≠ 82 → s a = σ a, ⟨24, 0, rfl, rfl, fun q hq => absurd hq (Nat.not_lt_zero q), fun _ _ => rfl⟩, fun k v s hI => ?_⟩
  obtain ⟨i, rfl, hk, h82, hf⟩ := hI
  refine ⟨fun h1 => ?_, fun h1 => ?_⟩
  · have hi := (n_lt (b := 24) (by omega) (by omega)).mp h1
    refine ⟨i, rfl, hi, k - 1, by omega, i + 1, nI_1 i, by omega, fun q hq => ?_, fun a ha => by rw [g_up_ne ha]; exact hf a ha⟩
    by_cases e : q = i
    · subst e; rw [u_eq, hf 67 (by decide)]
    · rw [u_ne e]; exact h82 q (by omega)
  have hi24 : i = 24 := by
    rcases Nat.lt_or_ge i 24 with z | z
    · exact absurd ((n_lt (b := 24) (by omega) (by omega)).mpr z) h1
    · omega
  subst hi24
  refine ⟨fun k z v u => ∃ i, v = nI i ∧ z = Z i ∧ k + i = 24 ∧ (∀ q, q < i → u 67 q = ra q) ∧ (∀ q, 24 ≤ q → u 67 q = σ 67 q) ∧ ∀ a, a ≠ 67 → u a = s a, ⟨24, 0, rfl, hz0, rfl, fun q hq => absurd hq (Nat.not_lt_zero q), fun q _ => by rw [hf 67 (by decide)], fun _ _ => rfl⟩, fun k z v u hI2 => ?_⟩
  obtain ⟨i, rfl, rfl, hk2, h67, h67b, hfu⟩ := hI2
  refine ⟨fun h2 => ?_, fun h2 => ?_⟩
  · have hi := (n_lt (b := 24) (by omega) (by omega)).mp h2
    refine ⟨i, rfl, hi, k - 1, by omega, i + 1, nI_1 i, hzs i, by omega, fun q hq => ?_, fun q hq => by rw [u_ne (by omega)]; exact h67b q hq, fun a ha => by rw [g_up_ne ha]; exact hfu a ha⟩
    by_cases e : q = i
    · subst e; rw [u_eq]; exact hds q
    · rw [u_ne e]; exact h67 q (by omega)
  have hi24 : i = 24 := by
    rcases Nat.lt_or_ge i 24 with z | z
    · exact absurd ((n_lt (b := 24) (by omega) (by omega)).mpr z) h2
    · omega
  subst hi24
  have F : ∀ a, a ≠ 67 → a ≠ 82 → u a = σ a := fun a b c => (hfu a b).trans (hf a c)
  obtain ⟨m1, m2, m3, m4, m5, m6⟩ := hm
  have e63 := F 63 (by decide) (by decide)
  have hmu : mv u t T H (m_vr H ra) := ⟨m1.zfr (by rw [e63]) (F 64 (by decide) (by decide)) (F 65 (by decide) (by decide)), ⟨by rw [e63]; exact m2.1, fun a b => h67 a b, fun a b => by rw [F 68 (by decide) (by decide), F 69 (by decide) (by decide), F 70 (by decide) (by decide), F 71 (by decide) (by decide)]; exact m2.2.2 a b⟩, by rw [e63]; exact m3, fun a b => by rw [F 72 (by decide) (by decide), F 73 (by decide) (by decide), F 74 (by decide) (by decide)]; exact m4 a b, by rw [e63]; exact m5, by rw [e63]; exact m6⟩
  have vok := m_vr_ok hH ra
  have vdj : v_dj H (m_vr H ra) := fun a b c d e f => v0_dj hH a b c d e f
  have e2 : v_tm (m_vr H ra) = v_tm (m_v0 H) := by
    unfold m_vr
    rfl
  have kc := k_costNowX (h := 76) (by omega) u hmu hT hH vok vdj e2 rfl rfl
  refine g_call.i kc (by omega) (fun rv w hq => ?_)
  obtain ⟨rfl, hfw, -, ⟨-, d1, d2, d3, d4⟩, -, k82⟩ := hq
  -- rainWas isn't touched by a day: it is taken along
  refine ⟨_, rfl, ?_⟩
  have h82w : ∀ q, q < 24 → w 82 q = σ 67 q := fun q hq => by
    rw [k82, hfu 82 (by decide)]
    exact h82 q hq
  refine ⟨fun k v y => ∃ i, v = nI i ∧ k + i = 24 ∧ (∀ q, (q < i ∨ 24 ≤ q) → y 67 q = σ 67 q) ∧ ∀ a, a ≠ 67 → y a = w a, ⟨24, 0, rfl, rfl, fun q hq => by rw [hfw.1 67 (by decide) (by omega)]; exact h67b q (by omega), fun _ _ => rfl⟩, fun k v y hI3 => ?_⟩
  obtain ⟨i, rfl, hk3, hy67, hfy⟩ := hI3
  refine ⟨fun h3 => ?_, fun h3 => ?_⟩
  · have hi := (n_lt (b := 24) (by omega) (by omega)).mp h3
    refine ⟨i, rfl, hi, k - 1, by omega, i + 1, nI_1 i, by omega, fun q hq => ?_, fun a ha => by rw [g_up_ne ha]; exact hfy a ha⟩
    by_cases e : q = i
    · subst e; rw [u_eq, hfy 82 (by decide)]; exact h82w q hi
    · rw [u_ne e]; exact hy67 q (by omega)
  · have hi24 : i = 24 := by
      rcases Nat.lt_or_ge i 24 with z | z
      · exact absurd ((n_lt (b := 24) (by omega) (by omega)).mpr z) h3
      · omega
    subst hi24
    refine ⟨rfl, by rw [hfy 63 (by decide)]; exact d3, fun a b c => ?_, fun j hj => by rw [hfy 63 (by decide), hfw.2 j hj, e63]⟩
    by_cases z : a = 67
    · subst z
      funext q
      exact hy67 q (by omega)
    · rw [hfy a z, hfw.1 a b c, F a z (by omega)]
theorem k_M_drawn {h : Nat} (hh : 80 ≤ h) (σ : gS) {t : Nat} {T : mT} {H : mH} (hx : mok σ t T H) (seed : Int32) : g_Met yX8_drawn cX8_drawn 2 (some .int) h kM [.ref 63, .int seed] σ (fun rv s => rv = some (.int (a_drawn T H seed)) ∧ mxf σ s) := by
  refine w_X8_drawn (by omega) ?_
  unfold P_X8_drawn
  refine g_call.i (k_draws (h := 78) (by omega) σ hx seed) (by omega) (fun rv s hq => ?_)
  obtain ⟨rfl, -, hf⟩ := hq
  exact ⟨_, rfl, rfl, hf⟩
theorem mok.zx {σ s : gS} {t : Nat} {T : mT} {H : mH} (h : mok σ t T H) (e : mxf σ s) : mok s t T H := ⟨h.1.zx e, h.2⟩
theorem k_M_chance {h : Nat} (hh : 80 ≤ h) (σ : gS) {t : Nat} {T : mT} {H : mH} (hx : mok σ t T H) (seed n pa : Int32) : g_Met yX8_chance cX8_chance 12 (some .long) h kM [.ref 63, .int seed, .int n, .int pa] σ (fun rv s => rv = some (.long (a_chance T H seed n pa)) ∧ mxf σ s) := by
  refine w_X8_chance (by omega) ?_
  unfold P_X8_chance
  refine ⟨fun h1 => ⟨fun h2 => ?_, fun h2 => ⟨by rw [a_chance, if_neg (fun z => h2 z.2)], mxf.zrefl σ⟩⟩, fun h1 => ⟨by rw [a_chance, if_neg (fun z => h1 z.1)], mxf.zrefl σ⟩⟩
  rw [a_chance, if_pos ⟨h1, h2⟩]
  obtain ⟨n, hn1, hn20, rfl⟩ := n_of1 (M := 20) h1 (by decide)
  rw [ix_nI (by omega)]
  refine ⟨fun k v6 v7 s => ∃ i, v7 = nI i ∧ k + i = n ∧ v6 = lN (m_dry T H seed i) ∧ mxf σ s, ⟨n, 0, rfl, rfl, rfl, mxf.zrefl σ⟩, fun k v6 v7 s hI => ?_⟩
  obtain ⟨i, rfl, hk, rfl, hf⟩ := hI
  refine ⟨fun h3 => ?_, fun h3 => ?_⟩
  · have hi := (n_lt (by omega) (by omega)).mp h3
    refine g_call.i (k_draws (h := 78) (by omega) s (hx.zx hf) (seed + nI i)) (by omega) (fun rv s1 hq => ?_)
    obtain ⟨rfl, e41, hf1⟩ := hq
    rw [e41]
    refine ⟨_, rfl, fun g => ⟨k - 1, by omega, i + 1, nI_1 i, by omega, ?_, hf.ztrans hf1⟩, fun g => ⟨k - 1, by omega, i + 1, nI_1 i, by omega, ?_, hf.ztrans hf1⟩⟩
    · rw [m_dry, if_pos g]; exact lN_1 _
    · rw [m_dry, if_neg g]; exact lN_add _ 0
  · have : i = n := by
      rcases Nat.lt_or_ge i n with z | z
      · exact absurd ((n_lt (by omega) (by omega)).mpr z) h3
      · omega
    subst this
    have hle := m_dry_le T H seed i
    generalize m_dry T H seed i = dry at hle ⊢
    have hg0 : 0 < Nat.gcd dry i := Nat.gcd_pos_of_pos_right _ (by omega)
    rw [nI_l (n := i) (by omega)]
    refine ⟨fun k v20 v21 => ∃ p q, v20 = lN p ∧ v21 = lN q ∧ k = q ∧ p ≤ 1000 ∧ q ≤ 1000 ∧ Nat.gcd p q = Nat.gcd dry i, ⟨i, dry, i, rfl, rfl, rfl, by omega, by omega, rfl⟩, fun k v20 v21 hI2 => ?_⟩
    obtain ⟨p, q, rfl, rfl, rfl, hp, hq, hgcd⟩ := hI2
    refine ⟨fun g => ?_, fun g => ?_⟩
    · have hq0 : k = 0 := (pk_lEQ (a := k) (b := 0) (by omega) (by omega)).mp g
      subst hq0
      have ep : p = Nat.gcd dry i := by rw [← hgcd, Nat.gcd_zero_right]
      subst ep
      have hne : ¬ lN (Nat.gcd dry i) = 0 := fun z => by
        have := (pk_lEQ (a := Nat.gcd dry i) (b := 0) (by omega) (by omega)).mp z
        omega
      refine ⟨fun g2 => ⟨hne, ?_, hf⟩, fun g2 => ⟨hne, ?_, hf⟩⟩
      · rw [if_pos g2, pk_lDiv (by omega) hg0 (by omega), nI_l (by have := Nat.div_le_self dry (Nat.gcd dry i); omega)]
      · rw [if_neg g2, pk_lDiv (by omega) hg0 (by omega), nI_l (by have := Nat.div_le_self i (Nat.gcd dry i); omega)]
    · have hq0 : 0 < k := by
        rcases Nat.eq_zero_or_pos k with z | z
        · exact absurd (by rw [z]; rfl) g
        · exact z
      refine ⟨g, p % k, Nat.mod_lt _ hq0, k, p % k, rfl, pk_lRem (by omega) hq0 (by omega), rfl, hq, by have := Nat.mod_le p k; omega, ?_⟩
      rw [← hgcd, Nat.gcd_comm p k, Nat.gcd_rec k p, Nat.gcd_comm]
/-! what was seen -/
/-- the reference's sheets -/
def msh (s : gS) (so sz : gF) (it : Nat → gF) : Prop := ∀ j, j < 4 → (s 86 j = 0 ∧ so j = -1) ∨ (s 86 j = 1 ∧ ¬ so j = -1 ∧ s 87 j = so j ∧ s 88 j = sz j ∧ ∃ z, sz j = nI z ∧ z ≤ 40 ∧ ∀ i, i < z → s 89 (40 * j + i) = it j i)
theorem msh.zx {σ s : gS} {so sz : gF} {it : Nat → gF} (h : msh σ so sz it) (e : mxf σ s) : msh s so sz it := fun j hj => by
  rw [e.1 86 (by decide) (by omega), e.1 87 (by decide) (by omega), e.1 88 (by decide) (by omega), e.1 89 (by decide) (by omega)]
  exact h j hj
theorem k_seenBad {h : Nat} (hh : 6 ≤ h) (σ : gS) {nv : Nat} {so sz : gF} {it : Nat → gF} (hnv : σ 63 19 = nI nv) (hs : msh σ so sz it) (sh hr : Int32) : g_Met yX8_seenBad cX8_seenBad 3 (some .int) h kM [.ref 63, .int sh, .int hr] σ (fun rv s => rv = some (.int (m_ref so sz nv sh hr)) ∧ s = σ) := by
  refine w_X8_seenBad hh ?_
  unfold P_X8_seenBad
  refine ⟨fun h1 => ⟨fun h2 => ?_, fun h2 => ⟨by rw [m_ref, if_neg (fun z => h2 z.2)], rfl⟩⟩, fun h1 => ⟨by rw [m_ref, if_neg (fun z => h1 z.1)], rfl⟩⟩
  rw [m_ref, if_pos ⟨h1, h2⟩]
  obtain ⟨j, hj, rfl⟩ := n_of (M := 3) h1 (by decide)
  rw [ix_nI (by omega)]
  refine ⟨j, rfl, by omega, fun g => ?_, fun g => ?_⟩
  · rcases hs j (by omega) with ⟨-, z⟩ | ⟨z, -⟩
    · exact ⟨by rw [if_pos z], rfl⟩
    · rw [z] at g; exact absurd g (by decide)
  · rcases hs j (by omega) with ⟨z, -⟩ | ⟨-, z, -, e, -⟩
    · exact absurd z g
    · exact ⟨by rw [if_neg z, e, hnv], rfl⟩
theorem k_isSo {h : Nat} (hh : 76 ≤ h) (σ : gS) {t : Nat} {T : mT} {H : mH} (hx : mok σ t T H) {sh hr : Nat} (h4 : sh < 4) (h24 : hr < 24) {it : gF} (hit : ∀ i, i < h_nv H → σ 89 (40 * sh + i) = it i) (set : Int32) : g_Met yX8_isSo cX8_isSo 5 (some .boolean) h kM [.ref 63, .int (nI sh), .int (nI hr), .int set] σ (fun rv s => rv = some (.int (if m_sn T H it hr (m_kp H set) = true then 1 else 0)) ∧ mxf σ s) := by
  obtain ⟨hm, hH, hT⟩ := hx
  have hV := m_kp_ok hH set
  refine w_X8_isSo (by omega) ?_
  unfold P_X8_isSo
  refine g_call.i (k_pours (h := 72) (by omega) σ hm hH set (V2 := m_vt2 H (m_kp H set)) rfl rfl rfl rfl) (by omega) (fun rv s1 hq => ?_)
  obtain ⟨rfl, q1, q2⟩ := hq
  have hm1 : mv s1 t T H (m_vt2 H (m_kp H set)) := hm.zx q2.zx
  refine ⟨rfl, g_call.i (k_goes (h := 70) (by omega) s1 (hm1.zmc q1 hH hV) (c_of_ok hT hH hV) (v0_dj hH) (Or.inl hm1.2.2.2.2.2) (n := hr + 1) (by omega) (nI_1 hr)) (by omega) (fun rv s2 hq => ?_)⟩
  obtain ⟨rfl, g1, -, g3, -⟩ := hq
  have hf := q2.zx.ztrans g1.zx
  have hnv := hH.1.2.1
  refine ⟨rfl, fun k v => ∃ i, v = nI i ∧ k + i = h_nv H ∧ m_eqs (d_w (m_day T H (m_vt2 H (m_kp H set)) (hr + 1))) it k i = m_sn T H it hr (m_kp H set), ⟨h_nv H, 0, rfl, by omega, rfl⟩, fun k v hI => ?_⟩
  obtain ⟨i, rfl, hk, hR⟩ := hI
  rw [(hm.zx hf).2.2.1]
  refine ⟨fun h1 => ?_, fun h1 => ?_⟩
  · have hi := (n_lt (by omega) (by omega)).mp h1
    obtain ⟨k, rfl⟩ : ∃ k', k = k' + 1 := ⟨k - 1, by omega⟩
    have e40 : 40 * nI sh + nI i = nI (40 * sh + i) := by
      have e : 40 * nI sh = nI (40 * sh) := pk_mul 40 sh
      rw [e, nI_add]
    rw [m_eqs] at hR
    refine ⟨i, rfl, by omega, 40 * sh + i, e40, by omega, ?_⟩
    have e76 : s2 76 i = d_w (m_day T H (m_vt2 H (m_kp H set)) (hr + 1)) i := g3.1 i hi
    rw [e76, hf.1 89 (by decide) (by omega), hit i hi]
    refine ⟨fun g => ⟨k, by omega, i + 1, nI_1 i, by omega, ?_⟩, fun g => ⟨?_, hf⟩⟩
    · rw [← hR, decide_eq_true (show _ = _ from g), Bool.true_and]
    · rw [← hR, decide_eq_false (show ¬ _ = _ from g), Bool.false_and]
      rfl
  · have : k = 0 := by
      rcases Nat.lt_or_ge i (h_nv H) with z | z
      · exact absurd ((n_lt (by omega) (by omega)).mpr z) h1
      · omega
    subst this
    rw [← hR]
    exact ⟨rfl, hf⟩
theorem m_ref_it {σ : gS} {H : mH} {so sz : gF} {it : Nat → gF} (hs : msh σ so sz it) (hnv : h_nv H ≤ 5) {sh : Nat} (h4 : sh < 4) {hr : Int32} (h : m_ref so sz (h_nv H) (nI sh) hr = 0) : ∀ i, i < h_nv H → σ 89 (40 * sh + i) = it sh i := by
  have h1 := h
  unfold m_ref at h
  rw [if_pos (m_ref0 h1), ix_nI (by omega)] at h
  rcases hs sh h4 with ⟨-, z⟩ | ⟨-, z, -, -, q, eq, hq, hi⟩
  · rw [if_pos z] at h; exact absurd h (by decide)
  · rw [if_neg z, eq] at h
    by_cases e : nI q = nI (h_nv H)
    · have : q = h_nv H := (n_eq (by omega) (by omega)).mp e
      subst this
      exact hi
    · rw [if_neg e] at h; exact absurd h (by decide)
theorem k_M_seen {h : Nat} (hh : 78 ≤ h) (σ : gS) {t : Nat} {T : mT} {H : mH} (hx : mok σ t T H) {so sz : gF} {it : Nat → gF} (hs : msh σ so sz it) (sh hr wh : Int32) : g_Met yX8_seen cX8_seen 8 (some .int) h kM [.ref 63, .int sh, .int hr, .int wh] σ (fun rv s => rv = some (.int (a_seen T H so sz it sh hr wh)) ∧ mxf σ s) := by
  have hnv := hx.2.1.1.2.1
  have hnd := hx.2.1.1.1
  refine w_X8_seen (by omega) ?_
  unfold P_X8_seen
  have neg2 : ¬ (g_in sh 0 3 ∧ g_in hr 0 23) → a_seen T H so sz it sh hr wh = -2 := fun z => by
    have e : m_ref so sz (h_nv H) sh hr = -2 := by rw [m_ref, if_neg z]
    rw [a_seen, e]
    split
    · rfl
    · rfl
  refine ⟨fun h1 => ⟨fun h2 => ⟨fun h3 => ?_, fun h3 => ⟨by rw [a_seen, if_neg h3], mxf.zrefl σ⟩⟩, fun h2 => ⟨by rw [neg2 (fun z => h2 z.2)], mxf.zrefl σ⟩⟩, fun h1 => ⟨by rw [neg2 (fun z => h1 z.1)], mxf.zrefl σ⟩⟩
  refine g_call.i (k_seenBad (h := 6) (by omega) σ hx.1.2.2.1 hs sh hr) (by omega) (fun rv s hq => ?_)
  obtain ⟨rfl, rfl⟩ := hq
  rw [a_seen, if_pos h3]
  refine ⟨_, rfl, fun g => ?_, fun g => ⟨by rw [if_neg g], mxf.zrefl s⟩⟩
  rw [if_pos g]
  obtain ⟨sh, hsh, rfl⟩ := n_of (M := 3) h1 (by decide)
  obtain ⟨hr, hhr, rfl⟩ := n_of (M := 23) h2 (by decide)
  have hit := m_ref_it hs hnv (show sh < 4 by omega) g
  rw [ix_nI (by omega), ix_nI (by omega)]
  have hpw := n_pow6_le hnd
  have hp1 : 1 ≤ 2 ^ h_nd H := Nat.one_le_two_pow
  generalize hP : (fun i => m_sn T H (it sh) hr (m_kp H (nI i))) = P
  generalize hR : m_cnt P (2 ^ h_nd H) 0 0 (-1) = R
  refine ⟨fun k v14 v15 v16 u => ∃ i m, v16 = nI i ∧ k + i = 2 ^ h_nd H ∧ v14 = nI m ∧ m ≤ i ∧ (m = 0 ↔ v15 = -1) ∧ m_cnt P k i m v15 = R ∧ mxf s u, ⟨2 ^ h_nd H, 0, 0, rfl, rfl, rfl, Nat.le_refl 0, ⟨fun _ => rfl, fun _ => rfl⟩, hR, mxf.zrefl s⟩, fun k v14 v15 v16 u hI => ?_⟩
  obtain ⟨i, m, rfl, hk, rfl, hmi, hm0, hR2, hfu⟩ := hI
  have hxu := hx.zx hfu
  refine g_call.i (k_allDrips (h := 6) (by omega) u hxu.1.2.1) (by omega) (fun rv u' hq => ?_)
  obtain ⟨rfl, rfl⟩ := hq
  have eall : ((1 : Int32) <<< (nI (h_nd H) &&& 31)) - 1 = nI (2 ^ h_nd H - 1) := by
    rw [n_pow6 hnd]
    exact pk_sub (b := 1) hp1
  rw [eall]
  refine ⟨_, rfl, fun g5 => ⟨?_, hfu⟩, fun g5 => ?_⟩
  · have := (n_lt (by omega) (by omega)).mp g5
    have hk0 : k = 0 := by omega
    subst hk0
    rw [← hR2]
    rfl
  · have hi : i < 2 ^ h_nd H := by
      rcases Nat.lt_or_ge i (2 ^ h_nd H) with z | z
      · exact z
      · exact absurd ((n_lt (by omega) (by omega)).mpr (by omega)) g5
    refine g_call.i (k_isSo (h := 76) (by omega) u' hxu (show sh < 4 by omega) (show hr < 24 by omega) (it := it sh) (fun q hq => by rw [hfu.1 89 (by decide) (by omega)]; exact hit q hq) (nI i)) (by omega) (fun rv w hq => ?_)
    obtain ⟨rfl, hfw⟩ := hq
    obtain ⟨k, rfl⟩ : ∃ k', k = k' + 1 := ⟨k - 1, by omega⟩
    have eP : m_sn T H (it sh) hr (m_kp H (nI i)) = P i := by rw [← hP]
    rw [eP]
    rw [m_cnt] at hR2
    by_cases hp : P i = true
    · rw [if_pos hp] at hR2 ⊢
      have el : (if (v15 : Int32) = -1 then nI i else v15) = if m = 0 then nI i else v15 := by
        by_cases z : m = 0
        · rw [if_pos z, if_pos (hm0.mp z)]
        · rw [if_neg z, if_neg (fun y => z (hm0.mpr y))]
      rw [el]
      refine ⟨_, rfl, fun z => absurd z (by decide), fun _ => ⟨k, by omega, i + 1, m + 1, nI_1 i, by omega, nI_1 m, by omega, ⟨fun z => absurd z (by omega), fun z => ?_⟩, hR2, hfu.ztrans hfw⟩⟩
      exfalso
      by_cases y : m = 0
      · rw [if_pos y] at z; exact nI_m1 (by omega) z
      · rw [if_neg y] at z; exact y (hm0.mpr z)
    · rw [if_neg hp] at hR2 ⊢
      exact ⟨_, rfl, fun _ => ⟨k, by omega, i + 1, m, nI_1 i, by omega, rfl, by omega, hm0, hR2, hfu.ztrans hfw⟩, fun z => absurd rfl z⟩
theorem k_M_strange {h : Nat} (hh : 78 ≤ h) (σ : gS) {t : Nat} {T : mT} {H : mH} (hx : mok σ t T H) {so sz : gF} {it : Nat → gF} (hs : msh σ so sz it) (sh hr : Int32) : g_Met yX8_strange cX8_strange 5 (some .int) h kM [.ref 63, .int sh, .int hr] σ (fun rv s => rv = some (.int (a_strange T H so sz it sh hr)) ∧ mxf σ s) := by
  have hnv := hx.2.1.1.2.1
  have hnd := hx.2.1.1.1
  refine w_X8_strange (by omega) ?_
  unfold P_X8_strange
  refine g_call.i (k_seenBad (h := 6) (by omega) σ hx.1.2.2.1 hs sh hr) (by omega) (fun rv s hq => ?_)
  obtain ⟨rfl, rfl⟩ := hq
  refine ⟨_, rfl, fun g => ?_, fun g => ⟨by rw [a_strange, if_neg g], mxf.zrefl s⟩⟩
  rw [a_strange, if_pos g]
  obtain ⟨h1, h2⟩ := m_ref0 g
  obtain ⟨sh, hsh, rfl⟩ := n_of (M := 3) h1 (by decide)
  obtain ⟨hr, hhr, rfl⟩ := n_of (M := 23) h2 (by decide)
  have hit := m_ref_it hs hnv (show sh < 4 by omega) g
  rw [ix_nI (by omega), ix_nI (by omega)]
  generalize hR : g_fd (fun d => m_sn T H (it sh) hr (m_but H d)) (h_nd H) 0 = R
  refine ⟨fun k v6 u => ∃ d, v6 = nI d ∧ k + d = h_nd H ∧ g_fd (fun d => m_sn T H (it sh) hr (m_but H d)) k d = R ∧ mxf s u, ⟨h_nd H, 0, rfl, by omega, hR, mxf.zrefl s⟩, fun k v6 u hI => ?_⟩
  obtain ⟨d, rfl, hk, hR2, hfu⟩ := hI
  have hxu := hx.zx hfu
  rw [hxu.1.2.1.1]
  refine ⟨fun h5 => ?_, fun h5 => ⟨?_, hfu⟩⟩
  · have hd := (n_lt (by omega) (by omega)).mp h5
    obtain ⟨k, rfl⟩ : ∃ k', k = k' + 1 := ⟨k - 1, by omega⟩
    refine g_call.i (k_allDrips (h := 6) (by omega) u hxu.1.2.1) (by omega) (fun rv u' hq => ?_)
    obtain ⟨rfl, rfl⟩ := hq
    refine ⟨_, rfl, g_call.i (k_isSo (h := 76) (by omega) u' hxu (show sh < 4 by omega) (show hr < 24 by omega) (it := it sh) (fun q hq => by rw [hfu.1 89 (by decide) (by omega)]; exact hit q hq) _) (by omega) (fun rv w hq => ?_)⟩
    obtain ⟨rfl, hfw⟩ := hq
    rw [kp_but2 hx.2.1 hd]
    rw [g_fd] at hR2
    by_cases hp : m_sn T H (it sh) hr (m_but H d) = true
    · rw [if_pos hp] at hR2 ⊢
      exact ⟨_, rfl, fun z => absurd z (by decide), fun _ => ⟨by rw [hR2], hfu.ztrans hfw⟩⟩
    · rw [if_neg hp] at hR2 ⊢
      exact ⟨_, rfl, fun _ => ⟨k, by omega, d + 1, nI_1 d, by omega, hR2, hfu.ztrans hfw⟩, fun z => absurd rfl z⟩
  · have : k = 0 := by
      rcases Nat.lt_or_ge d (h_nd H) with z | z
      · exact absurd ((n_lt (by omega) (by omega)).mpr z) h5
      · omega
    subst this
    rw [← hR2]
    rfl
