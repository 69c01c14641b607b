/-! THE CLASS'S CALLS OVER A DAY: pass, drawn, chance, sorted, what was seen -/
def m_hw (H : mH) (w : gF) : mH := (h_kd H, h_nu H, h_rt H, h_pl H, h_ra H, h_sz H, h_st H, w, h_nd H, h_nv H, h_up H, h_hd H, h_so H)
def a_pass (T : mT) (H : mH) (n : Int32) : Int32 := if g_in n 0 24 then m_cost (m_day T H (m_v0 H) (ix n)) else -2
def h_pass (T : mT) (H : mH) (n : Int32) : mH := if g_in n 0 24 then m_hw H (d_w (m_day T H (m_v0 H) (ix n))) else H
theorem h_pass_ok {T : mT} {H : mH} (hT : t_ok T) (hH : h_ok H) (n : Int32) : h_ok (h_pass T H n) := by
  unfold h_pass
  split
  · next h1 =>
    obtain ⟨n, hn, rfl⟩ := n_of (M := 24) h1 (by decide)
    rw [ix_nI (by omega)]
    have hg := m_go_gd (c_of_ok hT hH (m_v0_ok hH)) n hn
    refine ⟨hH.1, hH.2.1, hH.2.2.1, fun v hv => ⟨?_, (hH.2.2.2.1 v hv).2⟩, hH.2.2.2.2⟩
    obtain ⟨W, S, e1, e2, g1, g2⟩ := hg.1 v hv
    obtain ⟨⟨W', S', -, e4, -, g5, g6⟩, -⟩ := hH.2.2.2.1 v hv
    refine ⟨W, S, e1, e2, g1, ?_, g2⟩
    have e5 : nI S = nI S' := e2.symm.trans e4
    have := (nI_eq (a := S) (b := S') (by omega) (by omega)).mp e5
    omega
  · exact hH
theorem k_pass {h : Nat} (hh : 18 ≤ h) (σ : gS) {t : Nat} {T : mT} {H : mH} (hx : xok σ t T H) (n : Int32) : g_Met yX7_pass cX7_pass 3 (some .int) h kX [.ref 0, .int n] σ (fun rv s => rv = some (.int (a_pass T H n)) ∧ xh s (h_pass T H n) ∧ ∀ a, a ≠ 9 → (a < 23 ∨ 36 < a) → s a = σ a) := by
  obtain ⟨hrl, hxh, hH, hT⟩ := hx
  refine w_X7_pass (by omega) ?_
  unfold P_X7_pass
  refine ⟨fun h1 => ?_, fun h1 => ⟨by rw [a_pass, if_neg h1], by rw [h_pass, if_neg h1]; exact hxh, fun _ _ _ => rfl⟩⟩
  rw [a_pass, h_pass, if_pos h1, if_pos h1]
  obtain ⟨n, hn, rfl⟩ := n_of (M := 24) h1 (by decide)
  rw [ix_nI (by omega)]
  refine g_call.i (k_dawn (h := 10) (by omega) σ hrl hxh hH) (by omega) (fun rv s1 hq => ?_)
  obtain ⟨rfl, hxa, hf⟩ := hq
  refine ⟨rfl, g_call.i (k_D_lay (h := 14) (by omega) s1 hxa (m_v0_ok hH)) (by omega) (fun rv s2 hq => ?_)⟩
  obtain ⟨rfl, hL, hf2⟩ := hq
  refine ⟨rfl, g_call.i (k_runL (h := 14) (by omega) s2 hL hT hH (m_v0_ok hH) (n := n) (by omega) rfl) (by omega) (fun rv s3 hq => ?_)⟩
  obtain ⟨rfl, hL3, ⟨d1, d2, d8⟩, hf3⟩ := hq
  have hff := (hf.trans hf2).trans hf3
  refine ⟨rfl, fun k v9 s => ∃ v, v9 = nI v ∧ k + v = 5 ∧ (∀ u, u < v → s 9 u = s3 29 u) ∧ ∀ a, a ≠ 9 → s a = s3 a, ⟨5, 0, rfl, rfl, fun u hu => absurd hu (Nat.not_lt_zero u), fun _ _ => rfl⟩, fun k v9 s hI => ?_⟩
  obtain ⟨v, rfl, hk, hz, hf9⟩ := hI
  refine ⟨fun g1 => ?_, fun g1 => ?_⟩
  · have hv := (n_lt (b := 5) (by omega) (by omega)).mp g1
    refine ⟨v, rfl, hv, k - 1, by omega, v + 1, nI_1 v, by omega, fun u hu => ?_, fun a ha => by rw [g_up_ne ha]; exact hf9 a ha⟩
    by_cases e : u = v
    · subst e; rw [u_eq, hf9 29 (by decide)]
    · rw [u_ne e]; exact hz u (by omega)
  · have : v = 5 := by
      rcases Nat.lt_or_ge v 5 with z | z
      · exact absurd ((n_lt (b := 5) (by omega) (by omega)).mpr z) g1
      · omega
    subst this
    refine g_call.i (k_D_cost (h := 6) (by omega) s) (by omega) (fun rv s4 hq => ?_)
    obtain ⟨rfl, rfl⟩ := hq
    refine ⟨_, rfl, by rw [hf9 26 (by decide), d2.1, d2.2.1]; rfl, ?_, fun a a1 a2 => (hf9 a a1).trans (hff a a2)⟩
    obtain ⟨c1, c2, c3, c4⟩ := hxh
    have E : ∀ a, a < 9 → s4 a = σ a := fun a ha => (hf9 a (by omega)).trans (hff a (by omega))
    refine ⟨by rw [E 1 (by decide)]; exact c1, fun a b => by rw [E 2 (by decide)]; exact c2 a b, fun a b => by rw [E 3 (by decide), E 4 (by decide), E 5 (by decide), E 6 (by decide)]; exact c3 a b, fun a b => ⟨by rw [E 7 (by decide)]; exact (c4 a b).1, by rw [E 8 (by decide)]; exact (c4 a b).2.1, ?_⟩⟩
    have ha5 : a < 5 := by have := hH.1.2.1; have b2 : a < h_nv H := b; omega
    rw [hz a ha5]
    exact d1 a b
/-! rain that is drawn -/
def m_z (seed : Int32) : Nat → Int32
  | 0 => seed
  | h + 1 => m_z seed h * 1103515245 + 12345
def m_u9 (z : Int32) : Int32 := (Int32.toUInt32 z >>> (Int32.toUInt32 9 &&& Int32.toUInt32 31)).toInt32 - (Int32.toUInt32 z >>> (Int32.toUInt32 9 &&& Int32.toUInt32 31)).toInt32 / 10 * 10
def m_dr (seed : Int32) (h : Nat) : Int32 := m_u9 (m_z seed (h + 1))
def m_vd (H : mH) (seed : Int32) : mV := (m_dr seed, v_tm (m_v0 H), -1, -1, h_st H, h_up H, h_so H, h_hd H)
theorem m_vd_ok {H : mH} (hH : h_ok H) (seed : Int32) : v_ok H (m_vd H seed) := ⟨(m_v0_ok hH).1, (m_v0_ok hH).2.1, (m_v0_ok hH).2.2⟩
theorem k_draw {h : Nat} (hh : 6 ≤ h) (σ : gS) {T : mT} {t : Nat} {H : mH} (hx : xa σ T t H (m_v0 H)) (seed : Int32) : g_Met yX5_draw cX5_draw 4 none h kX [.ref 33, .int seed] σ (fun rv s => rv = none ∧ xa s T t H (m_vd H seed) ∧ xfr σ s) := by
  refine w_X5_draw (by omega) ?_
  unfold P_X5_draw
  refine ⟨fun k v1 v2 s => ∃ i, v2 = nI i ∧ v1 = m_z seed i ∧ k + i = 24 ∧ (∀ q, q < i → s 34 q = m_dr seed q) ∧ ∀ a, a ≠ 34 → s a = σ a, ⟨24, 0, rfl, rfl, rfl, fun q hq => absurd hq (Nat.not_lt_zero q), fun _ _ => rfl⟩, fun k v1 v2 s hI => ?_⟩
  obtain ⟨i, rfl, rfl, hk, hz, hf⟩ := hI
  refine ⟨fun h1 => ?_, fun h1 => ?_⟩
  · have hi := (n_lt (b := 24) (by omega) (by omega)).mp h1
    refine ⟨i, rfl, hi, k - 1, by omega, i + 1, nI_1 i, rfl, by omega, fun q hq => ?_, fun a ha => by rw [g_up_ne ha]; exact hf a ha⟩
    by_cases e : q = i
    · subst e; rw [u_eq]; rfl
    · rw [u_ne e]; exact hz q (by omega)
  · have : i = 24 := by
      rcases Nat.lt_or_ge i 24 with z | z
      · exact absurd ((n_lt (b := 24) (by omega) (by omega)).mpr z) h1
      · omega
    subst this
    obtain ⟨b1, b2, b3, b4, b5, b6, b7⟩ := hx
    exact ⟨rfl, ⟨b1.same (by rw [hf 23 (by decide)]) (hf _ (by omega)) (hf _ (by omega)), b2.same (fun a ha => hf a (by omega)), hz, fun a b => by rw [hf 35 (by decide)]; exact b4 a b, by rw [hf 33 (by decide)]; exact b5, fun a b => by rw [hf 27 (by decide)]; exact b6 a b, by rw [hf 26 (by decide)]; exact b7⟩, fun a ha => hf a (by omega)⟩
def a_drawn (T : mT) (H : mH) (seed : Int32) : Int32 := m_cost (m_day T H (m_vd H seed) 24)
theorem k_drawn {h : Nat} (hh : 18 ≤ h) (σ : gS) {t : Nat} {T : mT} {H : mH} (hx : xok σ t T H) (seed : Int32) : g_Met yX7_drawn cX7_drawn 2 (some .int) h kX [.ref 0, .int seed] σ (fun rv s => rv = some (.int (a_drawn T H seed)) ∧ xfr σ s) := by
  obtain ⟨hrl, hxh, hH, hT⟩ := hx
  refine w_X7_drawn (by omega) ?_
  unfold P_X7_drawn
  refine g_call.i (k_dawn (h := 10) (by omega) σ hrl hxh hH) (by omega) (fun rv s1 hq => ?_)
  obtain ⟨rfl, hxa, hf⟩ := hq
  refine ⟨rfl, g_call.i (k_draw (h := 6) (by omega) s1 hxa seed) (by omega) (fun rv s2 hq => ?_)⟩
  obtain ⟨rfl, hxa2, hf2⟩ := hq
  refine ⟨rfl, g_call.i (k_costInAll (h := 16) (by omega) s2 hxa2 hT hH (m_vd_ok hH seed)) (by omega) (fun rv s3 hq => ?_)⟩
  obtain ⟨rfl, -, -, hf3⟩ := hq
  exact ⟨_, rfl, rfl, (hf.trans hf2).trans hf3⟩
def m_dry (T : mT) (H : mH) (seed : Int32) : Nat → Nat
  | 0 => 0
  | k + 1 => m_dry T H seed k + (if d_ov (m_day T H (m_vd H (seed + nI k)) 24) = 0 then 1 else 0)
theorem m_dry_le (T : mT) (H : mH) (seed : Int32) : ∀ k, m_dry T H seed k ≤ k
  | 0 => Nat.le_refl 0
  | k + 1 => by
    have := m_dry_le T H seed k
    rw [m_dry]
    split <;> omega
def a_chance (T : mT) (H : mH) (seed n pa : Int32) : Int64 := if g_in n 1 20 ∧ g_in pa 0 1 then Int32.toInt64 (nI ((if pa = 0 then m_dry T H seed (ix n) else ix n) / Nat.gcd (m_dry T H seed (ix n)) (ix n))) else -4611686018427387904
theorem k_sharedDivisor {h : Nat} (hh : 6 ≤ h) (σ : gS) {p q : Nat} (hp : p ≤ q) (hq1 : 1 ≤ q) (hq : q ≤ 1000) : g_Met yX7_sharedDivisor cX7_sharedDivisor 3 (some .int) h kX [.int (nI p), .int (nI q)] σ (fun rv s => rv = some (.int (nI (Nat.gcd p q))) ∧ s = σ) := by
  refine w_X7_sharedDivisor hh ?_
  unfold P_X7_sharedDivisor
  have hg0 : 0 < Nat.gcd p q := Nat.gcd_pos_of_pos_right p (by omega)
  have hgq : Nat.gcd p q ≤ q := Nat.le_of_dvd (by omega) (Nat.gcd_dvd_right p q)
  refine ⟨fun k v => ∃ d, v = nI d ∧ k = d ∧ 1 ≤ d ∧ d ≤ q ∧ Nat.gcd p q ≤ d, ⟨q, q, rfl, rfl, hq1, Nat.le_refl q, hgq⟩, fun k v hI => ?_⟩
  obtain ⟨d, rfl, rfl, hd1, hdq, hgd⟩ := hI
  refine ⟨fun h1 => ?_, fun h1 => ?_⟩
  · have hd := (n_lt (a := 1) (by omega) (by omega)).mp h1
    have hne : ¬ nI k = 0 := nI_ne0 (by omega) (by omega)
    have nxt : ∀ (hn : ¬ (p % k = 0 ∧ q % k = 0)), ∃ k25, k25 < k ∧ ∃ d, nI k + (-1) = nI d ∧ k25 = d ∧ 1 ≤ d ∧ d ≤ q ∧ Nat.gcd p q ≤ d := by
      intro hn
      obtain ⟨j, rfl⟩ : ∃ j, k = j + 1 := ⟨k - 1, by omega⟩
      refine ⟨j, by omega, j, pk_m1 j, rfl, by omega, by omega, ?_⟩
      rcases Nat.lt_or_ge (Nat.gcd p q) (j + 1) with z | z
      · omega
      · have e : Nat.gcd p q = j + 1 := by omega
        exact absurd ⟨Nat.mod_eq_zero_of_dvd (e ▸ Nat.gcd_dvd_left p q), Nat.mod_eq_zero_of_dvd (e ▸ Nat.gcd_dvd_right p q)⟩ hn
    rw [pk_rem (a := p) (d := k) (by omega) (by omega) (by omega), pk_rem (a := q) (d := k) (by omega) (by omega) (by omega)]
    have m0 : ∀ x, x ≤ 1000 → (nI x = 0 ↔ x = 0) := fun x hx => nI_eq (a := x) (b := 0) (by omega) (by omega)
    have l1 : p % k ≤ 1000 := Nat.le_trans (Nat.mod_le p k) (by omega)
    have l2 : q % k ≤ 1000 := Nat.le_trans (Nat.mod_le q k) (by omega)
    refine ⟨hne, fun h2 => ⟨hne, fun h3 => ?_, fun h3 => nxt (fun z => h3 ((m0 _ l2).mpr z.2))⟩, fun h2 => nxt (fun z => h2 ((m0 _ l1).mpr z.1))⟩
    have a1 : k ∣ p := Nat.dvd_of_mod_eq_zero ((m0 _ l1).mp h2)
    have a2 : k ∣ q := Nat.dvd_of_mod_eq_zero ((m0 _ l2).mp h3)
    have a3 : k ≤ Nat.gcd p q := Nat.le_of_dvd hg0 (Nat.dvd_gcd a1 a2)
    have : Nat.gcd p q = k := by omega
    rw [this]
    exact ⟨rfl, rfl⟩
  · have : k = 1 := by
      rcases Nat.lt_or_ge 1 k with z | z
      · exact absurd ((n_lt (a := 1) (by omega) (by omega)).mpr z) h1
      · omega
    have e : Nat.gcd p q = 1 := by omega
    rw [e]
    exact ⟨rfl, rfl⟩
theorem k_chance {h : Nat} (hh : 18 ≤ h) (σ : gS) {t : Nat} {T : mT} {H : mH} (hx : xok σ t T H) (seed n pa : Int32) : g_Met yX7_chance cX7_chance 6 (some .long) h kX [.ref 0, .int seed, .int n, .int pa] σ (fun rv s => rv = some (.long (a_chance T H seed n pa)) ∧ xfr σ s) := by
  refine w_X7_chance (by omega) ?_
  unfold P_X7_chance
  refine ⟨fun h1 => ⟨fun h2 => ?_, fun h2 => ⟨by rw [a_chance, if_neg (fun z => h2 z.2)], xfr.refl σ⟩⟩, fun h1 => ⟨by rw [a_chance, if_neg (fun z => h1 z.1)], xfr.refl σ⟩⟩
  rw [a_chance, if_pos ⟨h1, h2⟩]
  obtain ⟨n, hn1, hn20, rfl⟩ := n_of1 (M := 20) h1 (by decide)
  rw [ix_nI (by omega)]
  refine ⟨fun k v6 v7 s => ∃ i, v7 = nI i ∧ k + i = n ∧ v6 = nI (m_dry T H seed i) ∧ xfr σ s, ⟨n, 0, rfl, rfl, rfl, xfr.refl σ⟩, fun k v6 v7 s hI => ?_⟩
  obtain ⟨i, rfl, hk, rfl, hf⟩ := hI
  obtain ⟨hrl, hxh, hH, hT⟩ := hx.zfr hf
  refine ⟨fun h3 => ?_, fun h3 => ?_⟩
  · have hi := (n_lt (by omega) (by omega)).mp h3
    refine g_call.i (k_dawn (h := 10) (by omega) s hrl hxh hH) (by omega) (fun rv s1 hq => ?_)
    obtain ⟨rfl, hxa, hf1⟩ := hq
    refine ⟨rfl, g_call.i (k_draw (h := 6) (by omega) s1 hxa (seed + nI i)) (by omega) (fun rv s2 hq => ?_)⟩
    obtain ⟨rfl, hxa2, hf2⟩ := hq
    refine ⟨rfl, g_call.i (k_costInAll (h := 16) (by omega) s2 hxa2 hT hH (m_vd_ok hH (seed + nI i))) (by omega) (fun rv s3 hq => ?_)⟩
    obtain ⟨rfl, -, hd3, hf3⟩ := hq
    refine ⟨_, rfl, k - 1, by omega, i + 1, nI_1 i, by omega, ?_, ((hf.trans hf1).trans hf2).trans hf3⟩
    rw [hd3.2.1.2.2.1, m_dry]
    split
    · exact nI_1 _
    · exact Int32.add_zero _
  · have : i = n := by
      rcases Nat.lt_or_ge i n with z | z
      · exact absurd ((n_lt (by omega) (by omega)).mpr z) h3
      · omega
    subst this
    have hle := m_dry_le T H seed i
    refine g_call.i (k_sharedDivisor (h := 6) (by omega) s hle (by omega) (by omega)) (by omega) (fun rv s' hq => ?_)
    obtain ⟨rfl, rfl⟩ := hq
    have hg0 : 0 < Nat.gcd (m_dry T H seed i) i := Nat.gcd_pos_of_pos_right _ (by omega)
    have hgq : Nat.gcd (m_dry T H seed i) i ≤ i := Nat.le_of_dvd (by omega) (Nat.gcd_dvd_right _ _)
    have epos : (if (0 : Int32) < nI (Nat.gcd (m_dry T H seed i) i) then nI (Nat.gcd (m_dry T H seed i) i) else 1) = nI (Nat.gcd (m_dry T H seed i) i) := if_pos ((n_lt (a := 0) (by omega) (by omega)).mpr hg0)
    refine ⟨_, rfl, ?_⟩
    rw [epos]
    refine ⟨nI_ne0 hg0 (by omega), ?_, hf⟩
    by_cases hpa : pa = 0
    · rw [if_pos hpa, if_pos hpa, n_div (by omega) hg0 (by omega)]
    · rw [if_neg hpa, if_neg hpa, n_div (by omega) hg0 (by omega)]
/-! how to sort -/
def m_vs (H : mH) (x : Int32) : mV := (h_ra H, v_tm (m_v0 H), -1, -1, h_st H, h_up H, x, h_hd H)
def m_vh (H : mH) (n : Nat) : mV := (h_ra H, v_tm (m_v0 H), -1, -1, h_st H, h_up H, h_so H, n)
def m_fh (C : Nat → Int32) (L : Int32) : Nat → Nat → Nat
  | 0, j => j
  | k + 1, j => if L < C j then m_fh C L k (j + 1) else j
def a_sorted (T : mT) (H : mH) (wh : Int32) : Int32 := if g_in wh 0 1 then (if wh = 0 then m_cost (m_day T H (m_vs H (1 - h_so H)) 24) - m_cost (m_day T H (m_v0 H) 24) else nI (m_fh (fun n => m_cost (m_day T H (m_vh H n) 24)) (m_cost (m_day T H (m_vh H 5) 24)) 4 1)) else -100000
theorem k_sorted {h : Nat} (hh : 18 ≤ h) (σ : gS) {t : Nat} {T : mT} {H : mH} (hx : xok σ t T H) (wh : Int32) : g_Met yX7_sorted cX7_sorted 4 (some .int) h kX [.ref 0, .int wh] σ (fun rv s => rv = some (.int (a_sorted T H wh)) ∧ xfr σ s) := by
  obtain ⟨hrl, hxh, hH, hT⟩ := hx
  have vo := m_v0_ok hH
  refine w_X7_sorted (by omega) ?_
  unfold P_X7_sorted
  refine ⟨fun h1 => ?_, fun h1 => ⟨by rw [a_sorted, if_neg h1], xfr.refl σ⟩⟩
  rw [a_sorted, if_pos h1]
  refine g_call.i (k_dawn (h := 10) (by omega) σ hrl hxh hH) (by omega) (fun rv s1 hq => ?_)
  obtain ⟨rfl, hxa, hf⟩ := hq
  refine ⟨rfl, fun h2 => ?_, fun h2 => ?_⟩
  · rw [if_pos h2]
    refine g_call.i (k_costInAll (h := 16) (by omega) s1 hxa hT hH vo) (by omega) (fun rv s2 hq => ?_)
    obtain ⟨rfl, hL2, -, hf2⟩ := hq
    refine ⟨_, rfl, ?_⟩
    rw [hL2.1.2.1.1.2.2.2.2]
    refine g_call.i (k_costInAll (h := 16) (by omega) _ (V := m_vs H (1 - h_so H)) (hL2.1.zso (1 - h_so H)) hT hH ⟨vo.1, vo.2.1, vo.2.2⟩) (by omega) (fun rv s3 hq => ?_)
    obtain ⟨rfl, -, -, hf3⟩ := hq
    exact ⟨_, rfl, rfl, ((hf.trans hf2).up 5 _ (by decide)).trans hf3⟩
  · rw [if_neg h2]
    refine g_call.i (k_costInAll (h := 16) (by omega) _ (V := m_vh H 5) (hxa.zhd (n := 5) rfl) hT hH ⟨vo.1, vo.2.1, Nat.le_refl 5⟩) (by omega) (fun rv s2 hq => ?_)
    obtain ⟨rfl, hL2, -, hf2⟩ := hq
    refine ⟨_, rfl, fun k v s => ∃ j V, v = nI j ∧ 1 ≤ j ∧ k + j = 5 ∧ xa s T t H V ∧ (v_ra V = h_ra H ∧ v_tm V = v_tm (m_v0 H) ∧ v_ld V = -1 ∧ v_lt V = -1 ∧ v_st V = h_st H ∧ v_up V = h_up H ∧ v_so V = h_so H) ∧ m_fh (fun n => m_cost (m_day T H (m_vh H n) 24)) (m_cost (m_day T H (m_vh H 5) 24)) k j = m_fh (fun n => m_cost (m_day T H (m_vh H n) 24)) (m_cost (m_day T H (m_vh H 5) 24)) 4 1 ∧ xfr σ s, ⟨4, 1, m_vh H 5, rfl, by omega, rfl, hL2.1, ⟨rfl, rfl, rfl, rfl, rfl, rfl, rfl⟩, rfl, (hf.up 4 _ (by decide)).trans hf2⟩, fun k v s hI => ?_⟩
    obtain ⟨j, V, rfl, hj1, hk, hxs, ⟨v1, v2, v3, v4, v5, v6, v7⟩, hR, hfs⟩ := hI
    refine ⟨fun h3 => ?_, fun h3 => ?_⟩
    · have hj := (n_lt (b := 5) (by omega) (by omega)).mp h3
      obtain ⟨k, rfl⟩ : ∃ k', k = k' + 1 := ⟨k - 1, by omega⟩
      have hxj : xa (g_up s 26 4 (nI j)) T t H (m_vh H j) := by
        have := hxs.zhd (x := nI j) (n := j) rfl
        rw [v1, v2, v3, v4, v5, v6, v7] at this
        exact this
      refine g_call.i (k_costInAll (h := 16) (by omega) _ hxj hT hH ⟨vo.1, vo.2.1, show j ≤ 5 by omega⟩) (by omega) (fun rv s3 hq => ?_)
      obtain ⟨rfl, hL3, -, hf3⟩ := hq
      rw [m_fh] at hR
      refine ⟨_, rfl, fun h4 => ⟨k, by omega, j + 1, m_vh H j, nI_1 j, by omega, by omega, hL3.1, ⟨rfl, rfl, rfl, rfl, rfl, rfl, rfl⟩, by rw [if_pos h4] at hR; exact hR, (hfs.up 4 _ (by decide)).trans hf3⟩, fun h4 => ⟨?_, (hfs.up 4 _ (by decide)).trans hf3⟩⟩
      rw [if_neg h4] at hR
      rw [hR]
    · have : j = 5 := by
        rcases Nat.lt_or_ge j 5 with z | z
        · exact absurd ((n_lt (b := 5) (by omega) (by omega)).mpr z) h3
        · omega
      subst this
      have : k = 0 := by omega
      subst this
      refine ⟨?_, hfs⟩
      rw [← hR]
      rfl
