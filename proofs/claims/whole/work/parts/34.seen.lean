/-! WHAT WAS SEEN -/
def m_eqs (f g : gF) : Nat → Nat → Bool
  | 0, _ => true
  | k + 1, v => decide (f v = g v) && m_eqs f g k (v + 1)
def m_kp (H : mH) (set : Int32) (d : Nat) : Int32 := if d < h_nd H ∧ ¬ ((set >>> (nI d &&& 31)) &&& 1) = 0 then 1 else 0
def m_vt2 (H : mH) (tm : gF) : mV := (h_ra H, tm, -1, -1, h_st H, h_up H, h_so H, h_hd H)
def m_sn (T : mT) (H : mH) (it : gF) (h : Nat) (tm : gF) : Bool := m_eqs (d_w (m_day T H (m_vt2 H tm) (h + 1))) it (h_nv H) 0
theorem m_kp_ok {H : mH} (hH : h_ok H) (set : Int32) : v_ok H (m_vt2 H (m_kp H set)) := by
  refine ⟨fun d hd => ?_, fun d h1 h2 => if_neg (fun z => by have := z.1; omega), hH.1.2.2.1⟩
  show ∃ q, m_kp H set d = nI q ∧ q ≤ 10
  unfold m_kp
  split
  · exact ⟨1, rfl, by omega⟩
  · exact ⟨0, rfl, by omega⟩
theorem k_keep {h : Nat} (hh : 6 ≤ h) (σ : gS) {T : mT} {t : Nat} {H : mH} (hx : xa σ T t H (m_v0 H)) (set : Int32) : g_Met yX5_keep cX5_keep 3 none h kX [.ref 33, .int set] σ (fun rv s => rv = none ∧ xa s T t H (m_vt2 H (m_kp H set)) ∧ xfr σ s) := by
  refine w_X5_keep (by omega) ?_
  unfold P_X5_keep
  have e35 : ∀ d, d < 6 → σ 35 d = if d < h_nd H then 1 else 0 := hx.2.2.2.1
  refine ⟨fun k v1 s => ∃ d, v1 = nI d ∧ k + d = 6 ∧ (∀ q, q < 6 → s 35 q = if q < d then m_kp H set q else σ 35 q) ∧ ∀ a, a ≠ 35 → s a = σ a, ⟨6, 0, rfl, rfl, fun q hq => by rw [if_neg (Nat.not_lt_zero q)], fun _ _ => rfl⟩, fun k v1 s hI => ?_⟩
  obtain ⟨d, rfl, hk, hz, hf⟩ := hI
  refine ⟨fun h1 => ⟨fun h2 => ?_, fun h2 => ?_⟩, fun h1 => ?_⟩
  · have hd := (n_lt (b := 6) (by omega) (by omega)).mp h1
    refine ⟨d, rfl, hd, k - 1, by omega, d + 1, nI_1 d, by omega, fun q hq => ?_, fun a ha => by rw [g_up_ne ha]; exact hf a ha⟩
    by_cases e : q = d
    · subst e
      rw [u_eq, if_pos (by omega), m_kp, if_neg (fun z => z.2 h2)]
    · rw [u_ne e, hz q hq]
      by_cases e2 : q < d
      · rw [if_pos e2, if_pos (by omega)]
      · rw [if_neg e2, if_neg (by omega)]
  · have hd := (n_lt (b := 6) (by omega) (by omega)).mp h1
    refine ⟨k - 1, by omega, d + 1, nI_1 d, by omega, fun q hq => ?_, hf⟩
    rw [hz q hq]
    by_cases e : q = d
    · subst e
      rw [if_neg (Nat.lt_irrefl q), if_pos (by omega), e35 q hq, m_kp]
      by_cases e3 : q < h_nd H
      · rw [if_pos e3, if_pos ⟨e3, h2⟩]
      · rw [if_neg e3, if_neg (fun z => e3 z.1)]
    · by_cases e2 : q < d
      · rw [if_pos e2, if_pos (by omega)]
      · rw [if_neg e2, if_neg (by omega)]
  · have : d = 6 := by
      rcases Nat.lt_or_ge d 6 with z | z
      · exact absurd ((n_lt (b := 6) (by omega) (by omega)).mpr z) h1
      · omega
    subst this
    obtain ⟨b1, b2, b3, b4, b5, b6, b7⟩ := hx
    exact ⟨rfl, ⟨b1.same (by rw [hf 23 (by decide)]) (hf _ (by omega)) (hf _ (by omega)), b2.same (fun a ha => hf a (by omega)), fun a b => by rw [hf 34 (by decide)]; exact b3 a b, fun a b => by rw [hz a b, if_pos b]; rfl, by rw [hf 33 (by decide)]; exact b5, fun a b => by rw [hf 27 (by decide)]; exact b6 a b, by rw [hf 26 (by decide)]; exact b7⟩, fun a ha => hf a (by omega)⟩
theorem k_isAsSeen {h : Nat} (hh : 18 ≤ h) (σ : gS) {t : Nat} {T : mT} {H : mH} (hx : xok σ t T H) {sh hr : Nat} (h4 : sh < 4) (h24 : hr < 24) (set : Int32) : g_Met yX7_isAsSeen cX7_isAsSeen 5 (some .boolean) h kX [.ref 0, .int (nI sh), .int (nI hr), .int set] σ (fun rv s => rv = some (.int (if m_sn T H (σ (38 + 2 * sh)) hr (m_kp H set) = true then 1 else 0)) ∧ xfr σ s) := by
  obtain ⟨hrl, hxh, hH, hT⟩ := hx
  refine w_X7_isAsSeen (by omega) ?_
  unfold P_X7_isAsSeen
  refine g_call.i (k_dawn (h := 10) (by omega) σ hrl hxh hH) (by omega) (fun rv s1 hq => ?_)
  obtain ⟨rfl, hxa, hf⟩ := hq
  refine ⟨rfl, g_call.i (k_keep (h := 6) (by omega) s1 hxa set) (by omega) (fun rv s2 hq => ?_)⟩
  obtain ⟨rfl, hxa2, hf2⟩ := hq
  refine ⟨rfl, g_call.i (k_D_lay (h := 14) (by omega) s2 hxa2 (m_kp_ok hH set)) (by omega) (fun rv s3 hq => ?_)⟩
  obtain ⟨rfl, hL, hf3⟩ := hq
  refine ⟨rfl, g_call.i (k_runL (h := 14) (by omega) s3 hL hT hH (m_kp_ok hH set) (n := hr + 1) (by omega) (nI_1 hr)) (by omega) (fun rv s4 hq => ?_)⟩
  obtain ⟨rfl, hL4, ⟨d1, -, -⟩, hf4⟩ := hq
  have hff := ((hf.trans hf2).trans hf3).trans hf4
  have hnv := hH.1.2.1
  have e9 : s4 1 9 = nI (h_nv H) := hL4.1.2.1.1.2.1
  refine ⟨rfl, fun k v9 => ∃ v, v9 = nI v ∧ k + v = h_nv H ∧ m_eqs (d_w (m_day T H (m_vt2 H (m_kp H set)) (hr + 1))) (σ (38 + 2 * sh)) k v = m_sn T H (σ (38 + 2 * sh)) hr (m_kp H set), ⟨h_nv H, 0, rfl, rfl, rfl⟩, fun k v9 hI => ?_⟩
  obtain ⟨v, rfl, hk, hR⟩ := hI
  rw [e9]
  refine ⟨fun h1 => ⟨fun h2 => ?_, fun h2 => absurd ((n_lt (b := 5) (by omega) (by omega)).mpr (by have := (n_lt (by omega) (by omega)).mp h1; omega)) h2⟩, fun h1 => ?_⟩
  · have hv := (n_lt (by omega) (by omega)).mp h1
    obtain ⟨k, rfl⟩ : ∃ k', k = k' + 1 := ⟨k - 1, by omega⟩
    rw [m_eqs] at hR
    refine ⟨v, rfl, by omega, sh, rfl, h4, ?_⟩
    rw [hff (38 + 2 * sh) (by omega), d1 v hv]
    refine ⟨fun h3 => ⟨k, by omega, v + 1, nI_1 v, by omega, ?_⟩, fun h3 => ⟨?_, hff⟩⟩
    · rw [← hR, decide_eq_true (show _ = _ from h3), Bool.true_and]
    · rw [← hR, decide_eq_false (show ¬ _ = _ from h3), Bool.false_and]
      rfl
  · have : k = 0 := by
      rcases Nat.lt_or_ge v (h_nv H) with z | z
      · exact absurd ((n_lt (by omega) (by omega)).mpr z) h1
      · omega
    subst this
    rw [← hR]
    exact ⟨rfl, hff⟩
def m_ref (so sz : gF) (nv : Nat) (sh hr : Int32) : Int32 := if g_in sh 0 3 ∧ g_in hr 0 23 then (if so (ix sh) = -1 then -11 else if sz (ix sh) = nI nv then 0 else -2) else -2
/-- the sheets' sorts and sizes as the class holds them -/
def x_so (σ : gS) (j : Nat) : Int32 := σ (37 + 2 * j) 0
def x_sz (σ : gS) (j : Nat) : Int32 := σ (37 + 2 * j) 1
theorem k_refusal {h : Nat} (hh : 6 ≤ h) (σ : gS) {H : mH} (hx : xh σ H) (sh hr : Int32) : g_Met yX7_refusalOfSight cX7_refusalOfSight 3 (some .int) h kX [.ref 0, .int sh, .int hr] σ (fun rv s => rv = some (.int (m_ref (x_so σ) (x_sz σ) (h_nv H) sh hr)) ∧ s = σ) := by
  refine w_X7_refusalOfSight hh ?_
  unfold P_X7_refusalOfSight
  refine ⟨fun h1 => ⟨fun h2 => ?_, fun h2 => ⟨by rw [m_ref, if_neg (fun z => h2 z.2)], rfl⟩⟩, fun h1 => ⟨by rw [m_ref, if_neg (fun z => h1 z.1)], rfl⟩⟩
  rw [m_ref, if_pos ⟨h1, h2⟩]
  obtain ⟨j, hj, rfl⟩ := n_of (M := 3) h1 (by decide)
  rw [ix_nI (by omega)]
  refine ⟨j, rfl, by omega, fun h3 => ⟨by rw [if_pos (show x_so σ j = -1 from h3)], rfl⟩, fun h3 => ⟨?_, rfl⟩⟩
  rw [if_neg (show ¬ x_so σ j = -1 from h3), hx.1.2.1]
  rfl
def m_cnt (P : Nat → Bool) : Nat → Nat → Nat → Int32 → Nat × Int32
  | 0, _, m, l => (m, l)
  | k + 1, i, m, l => if P i = true then m_cnt P k (i + 1) (m + 1) (if m = 0 then nI i else l) else m_cnt P k (i + 1) m l
theorem n_pow6 {n : Nat} (h : n ≤ 6) : (1 : Int32) <<< (nI n &&& 31) = nI (2 ^ n) := by
  have H : ∀ n : Fin 7, (1 : Int32) <<< (nI n.val &&& 31) = nI (2 ^ n.val) := by decide +kernel
  exact H ⟨n, by omega⟩
theorem n_pow6_le {n : Nat} (h : n ≤ 6) : 2 ^ n ≤ 64 := by
  have H : ∀ n : Fin 7, 2 ^ n.val ≤ 64 := by decide +kernel
  exact H ⟨n, by omega⟩
def a_seen (T : mT) (H : mH) (so sz : gF) (it : Nat → gF) (sh hr wh : Int32) : Int32 :=
  if g_in wh 0 1 then
    (if m_ref so sz (h_nv H) sh hr = 0 then (if wh = 0 then nI (m_cnt (fun i => m_sn T H (it (ix sh)) (ix hr) (m_kp H (nI i))) (2 ^ h_nd H) 0 0 (-1)).1 else (m_cnt (fun i => m_sn T H (it (ix sh)) (ix hr) (m_kp H (nI i))) (2 ^ h_nd H) 0 0 (-1)).2) else m_ref so sz (h_nv H) sh hr)
  else -2
theorem m_ref0 {so sz : gF} {nv : Nat} {sh hr : Int32} (h : m_ref so sz nv sh hr = 0) : g_in sh 0 3 ∧ g_in hr 0 23 := by
  unfold m_ref at h
  split at h
  · next e => exact e
  · exact absurd h (by decide)
theorem k_seen {h : Nat} (hh : 20 ≤ h) (σ : gS) {t : Nat} {T : mT} {H : mH} (hx : xok σ t T H) (sh hr wh : Int32) : g_Met yX7_seen cX7_seen 8 (some .int) h kX [.ref 0, .int sh, .int hr, .int wh] σ (fun rv s => rv = some (.int (a_seen T H (x_so σ) (x_sz σ) (fun j => σ (38 + 2 * j)) sh hr wh)) ∧ xfr σ s) := by
  refine w_X7_seen (by omega) ?_
  unfold P_X7_seen
  refine ⟨fun v s => s = σ ∧ v = if g_in wh 0 1 then m_ref (x_so σ) (x_sz σ) (h_nv H) sh hr else -2, ⟨fun h1 => g_call.i (k_refusal (h := 6) (by omega) σ hx.2.1 sh hr) (by omega) (fun rv s hq => ?_), fun h1 => ⟨rfl, by rw [if_neg h1]⟩⟩, fun v s hJ => ?_⟩
  · obtain ⟨rfl, rfl⟩ := hq
    exact ⟨_, rfl, rfl, by rw [if_pos h1]⟩
  · obtain ⟨rfl, rfl⟩ := hJ
    refine ⟨fun h1 => ?_, fun h1 => ⟨?_, xfr.refl _⟩⟩
    · have h2 : g_in wh 0 1 := by
        by_cases z : g_in wh 0 1
        · exact z
        · rw [if_neg z] at h1; exact absurd h1 (by decide)
      rw [if_pos h2] at h1
      obtain ⟨h3, h4⟩ := m_ref0 h1
      rw [a_seen, if_pos h2, if_pos h1]
      obtain ⟨sh, hsh, rfl⟩ := n_of (M := 3) h3 (by decide)
      obtain ⟨hr, hhr, rfl⟩ := n_of (M := 23) h4 (by decide)
      rw [ix_nI (by omega), ix_nI (by omega)]
      have hnd := hx.2.2.1.1.1
      have hpw := n_pow6_le hnd
      generalize hP : (fun i => m_sn T H (s (38 + 2 * sh)) hr (m_kp H (nI i))) = P
      generalize hR : m_cnt P (2 ^ h_nd H) 0 0 (-1) = R
      refine ⟨fun k v11 v12 v13 u => ∃ i m, v13 = nI i ∧ k + i = 2 ^ h_nd H ∧ v11 = nI m ∧ m ≤ i ∧ m_cnt P k i m v12 = R ∧ xfr s u, ⟨2 ^ h_nd H, 0, 0, rfl, rfl, rfl, Nat.le_refl 0, hR, xfr.refl s⟩, fun k v11 v12 v13 u hI => ?_⟩
      obtain ⟨i, m, rfl, hk, rfl, hmi, hR2, hfu⟩ := hI
      have hxu := hx.zfr hfu
      rw [hxu.2.1.1.1, n_pow6 hnd]
      refine ⟨fun h5 => g_call.i (k_isAsSeen (h := 18) (by omega) u hxu (show sh < 4 by omega) (show hr < 24 by omega) (nI i)) (by omega) (fun rv w hq => ?_), fun h5 => ⟨?_, hfu⟩⟩
      · obtain ⟨rfl, hfw⟩ := hq
        have hi := (n_lt (by omega) (by omega)).mp h5
        obtain ⟨k, rfl⟩ : ∃ k', k = k' + 1 := ⟨k - 1, by omega⟩
        rw [hfu (38 + 2 * sh) (by omega)]
        have eP : m_sn T H (s (38 + 2 * sh)) hr (m_kp H (nI i)) = P i := by rw [← hP]
        rw [eP]
        rw [m_cnt] at hR2
        by_cases hp : P i = true
        · rw [if_pos hp] at hR2 ⊢
          refine ⟨_, rfl, fun z => absurd z (by decide), fun _ => ⟨k, by omega, i + 1, m + 1, nI_1 i, by omega, nI_1 m, by omega, ?_, hfu.trans hfw⟩⟩
          rw [← hR2]
          congr 1
          by_cases hm : m = 0
          · subst hm; rfl
          · rw [if_neg hm, if_neg (show ¬ nI m = 0 from fun z => hm ((nI_eq (a := m) (b := 0) (by omega) (by omega)).mp z))]
        · rw [if_neg hp] at hR2 ⊢
          exact ⟨_, rfl, fun _ => ⟨k, by omega, i + 1, m, nI_1 i, by omega, rfl, by omega, hR2, hfu.trans hfw⟩, fun z => absurd rfl z⟩
      · have : k = 0 := by
          rcases Nat.lt_or_ge i (2 ^ h_nd H) with z | z
          · exact absurd ((n_lt (by omega) (by omega)).mpr z) h5
          · omega
        subst this
        rw [← hR2]
        rfl
    · rw [a_seen]
      by_cases h2 : g_in wh 0 1
      · rw [if_pos h2] at h1 ⊢
        rw [if_pos h2, if_neg h1]
      · rw [if_neg h2, if_neg h2]
def m_but (H : mH) (d u : Nat) : Int32 := if u < h_nd H ∧ u ≠ d then 1 else 0
theorem m_bits {n d u : Nat} (hn : n ≤ 6) (hd : d < n) (hu : u < n) : ((((((1 : Int32) <<< (nI n &&& 31)) - 1) ^^^ ((1 : Int32) <<< (nI d &&& 31))) >>> (nI u &&& 31)) &&& 1) = 0 ↔ u = d := by
  have H : ∀ n : Fin 7, ∀ d u : Fin 6, d.val < n.val → u.val < n.val → (((((((1 : Int32) <<< (nI n.val &&& 31)) - 1) ^^^ ((1 : Int32) <<< (nI d.val &&& 31))) >>> (nI u.val &&& 31)) &&& 1) = 0 ↔ u.val = d.val) := by decide +kernel
  exact H ⟨n, by omega⟩ ⟨d, by omega⟩ ⟨u, by omega⟩ hd hu
theorem m_kp_but {H : mH} (hH : h_ok H) {d : Nat} (hd : d < h_nd H) : m_kp H ((((1 : Int32) <<< (nI (h_nd H) &&& 31)) - 1) ^^^ ((1 : Int32) <<< (nI d &&& 31))) = m_but H d := by
  funext u
  unfold m_kp m_but
  by_cases hu : u < h_nd H
  · have := m_bits hH.1.1 hd hu
    by_cases e : u = d
    · rw [if_neg (fun z => z.2 (this.mpr e)), if_neg (fun z => z.2 e)]
    · rw [if_pos ⟨hu, fun z => e (this.mp z)⟩, if_pos ⟨hu, e⟩]
  · rw [if_neg (fun z => hu z.1), if_neg (fun z => hu z.1)]
def a_strange (T : mT) (H : mH) (so sz : gF) (it : Nat → gF) (sh hr : Int32) : Int32 := if m_ref so sz (h_nv H) sh hr = 0 then g_fd (fun d => m_sn T H (it (ix sh)) (ix hr) (m_but H d)) (h_nd H) 0 else m_ref so sz (h_nv H) sh hr
theorem k_strange {h : Nat} (hh : 20 ≤ h) (σ : gS) {t : Nat} {T : mT} {H : mH} (hx : xok σ t T H) (sh hr : Int32) : g_Met yX7_strange cX7_strange 6 (some .int) h kX [.ref 0, .int sh, .int hr] σ (fun rv s => rv = some (.int (a_strange T H (x_so σ) (x_sz σ) (fun j => σ (38 + 2 * j)) sh hr)) ∧ xfr σ s) := by
  refine w_X7_strange (by omega) ?_
  unfold P_X7_strange
  refine g_call.i (k_refusal (h := 6) (by omega) σ hx.2.1 sh hr) (by omega) (fun rv s hq => ?_)
  obtain ⟨rfl, rfl⟩ := hq
  refine ⟨_, rfl, fun h1 => ?_, fun h1 => ⟨by rw [a_strange, if_neg h1], xfr.refl _⟩⟩
  rw [a_strange, if_pos h1]
  obtain ⟨h3, h4⟩ := m_ref0 h1
  obtain ⟨sh, hsh, rfl⟩ := n_of (M := 3) h3 (by decide)
  obtain ⟨hr, hhr, rfl⟩ := n_of (M := 23) h4 (by decide)
  rw [ix_nI (by omega), ix_nI (by omega)]
  have hnd := hx.2.2.1.1.1
  generalize hR : g_fd (fun d => m_sn T H (s (38 + 2 * sh)) hr (m_but H d)) (h_nd H) 0 = R
  refine ⟨fun k v6 u => ∃ d, v6 = nI d ∧ k + d = h_nd H ∧ g_fd (fun d => m_sn T H (s (38 + 2 * sh)) hr (m_but H d)) k d = R ∧ xfr s u, ⟨h_nd H, 0, rfl, rfl, hR, xfr.refl s⟩, fun k v6 u hI => ?_⟩
  obtain ⟨d, rfl, hk, hR2, hfu⟩ := hI
  have hxu := hx.zfr hfu
  rw [hxu.2.1.1.1, hx.2.1.1.1]
  refine ⟨fun h5 => g_call.i (k_isAsSeen (h := 18) (by omega) u hxu (show sh < 4 by omega) (show hr < 24 by omega) _) (by omega) (fun rv w hq => ?_), fun h5 => ⟨?_, hfu⟩⟩
  · obtain ⟨rfl, hfw⟩ := hq
    have hd := (n_lt (by omega) (by omega)).mp h5
    obtain ⟨k, rfl⟩ : ∃ k', k = k' + 1 := ⟨k - 1, by omega⟩
    rw [hfu (38 + 2 * sh) (by omega), m_kp_but hx.2.2.1 hd]
    rw [g_fd] at hR2
    by_cases hp : m_sn T H (s (38 + 2 * sh)) hr (m_but H d) = true
    · rw [if_pos hp] at hR2 ⊢
      exact ⟨_, rfl, fun z => absurd z (by decide), fun _ => ⟨by rw [hR2], hfu.trans hfw⟩⟩
    · rw [if_neg hp] at hR2 ⊢
      exact ⟨_, rfl, fun _ => ⟨k, by omega, d + 1, nI_1 d, by omega, hR2, hfu.trans hfw⟩, fun z => absurd rfl z⟩
  · have : k = 0 := by
      rcases Nat.lt_or_ge d (h_nd H) with z | z
      · exact absurd ((n_lt (by omega) (by omega)).mpr z) h5
      · omega
    subst this
    rw [← hR2]
    rfl
