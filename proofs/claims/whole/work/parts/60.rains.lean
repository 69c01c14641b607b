/-! RAINS, on both sides -/
def rn_go (it : gF) (z a : Nat) : Nat → Nat → Int32 → gF → Int32 × gF
  | 0, _, c, ra => (c, ra)
  | k + 1, j, c, ra => if a + 2 * j + 2 ≤ z then (if g_in (it (a + 2 * j)) 0 23 ∧ g_in (it (a + 2 * j + 1)) 0 9 then rn_go it z a k (j + 1) (c + 1) (m_put ra (ix (it (a + 2 * j))) (it (a + 2 * j + 1))) else rn_go it z a k (j + 1) c ra) else (-12, ra)
def rn_all (it : gF) (sz fr n : Int32) (ra : gF) : Int32 × gF := if g_in fr 0 40 then rn_go it (ix sz) (ix fr) (ix n) 0 0 ra else if 0 < n then (-12, ra) else (0, ra)
def a_rains (so sz : gF) (it : Nat → gF) (sh so2 fr n : Int32) (ra : gF) : Int32 × gF := if g_in sh 0 3 ∧ g_in so2 0 2 ∧ g_in n 0 20 then (if so (ix sh) = -1 then (-11, ra) else if so (ix sh) = so2 then rn_all (it (ix sh)) (sz (ix sh)) fr n ra else (-13, ra)) else (-2, ra)
theorem rn_has {z P : Nat} (hz : z ≤ 40) (hP : P ≤ 200) : (g_in (nI P) 0 (nI z) ∧ g_in 2 0 (nI z - nI P)) ↔ P + 2 ≤ z := by
  have e : g_in (nI P) 0 (nI z) ↔ 0 ≤ P ∧ P ≤ z := n_in (a := P) (lo := 0) (hi := z) (by omega) (by omega) (by omega)
  rw [e]
  constructor
  · rintro ⟨⟨-, h1⟩, h2⟩
    rw [pk_sub h1] at h2
    have := ((n_in (a := 2) (lo := 0) (hi := z - P) (by omega) (by omega) (by omega)).mp h2).2
    omega
  · intro h
    refine ⟨⟨Nat.zero_le _, by omega⟩, ?_⟩
    rw [pk_sub (by omega)]
    exact (n_in (a := 2) (lo := 0) (hi := z - P) (by omega) (by omega) (by omega)).mpr ⟨Nat.zero_le _, by omega⟩
theorem n_idx (a j : Nat) : nI a + 2 * nI j = nI (a + 2 * j) := by
  have e : 2 * nI j = nI (2 * j) := pk_mul 2 j
  rw [e, nI_add]
theorem k_rainBy {h : Nat} (hh : 6 ≤ h) (σ : gS) {t : Nat} (ht : t < 4) {z N : Nat} (hz : σ (37 + 2 * t) 1 = nI z) (hz40 : z ≤ 40) (hN : N ≤ 20) (fr : Int32) {ra : gF} (hra : ∀ h, h < 24 → σ 2 h = ra h) : g_Met yX7_rainBy cX7_rainBy 9 (some .int) h kX [.ref 0, .ref (37 + 2 * t), .int fr, .int (nI N)] σ (fun rv s => rv = some (.int (rn_all (σ (38 + 2 * t)) (nI z) fr (nI N) ra).1) ∧ (∀ h, h < 24 → s 2 h = (rn_all (σ (38 + 2 * t)) (nI z) fr (nI N) ra).2 h) ∧ ∀ x, x ≠ 2 → s x = σ x) := by
  refine w_X7_rainBy (by omega) ht ?_
  unfold P_X7_rainBy rn_all
  by_cases hfr : g_in fr 0 40
  · obtain ⟨a, ha, rfl⟩ := n_of (M := 40) hfr (by decide)
    rw [if_pos hfr, ix_nI (by omega), ix_nI (by omega), ix_nI (by omega)]
    refine ⟨fun k c v s => ∃ j ra', v = nI j ∧ k + j = N ∧ rn_go (σ (38 + 2 * t)) z a k j c ra' = rn_go (σ (38 + 2 * t)) z a N 0 0 ra ∧ (∀ h, h < 24 → s 2 h = ra' h) ∧ ∀ x, x ≠ 2 → s x = σ x, ⟨N, 0, ra, rfl, rfl, rfl, hra, fun _ _ => rfl⟩, fun k c v s hI => ?_⟩
    obtain ⟨j, ra', rfl, hk, hR, hs, hf⟩ := hI
    refine ⟨fun g => ?_, fun g => ?_⟩
    · have hj := (n_lt (by omega) (by omega)).mp g
      obtain ⟨k, rfl⟩ : ∃ k', k = k' + 1 := ⟨k - 1, by omega⟩
      rw [n_idx]
      refine g_call.i (c_X4_hasAll s ht (nI (a + 2 * j)) 2) (by omega) (fun rv s2 hq => ?_)
      obtain ⟨rfl, rfl⟩ := hq
      rw [hf _ (by omega), hz, hf (38 + 2 * t) (by omega)]
      have hh2 := rn_has (z := z) (P := a + 2 * j) hz40 (by omega)
      by_cases w : a + 2 * j + 2 ≤ z
      · rw [if_pos (hh2.mpr w)]
        rw [rn_go, if_pos w] at hR
        refine ⟨_, rfl, fun y => absurd y (by decide), fun _ => ⟨a + 2 * j, rfl, by omega, a + 2 * j + 1, nI_1 _, by omega, fun g1 => ⟨fun g2 => ?_, fun g2 => ?_⟩, fun g1 => ?_⟩⟩
        · rw [if_pos ⟨g1, g2⟩] at hR
          obtain ⟨o, ho, eo⟩ := n_of (M := 23) g1 (by decide)
          refine ⟨o, eo, by omega, k, by omega, j + 1, _, nI_1 j, by omega, hR, fun h h24 => ?_, fun x hx => by rw [g_up_ne hx]; exact hf x hx⟩
          rw [eo, ix_nI (by omega)]
          by_cases e : h = o
          · subst e; rw [u_eq]; exact (if_pos rfl).symm
          · rw [u_ne e, hs h h24]; exact (if_neg e).symm
        · rw [if_neg (fun y => g2 y.2)] at hR
          exact ⟨k, by omega, j + 1, ra', nI_1 j, by omega, hR, hs, hf⟩
        · rw [if_neg (fun y => g1 y.1)] at hR
          exact ⟨k, by omega, j + 1, ra', nI_1 j, by omega, hR, hs, hf⟩
      · rw [if_neg (fun y => w (hh2.mp y))]
        rw [rn_go, if_neg w] at hR
        refine ⟨_, rfl, fun _ => ⟨by rw [← hR], ?_, hf⟩, fun y => absurd rfl y⟩
        rw [← hR]
        exact hs
    · have ej : k = 0 := by
        rcases Nat.lt_or_ge j N with y | y
        · exact absurd ((n_lt (by omega) (by omega)).mpr y) g
        · omega
      subst ej
      rw [rn_go] at hR
      rw [← hR]
      exact ⟨rfl, hs, hf⟩
  · rw [if_neg hfr]
    refine ⟨fun k c v s => k = 1 ∧ c = 0 ∧ v = 0 ∧ s = σ, ⟨1, rfl, rfl, rfl, rfl⟩, fun k c v s hI => ?_⟩
    obtain ⟨rfl, rfl, rfl, rfl⟩ := hI
    refine ⟨fun g => ?_, fun g => ?_⟩
    · rw [if_pos g]
      have e0 : fr + 2 * 0 = fr := by
        rw [show (2 : Int32) * 0 = 0 by decide, Int32.add_zero]
      rw [e0]
      refine g_call.i (c_X4_hasAll s ht fr 2) (by omega) (fun rv s2 hq => ?_)
      obtain ⟨rfl, rfl⟩ := hq
      rw [hz]
      have hno : ¬ (g_in fr 0 (nI z) ∧ g_in 2 0 (nI z - fr)) := fun y => hfr (by
        obtain ⟨q, hq1, rfl⟩ := n_of y.1 (by omega)
        exact (n_in (a := q) (lo := 0) (hi := 40) (by omega) (by omega) (by omega)).mpr ⟨Nat.zero_le _, by omega⟩)
      rw [if_neg hno]
      exact ⟨_, rfl, fun _ => ⟨rfl, hra, fun _ _ => rfl⟩, fun y => absurd rfl y⟩
    · rw [if_neg g]
      exact ⟨rfl, hra, fun _ _ => rfl⟩
theorem k_X7_rains {h : Nat} (hh : 8 ≤ h) (σ : gS) (hsz : ∀ t, t < 4 → ¬ x_so σ t = -1 → ∃ z, x_sz σ t = nI z ∧ z ≤ 40) {ra : gF} (hra : ∀ h, h < 24 → σ 2 h = ra h) (sh so fr n : Int32) : g_Met yX7_rains cX7_rains 6 (some .int) h kX [.ref 0, .int sh, .int so, .int fr, .int n] σ (fun rv s => rv = some (.int (a_rains (x_so σ) (x_sz σ) (fun t => σ (38 + 2 * t)) sh so fr n ra).1) ∧ (∀ h, h < 24 → s 2 h = (a_rains (x_so σ) (x_sz σ) (fun t => σ (38 + 2 * t)) sh so fr n ra).2 h) ∧ ∀ x, x ≠ 2 → s x = σ x) := by
  refine w_X7_rains (by omega) ?_
  unfold P_X7_rains a_rains
  refine ⟨fun h1 => ⟨fun h2 => ⟨fun h3 => ?_, fun h3 => ?_⟩, fun h2 => ?_⟩, fun h1 => ?_⟩
  · rw [if_pos ⟨h1, h2, h3⟩]
    obtain ⟨t, ht, rfl⟩ := n_of (M := 3) h1 (by decide)
    obtain ⟨N, hN, rfl⟩ := n_of (M := 20) h3 (by decide)
    rw [ix_nI (by omega)]
    refine ⟨t, rfl, by omega, fun h4 => ?_, fun h4 => ⟨fun h5 => ?_, fun h5 => ?_⟩⟩
    · rw [if_pos (show x_so σ t = -1 from h4)]
      exact ⟨rfl, hra, fun _ _ => rfl⟩
    · rw [if_neg (show ¬ x_so σ t = -1 from h4), if_pos (show x_so σ t = so from h5)]
      obtain ⟨z, hz, hz40⟩ := hsz t (by omega) h4
      rw [hz]
      refine g_call.i (k_rainBy (h := 6) (by omega) σ (t := t) (by omega) hz hz40 hN fr hra) (by omega) (fun rv s hq => ?_)
      obtain ⟨rfl, q1, q2⟩ := hq
      exact ⟨_, rfl, rfl, q1, q2⟩
    · rw [if_neg (show ¬ x_so σ t = -1 from h4), if_neg (show ¬ x_so σ t = so from h5)]
      exact ⟨rfl, hra, fun _ _ => rfl⟩
  · rw [if_neg (fun y => h3 y.2.2)]
    exact ⟨rfl, hra, fun _ _ => rfl⟩
  · rw [if_neg (fun y => h2 y.2.1)]
    exact ⟨rfl, hra, fun _ _ => rfl⟩
  · rw [if_neg (fun y => h1 y.1)]
    exact ⟨rfl, hra, fun _ _ => rfl⟩
theorem rn_neg {z j : Nat} (hz : z ≤ 40) (hj : j ≤ 20) : (2 * j + 2 ≤ z → nI z - 2 * nI j - 2 = nI (z - (2 * j + 2))) ∧ (z < 2 * j + 2 → nI z - 2 * nI j - 2 < 0) := by
  have H : ∀ z : Fin 41, ∀ j : Fin 21, (2 * j.val + 2 ≤ z.val → nI z.val - 2 * nI j.val - 2 = nI (z.val - (2 * j.val + 2))) ∧ (z.val < 2 * j.val + 2 → nI z.val - 2 * nI j.val - 2 < 0) := by decide +kernel
  exact H ⟨z, by omega⟩ ⟨j, by omega⟩
theorem rn_lt {z j a : Nat} (hz : z ≤ 40) (hj : j ≤ 20) (ha : a ≤ 40) : nI z - 2 * nI j - 2 < nI a ↔ ¬ a + 2 * j + 2 ≤ z := by
  obtain ⟨h1, h2⟩ := rn_neg hz hj
  by_cases w : 2 * j + 2 ≤ z
  · rw [h1 w, n_lt (by omega) (by omega)]
    omega
  · have h3 := h2 (by omega)
    rw [Int32.lt_iff_toInt_lt] at h3 ⊢
    have e0 : (0 : Int32).toInt = 0 := rfl
    have ea : (nI a).toInt = (a : Int) := nI_toInt (by omega)
    constructor
    · intro _; omega
    · intro _; omega
theorem rn_out {z : Nat} (hz : z ≤ 40) {fr : Int32} (h : ¬ g_in fr 0 40) (h0 : ¬ fr < 0) : nI z - 2 * 0 - 2 < fr := by
  have e0 : (0 : Int32).toInt = 0 := rfl
  have e40 : (40 : Int32).toInt = 40 := rfl
  have hb : (40 : Int32) < fr := Decidable.of_not_not (fun y => h ⟨h0, y⟩)
  have hz2 : ∀ z : Fin 41, (nI z.val - 2 * 0 - 2).toInt ≤ 40 := by decide +kernel
  have := hz2 ⟨z, by omega⟩
  rw [Int32.lt_iff_toInt_lt] at hb ⊢
  have this' : (nI z - 2 * 0 - 2).toInt ≤ 40 := this
  omega
theorem k_M_rains {h : Nat} (hh : 6 ≤ h) (σ : gS) {so sz : gF} {it : Nat → gF} (hs : msh σ so sz it) {ra : gF} (hra : ∀ h, h < 24 → σ 67 h = ra h) (hok : ∀ h, h < 24 → ∃ q, ra h = nI q ∧ q ≤ 9) (sh so2 fr n : Int32) : g_Met yX8_rains cX8_rains 8 (some .int) h kM [.ref 63, .int sh, .int so2, .int fr, .int n] σ (fun rv s => rv = some (.int (a_rains so sz it sh so2 fr n ra).1) ∧ (∀ h, h < 24 → s 67 h = (a_rains so sz it sh so2 fr n ra).2 h) ∧ ∀ x, x ≠ 67 → s x = σ x) := by
  refine w_X8_rains (by omega) ?_
  unfold P_X8_rains a_rains
  refine ⟨fun h1 => ⟨fun h2 => ⟨fun h3 => ?_, fun h3 => ?_⟩, fun h2 => ?_⟩, fun h1 => ?_⟩
  · rw [if_pos ⟨h1, h2, h3⟩]
    obtain ⟨t, ht, rfl⟩ := n_of (M := 3) h1 (by decide)
    obtain ⟨N, hN, rfl⟩ := n_of (M := 20) h3 (by decide)
    rw [ix_nI (by omega)]
    rcases hs t (by omega) with ⟨m1, m2⟩ | ⟨m1, m2, m3, m4, z, m5, m6, m7⟩
    · rw [if_pos m2]
      exact ⟨t, rfl, by omega, True, ⟨fun _ => trivial, fun y => absurd m1 y⟩, fun _ => ⟨fun _ => ⟨rfl, hra, fun _ _ => rfl⟩, fun y => absurd m1 y⟩⟩
    have n86 : ¬ σ 86 t = 0 := fun y => by rw [m1] at y; exact absurd y (by decide)
    rw [if_neg m2]
    refine ⟨t, rfl, by omega, so t = so2, ⟨fun y => absurd y n86, fun _ => ⟨fun y => m3.symm.trans y, fun y => ?_⟩⟩, fun hJ => ⟨fun y => absurd y n86, fun _ => ?_⟩⟩
    · rw [if_neg (fun w => y (m3.trans w))]
      exact ⟨rfl, hra, fun _ _ => rfl⟩
    rw [if_pos hJ, m5]
    unfold rn_all
    by_cases hfr : g_in fr 0 40
    · obtain ⟨a, ha, rfl⟩ := n_of (M := 40) hfr (by decide)
      rw [if_pos hfr, ix_nI (by omega), ix_nI (by omega), ix_nI (by omega)]
      refine ⟨fun k c v s => ∃ j ra', v = nI j ∧ k + j = N ∧ rn_go (it t) z a k j c ra' = rn_go (it t) z a N 0 0 ra ∧ (∀ h, h < 24 → s 67 h = ra' h) ∧ (∀ h, h < 24 → ∃ q, ra' h = nI q ∧ q ≤ 9) ∧ ∀ x, x ≠ 67 → s x = σ x, ⟨N, 0, ra, rfl, rfl, rfl, hra, hok, fun _ _ => rfl⟩, fun k c v s hI => ?_⟩
      obtain ⟨j, ra', rfl, hk, hR, hs2, hok2, hf⟩ := hI
      have e88 : s 88 t = nI z := by rw [hf 88 (by decide), m4, m5]
      have e89 : s 89 = σ 89 := hf 89 (by decide)
      refine ⟨fun g => ⟨fun g1 => ?_, fun _ => ?_⟩, fun g => ?_⟩
      · exact absurd ((n_lt (a := a) (b := 0) (by omega) (by omega)).mp g1) (by omega)
      · have hj := (n_lt (by omega) (by omega)).mp g
        obtain ⟨k, rfl⟩ : ∃ k', k = k' + 1 := ⟨k - 1, by omega⟩
        rw [e88, e89]
        have hlt := rn_lt (z := z) (j := j) (a := a) m6 (by omega) ha
        refine ⟨fun g2 => ?_, fun g2 => ?_⟩
        · have w := hlt.mp g2
          rw [rn_go, if_neg w] at hR
          refine ⟨by rw [← hR], ?_, hf⟩
          rw [← hR]
          exact hs2
        · have w : a + 2 * j + 2 ≤ z := Decidable.of_not_not (fun y => g2 (hlt.mpr y))
          rw [rn_go, if_pos w] at hR
          have e1 : 40 * nI t + nI a + 2 * nI j = nI (40 * t + (a + 2 * j)) := by
            have e : 40 * nI t = nI (40 * t) := pk_mul 40 t
            rw [e, nI_add, n_idx]
            congr 1
            omega
          refine ⟨40 * t + (a + 2 * j), e1, by omega, 40 * t + (a + 2 * j + 1), by rw [e1, nI_1]; congr 1, by omega, ?_⟩
          rw [m7 (a + 2 * j) (by omega), m7 (a + 2 * j + 1) (by omega)]
          refine g_call.i (c_X8_set0 s (it t (a + 2 * j)) (it t (a + 2 * j + 1))) (by omega) (fun rv s2 hq => ?_)
          obtain ⟨rfl, rfl⟩ := hq
          by_cases w2 : g_in (it t (a + 2 * j)) 0 23 ∧ g_in (it t (a + 2 * j + 1)) 0 9
          · rw [if_pos w2] at hR
            obtain ⟨o, ho, eo⟩ := n_of (M := 23) w2.1 (by decide)
            obtain ⟨q9, hq9, e9⟩ := n_of (M := 9) w2.2 (by decide)
            obtain ⟨q, eq, hq⟩ := hok2 o (by omega)
            have eold : s 67 (ix (it t (a + 2 * j))) = nI q := by rw [eo, ix_nI (by omega), hs2 o (by omega), eq]
            rw [if_pos w2, if_pos w2, eold]
            refine ⟨_, rfl, k, by omega, j + 1, m_put ra' (ix (it t (a + 2 * j))) (it t (a + 2 * j + 1)), nI_1 j, by omega, ?_, fun h h24 => ?_, fun h h24 => ?_, fun x hx => by rw [g_up_ne hx]; exact hf x hx⟩
            · rw [if_neg (show ¬ nI q < 0 from fun y => absurd ((n_lt (a := q) (b := 0) (by omega) (by omega)).mp y) (by omega))]
              exact hR
            · rw [eo, ix_nI (by omega)]
              by_cases e : h = o
              · subst e; rw [u_eq]; exact (if_pos rfl).symm
              · rw [u_ne e, hs2 h h24]; exact (if_neg e).symm
            · by_cases e : h = ix (it t (a + 2 * j))
              · exact ⟨q9, (if_pos e).trans e9, hq9⟩
              · obtain ⟨q', e', h'⟩ := hok2 h h24
                exact ⟨q', (if_neg e).trans e', h'⟩
          · rw [if_neg w2] at hR
            rw [if_neg w2, if_neg w2]
            refine ⟨_, rfl, k, by omega, j + 1, ra', nI_1 j, by omega, ?_, hs2, hok2, hf⟩
            rw [if_pos (by decide), Int32.add_zero]
            exact hR
      · have ej : k = 0 := by
          rcases Nat.lt_or_ge j N with y | y
          · exact absurd ((n_lt (by omega) (by omega)).mpr y) g
          · omega
        subst ej
        rw [rn_go] at hR
        rw [← hR]
        exact ⟨rfl, hs2, hf⟩
    · rw [if_neg hfr]
      refine ⟨fun k c v s => k = 1 ∧ c = 0 ∧ v = 0 ∧ s = σ, ⟨1, rfl, rfl, rfl, rfl⟩, fun k c v s hI => ?_⟩
      obtain ⟨rfl, rfl, rfl, rfl⟩ := hI
      refine ⟨fun g => ⟨fun g1 => ?_, fun g1 => ⟨fun g2 => ?_, fun g2 => ?_⟩⟩, fun g => ?_⟩
      · rw [if_pos g]
        exact ⟨rfl, hra, fun _ _ => rfl⟩
      · rw [if_pos g]
        exact ⟨rfl, hra, fun _ _ => rfl⟩
      · rw [m4, m5] at g2
        exact absurd (rn_out m6 hfr g1) g2
      · rw [if_neg g]
        exact ⟨rfl, hra, fun _ _ => rfl⟩
  · rw [if_neg (fun y => h3 y.2.2)]
    exact ⟨rfl, hra, fun _ _ => rfl⟩
  · rw [if_neg (fun y => h2 y.2.1)]
    exact ⟨rfl, hra, fun _ _ => rfl⟩
  · rw [if_neg (fun y => h1 y.1)]
    exact ⟨rfl, hra, fun _ _ => rfl⟩
