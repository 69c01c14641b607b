/-! SHOWERS: where, amount, lay and their kin -/
abbrev gF : Type := Nat → Int32
/-- rule and text of the class's side, as a function of part, most and names -/
def x_tx (σ : gS) (t : Nat) (T : Nat → Int32 → gF → Int32) : Prop := σ 23 0 = nI t ∧ m_tok σ t ∧ ∀ pa, pa < 3 → ∀ mo nm, m_tell σ t pa mo nm = T pa mo nm
theorem x_tx.same {σ s : gS} {t : Nat} {T : Nat → Int32 → gF → Int32} (h : x_tx σ t T) (h0 : s 23 0 = σ 23 0) (h1 : s (46 + 3 * t) = σ (46 + 3 * t)) (h2 : s (47 + 3 * t) = σ (47 + 3 * t)) : x_tx s t T := by
  obtain ⟨a, b, c⟩ := h
  obtain ⟨d, e⟩ := b.same h1 h2
  exact ⟨h0.trans a, d, fun pa hp mo nm => (e pa mo nm).trans (c pa hp mo nm)⟩
theorem m_cl_in {M : Nat} (hM : M ≤ 1000000) (v : Int32) : ∃ q, q ≤ M ∧ m_cl (nI M) v = nI q := by
  unfold m_cl
  have hM0 : (nI M).toInt = (M : Int) := nI_toInt (by omega)
  have h0 : (0 : Int32).toInt = 0 := rfl
  by_cases h1 : v < nI M
  · rw [if_pos h1]
    by_cases h2 : 0 < v
    · rw [if_pos h2]
      obtain ⟨a, ha, e⟩ := n_of (x := v) (M := M) ⟨fun z => by rw [Int32.lt_iff_toInt_lt] at z h2; omega, fun z => by rw [Int32.lt_iff_toInt_lt] at z h1; omega⟩ hM
      exact ⟨a, ha, e⟩
    · rw [if_neg h2]
      exact ⟨0, Nat.zero_le _, rfl⟩
  · rw [if_neg h1]
    by_cases h2 : 0 < nI M
    · rw [if_pos h2]
      exact ⟨M, Nat.le_refl _, rfl⟩
    · rw [if_neg h2]
      exact ⟨0, Nat.zero_le _, rfl⟩
theorem x_tx.bd {σ : gS} {t : Nat} {T : Nat → Int32 → gF → Int32} (h : x_tx σ t T) {M : Nat} (hM : M ≤ 1000000) (pa : Nat) (hp : pa < 3) (nm : gF) : ∃ q, q ≤ M ∧ T pa (nI M) nm = nI q := by
  rw [← h.2.2 pa hp]
  exact m_cl_in hM _
def m_r8 (x : Int32) : Int32 := x - x / 8 * 8
def m_wh (kd nu pl ra : gF) (d h : Nat) : Int32 := if kd d = 2 then (if nu d < ra h then m_r8 (pl d + 1) else pl d) else if kd d = 4 then m_r8 (nu d) else pl d
def m_wd (nu ra v : Int32) : Int32 := if nu < ra then v / 2 else v
def m_amt (kd nu v ra hr : Int32) : Int32 := if kd = 1 then v + 1 else if kd = 2 then m_wd nu ra v else if kd = 3 then (if hr < nu then 0 else 2 * (v + 1)) else if kd = 4 then (if m_wd nu ra v < 9 then m_wd nu ra v else 9) else if kd = 5 then (if hr < 12 then 0 else v + 1) else v
/-- what drip d falls in hour h on place p, if there -/
def m_A (T : Nat → Int32 → gF → Int32) (kd nu rt ra : gF) (d h : Nat) (p : Int32) : Int32 := m_amt (kd d) (nu d) (T 0 99 (m_nm (ra h) (nI h) p (rt d) 0 0)) (ra h) (nI h)
def m_sg (f : gF) : Nat → Int32
  | 0 => 0
  | k + 1 => m_sg f k + f k
theorem m_sg_ext {f g : gF} : ∀ {k : Nat}, (∀ d, d < k → f d = g d) → m_sg f k = m_sg g k
  | 0, _ => rfl
  | k + 1, h => by rw [m_sg, m_sg, m_sg_ext (fun d hd => h d (by omega)), h k (by omega)]
theorem T_nm (σ : gS) (t pa : Nat) (mo : Int32) {nm nm' : gF} (h : ∀ j, j < 6 → nm j = nm' j) : m_tell σ t pa mo nm = m_tell σ t pa mo nm' := by
  rw [m_tell, m_tell, e_run_nm h]
/-- name and tells at once -/
theorem k_where {h : Nat} (hh : 6 ≤ h) (σ : gS) {d hr : Nat} (hd : d < 6) (hr24 : hr < 24) : g_Met yX5_where cX5_where 4 (some .int) h kX [.ref 33, .int (nI d), .int (nI hr)] σ (fun rv s => rv = some (.int (m_wh (σ 3) (σ 4) (σ 6) (σ 34) d hr)) ∧ s = σ) := by
  refine w_X5_where hh ?_
  unfold P_X5_where
  refine ⟨d, rfl, hd, fun h1 => ⟨hr, rfl, hr24, fun h2 => ⟨?_, rfl⟩, fun h2 => ⟨?_, rfl⟩⟩, fun h1 => ⟨fun h2 => ⟨?_, rfl⟩, fun h2 => ⟨?_, rfl⟩⟩⟩
  · rw [m_wh, if_pos h1, if_pos h2]; rfl
  · rw [m_wh, if_pos h1, if_neg h2]
  · rw [m_wh, if_neg h1, if_pos h2]; rfl
  · rw [m_wh, if_neg h1, if_neg h2]
theorem k_steady {h : Nat} (hh : 6 ≤ h) (σ : gS) (v : Int32) : g_Met yX5_steady cX5_steady 1 (some .int) h kX [.int v] σ (fun rv s => rv = some (.int (v + 1)) ∧ s = σ) := by
  refine w_X5_steady hh ?_
  exact ⟨rfl, rfl⟩
theorem k_wandering {h : Nat} (hh : 6 ≤ h) (σ : gS) (v ra nu : Int32) : g_Met yX5_wandering cX5_wandering 3 (some .int) h kX [.int v, .int ra, .int nu] σ (fun rv s => rv = some (.int (m_wd nu ra v)) ∧ s = σ) := by
  refine w_X5_wandering hh ?_
  unfold P_X5_wandering
  refine ⟨fun h1 => ⟨by rw [m_wd, if_pos h1], rfl⟩, fun h1 => ⟨by rw [m_wd, if_neg h1], rfl⟩⟩
theorem k_amount {h : Nat} (hh : 10 ≤ h) (σ : gS) {d hr t : Nat} {T : Nat → Int32 → gF → Int32} (p : Int32) (hd : d < 6) (hr24 : hr < 24) (hx : x_tx σ t T) : g_Met yX5_amount cX5_amount 6 (some .int) h kX [.ref 33, .int (nI d), .int (nI hr), .int p] σ (fun rv s => rv = some (.int (m_A T (σ 3) (σ 4) (σ 5) (σ 34) d hr p)) ∧ ∀ a, a ≠ 24 → a ≠ 25 → s a = σ a) := by
  refine w_X5_amount (by omega) ?_
  unfold P_X5_amount
  refine ⟨hr, rfl, hr24, d, rfl, hd, g_call.i (k_X3_name (h := 6) (by omega) σ _ _ _ _ _ _) (by omega) (fun rv s1 hq => ?_)⟩
  obtain ⟨rfl, hn, hf⟩ := hq
  have hx1 : x_tx s1 t T := hx.same (by rw [hf 23 (by decide)]) (hf _ (by omega)) (hf _ (by omega))
  refine ⟨rfl, g_call.i (k_X3_tells (h := 8) (by omega) s1 (t := t) (pa := 0) 99 hx1.1 hx1.2.1 (by decide)) (by omega) (fun rv s2 hq => ?_)⟩
  obtain ⟨rfl, hf2⟩ := hq
  have e : m_tell s1 t 0 99 (s1 24) = T 0 99 (m_nm (σ 34 hr) (nI hr) p (σ 5 d) 0 0) := by
    rw [T_nm s1 t 0 99 hn, hx1.2.2 0 (by decide)]
  have hff : ∀ a, a ≠ 24 → a ≠ 25 → s2 a = σ a := fun a h1 h2 => (hf2 a h2).trans (hf a h1)
  refine ⟨_, rfl, ?_⟩
  rw [hff 3 (by decide) (by decide), hff 4 (by decide) (by decide), hff 34 (by decide) (by decide), e]
  generalize hv : T 0 99 (m_nm (σ 34 hr) (nI hr) p (σ 5 d) 0 0) = v
  unfold m_A
  rw [hv]
  refine ⟨fun h1 => g_call.i (k_steady (h := 6) (by omega) s2 v) (by omega) (fun rv s hq => ?_), fun h1 => ⟨fun h2 => g_call.i (k_wandering (h := 6) (by omega) s2 v _ _) (by omega) (fun rv s hq => ?_), fun h2 => ⟨fun h3 => ⟨fun h4 => ?_, fun h4 => g_call.i (k_steady (h := 6) (by omega) s2 v) (by omega) (fun rv s hq => ?_)⟩, fun h3 => ⟨fun h4 => g_call.i (k_wandering (h := 6) (by omega) s2 v _ _) (by omega) (fun rv s hq => ?_), fun h4 => ⟨fun h5 => ⟨fun h6 => ?_, fun h6 => g_call.i (k_steady (h := 6) (by omega) s2 v) (by omega) (fun rv s hq => ?_)⟩, fun h5 => ?_⟩⟩⟩⟩⟩
  · obtain ⟨rfl, rfl⟩ := hq
    exact ⟨_, rfl, by rw [m_amt, if_pos h1], hff⟩
  · obtain ⟨rfl, rfl⟩ := hq
    exact ⟨_, rfl, by rw [m_amt, if_neg h1, if_pos h2], hff⟩
  · exact ⟨by rw [m_amt, if_neg h1, if_neg h2, if_pos h3, if_pos h4], hff⟩
  · obtain ⟨rfl, rfl⟩ := hq
    exact ⟨_, rfl, by rw [m_amt, if_neg h1, if_neg h2, if_pos h3, if_neg h4], hff⟩
  · obtain ⟨rfl, rfl⟩ := hq
    exact ⟨_, rfl, by rw [m_amt, if_neg h1, if_neg h2, if_neg h3, if_pos h4], hff⟩
  · exact ⟨by rw [m_amt, if_neg h1, if_neg h2, if_neg h3, if_neg h4, if_pos h5, if_pos h6], hff⟩
  · obtain ⟨rfl, rfl⟩ := hq
    exact ⟨_, rfl, by rw [m_amt, if_neg h1, if_neg h2, if_neg h3, if_neg h4, if_pos h5, if_neg h6], hff⟩
  · exact ⟨by rw [m_amt, if_neg h1, if_neg h2, if_neg h3, if_neg h4, if_neg h5], hff⟩
/-- where it falls in thought -/
def m_W (kd nu pl ra : gF) (led ledTo : Int32) (d h : Nat) : Int32 := if nI d = led then ledTo else m_wh kd nu pl ra d h
/-- what drip d gives to place p in hour h -/
def m_ct (T : Nat → Int32 → gF → Int32) (kd nu rt pl ra tm : gF) (led ledTo : Int32) (h p d : Nat) : Int32 := if 0 < tm d ∧ m_W kd nu pl ra led ledTo d h = nI p then tm d * m_A T kd nu rt ra d h (nI p) else 0
def x_ct (T : Nat → Int32 → gF → Int32) (σ : gS) (h p d : Nat) : Int32 := m_ct T (σ 3) (σ 4) (σ 5) (σ 6) (σ 34) (σ 35) (σ 33 4) (σ 33 5) h p d
theorem k_S_lay {h : Nat} (hh : 12 ≤ h) (σ : gS) {t : Nat} {T : Nat → Int32 → gF → Int32} (hx : x_tx σ t T) : g_Met yX5_lay cX5_lay 4 none h kX [.ref 33] σ (fun rv s => rv = none ∧ (∀ hr p, hr < 24 → p < 8 → s 36 (8 * hr + p) = m_sg (x_ct T σ hr p) 6) ∧ ∀ a, a ≠ 24 → a ≠ 25 → a ≠ 36 → s a = σ a) := by
  refine w_X5_lay (by omega) ?_
  unfold P_X5_lay
  refine ⟨fun k v s => ∃ i, v = nI i ∧ k + i = 192 ∧ (∀ q, q < i → s 36 q = 0) ∧ ∀ a, a ≠ 36 → s a = σ a, ⟨192, 0, rfl, rfl, fun q hq => absurd hq (Nat.not_lt_zero q), fun a _ => rfl⟩, fun k v s hI => ?_⟩
  obtain ⟨i, rfl, hk, hz, hf⟩ := hI
  refine ⟨fun h1 => ?_, fun h1 => ?_⟩
  · have hi := (n_lt (b := 192) (by omega) (by omega)).mp h1
    refine ⟨i, rfl, hi, k - 1, by omega, i + 1, nI_1 i, by omega, fun q hq => ?_, fun a ha => by rw [g_up_ne ha]; exact hf a ha⟩
    rw [g_up_same]
    by_cases e : q = i
    · simp [e]
    · simp only [if_neg e]; exact hz q (by omega)
  · have hi : 192 ≤ i := by
      rcases Nat.lt_or_ge i 192 with z | z
      · exact absurd ((n_lt (b := 192) (by omega) (by omega)).mpr z) h1
      · exact z
    have fr0 : ∀ a, a ≠ 24 → a ≠ 25 → a ≠ 36 → s a = σ a := fun a _ _ ha => hf a ha
    refine ⟨fun k v s => ∃ d, v = nI d ∧ k + d = 6 ∧ (∀ hr p, hr < 24 → p < 8 → s 36 (8 * hr + p) = m_sg (x_ct T σ hr p) d) ∧ ∀ a, a ≠ 24 → a ≠ 25 → a ≠ 36 → s a = σ a, ⟨6, 0, rfl, rfl, fun hr p _ _ => hz _ (by omega), fr0⟩, fun k v s hI => ?_⟩
    obtain ⟨d, rfl, hk, hs, hf⟩ := hI
    refine ⟨fun h1 => ?_, fun h1 => ?_⟩
    · have hd := (n_lt (b := 6) (by omega) (by omega)).mp h1
      refine ⟨fun k2 v s => ∃ hr, v = nI hr ∧ k2 + hr = 24 ∧ (∀ h' p, h' < 24 → p < 8 → s 36 (8 * h' + p) = if h' < hr then m_sg (x_ct T σ h' p) (d + 1) else m_sg (x_ct T σ h' p) d) ∧ ∀ a, a ≠ 24 → a ≠ 25 → a ≠ 36 → s a = σ a, ⟨24, 0, rfl, rfl, fun h' p a b => by rw [if_neg (Nat.not_lt_zero _)]; exact hs h' p a b, hf⟩, fun k2 v s hI => ?_⟩
      obtain ⟨hr, rfl, hk2, hs, hf⟩ := hI
      refine ⟨fun h2 => ?_, fun h2 => ?_⟩
      · have hr24 := (n_lt (b := 24) (by omega) (by omega)).mp h2
        have f35 := hf 35 (by decide) (by decide) (by decide)
        have f33 := hf 33 (by decide) (by decide) (by decide)
        have f34 := hf 34 (by decide) (by decide) (by decide)
        have f3 := hf 3 (by decide) (by decide) (by decide)
        have f4 := hf 4 (by decide) (by decide) (by decide)
        have f5 := hf 5 (by decide) (by decide) (by decide)
        have f6 := hf 6 (by decide) (by decide) (by decide)
        refine ⟨d, rfl, hd, ?_⟩
        rw [f35, f33]
        refine ⟨fun h3 => ⟨fun w s' => w = m_W (σ 3) (σ 4) (σ 6) (σ 34) (σ 33 4) (σ 33 5) d hr ∧ s' = s, ⟨fun h4 => ⟨by rw [m_W, if_pos h4], rfl⟩, fun h4 => g_call.i (k_where (h := 6) (by omega) s hd hr24) (by omega) (fun rv s' hq => ?_)⟩, fun w s' hJ => ?_⟩, fun h3 => ?_⟩
        · obtain ⟨rfl, rfl⟩ := hq
          refine ⟨_, rfl, ?_, rfl⟩
          rw [m_W, if_neg h4, f3, f4, f6, f34]
        · obtain ⟨hw, rfl⟩ := hJ
          refine ⟨fun h4 => ?_, fun h4 => ?_⟩
          · obtain ⟨p, hp, rfl⟩ := n_of (M := 7) h4 (by decide)
            have hx1 : x_tx s' t T := hx.same (by rw [hf 23 (by decide) (by decide) (by decide)]) (hf _ (by omega) (by omega) (by omega)) (hf _ (by omega) (by omega) (by omega))
            refine ⟨8 * hr + p, n_mul8 hr p, by omega, g_call.i (k_amount (h := 10) (by omega) s' (nI p) hd hr24 hx1) (by omega) (fun rv s2 hq => ?_)⟩
            obtain ⟨rfl, hf2⟩ := hq
            rw [f3, f4, f5, f34]
            refine ⟨_, rfl, k2 - 1, by omega, hr + 1, nI_1 hr, by omega, fun h' p' a b => ?_, fun a h1 h2 h3 => by rw [g_up_ne h3, hf2 a h1 h2]; exact hf a h1 h2 h3⟩
            have hv : ∀ p', p' < 8 → x_ct T σ hr p' d = if p' = p then σ 35 d * m_A T (σ 3) (σ 4) (σ 5) (σ 34) d hr (nI p) else 0 := by
              intro p' hp'
              unfold x_ct m_ct
              rw [← hw]
              by_cases e : p' = p
              · subst e; rw [if_pos rfl, if_pos ⟨h3, rfl⟩]
              · rw [if_neg e, if_neg (fun z => e ((n_eq (by omega) (by omega)).mp z.2).symm)]
            by_cases e : 8 * h' + p' = 8 * hr + p
            · have eh : h' = hr := by omega
              have ep : p' = p := by omega
              subst eh ep
              rw [u_eq, if_pos (by omega), m_sg, hv _ b, if_pos rfl, hs _ _ a b, if_neg (by omega), f35]
            · rw [u_ne e, hf2 36 (by decide) (by decide), hs _ _ a b]
              by_cases eh : h' = hr
              · subst eh
                rw [if_neg (by omega), if_pos (by omega), m_sg, hv _ b, if_neg (by omega), Int32.add_zero]
              · by_cases e2 : h' < hr
                · rw [if_pos e2, if_pos (by omega)]
                · rw [if_neg e2, if_neg (by omega)]
          · refine ⟨k2 - 1, by omega, hr + 1, nI_1 hr, by omega, fun h' p' a b => ?_, hf⟩
            have hv : ∀ p', p' < 8 → x_ct T σ hr p' d = 0 := by
              intro p' hp'
              unfold x_ct m_ct
              rw [← hw]
              exact if_neg (fun z => h4 (by rw [z.2]; exact (n_in (lo := 0) (hi := 7) (by omega) (by omega) (by omega)).mpr (by omega)))
            rw [hs _ _ a b]
            by_cases eh : h' = hr
            · subst eh
              rw [if_neg (by omega), if_pos (by omega), m_sg, hv _ b, Int32.add_zero]
            · by_cases e2 : h' < hr
              · rw [if_pos e2, if_pos (by omega)]
              · rw [if_neg e2, if_neg (by omega)]
        · refine ⟨k - 1, by omega, d + 1, nI_1 d, by omega, fun h' p' a b => ?_, hf⟩
          have hv : x_ct T σ h' p' d = 0 := by
            unfold x_ct m_ct
            exact if_neg (fun z => h3 z.1)
          rw [hs _ _ a b]
          split
          · rfl
          · rw [m_sg, hv, Int32.add_zero]
      · refine ⟨k - 1, by omega, d + 1, nI_1 d, by omega, fun h' p' a b => ?_, hf⟩
        have : hr = 24 := by
          rcases Nat.lt_or_ge hr 24 with z | z
          · exact absurd ((n_lt (b := 24) (by omega) (by omega)).mpr z) h2
          · omega
        rw [hs _ _ a b, if_pos (by omega)]
    · have : d = 6 := by
        rcases Nat.lt_or_ge d 6 with z | z
        · exact absurd ((n_lt (b := 6) (by omega) (by omega)).mpr z) h1
        · omega
      subst this
      exact ⟨rfl, hs, hf⟩
