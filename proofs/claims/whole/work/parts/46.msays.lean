/-! A TEXT'S MEANING; the reference's says, where, fallsOn, pour -/
def p_seg (l : Nat → Int32) (pa : Nat) : List Int32 := if pa = 0 then p_cd (p_1 l) else if pa = 1 then (p_cd (p_2 l)).drop (p_cd (p_1 l)).length else (p_cd (p_3 l)).drop (p_cd (p_2 l)).length
/-- what the text of letters l tells -/
def t_of (l : Nat → Int32) : mT := fun pa mo nm => m_cl mo ((e_run nm (p_seg l pa) []).headD 0)
theorem t_of_ok (l : Nat → Int32) : t_ok (t_of l) := fun pa _ nm hM => m_cl_in hM _
/-- the reference's text -/
def my_tx (s : gS) (t : Nat) (T : mT) : Prop := ∃ b n, mtx b n t s ∧ s 63 4 = nI t ∧ p_fa (p_end (q_l b n)) = none ∧ T = t_of (q_l b n)
theorem my_tx.zfr {σ s : gS} {t : Nat} {T : mT} (h : my_tx σ t T) (e4 : s 63 4 = σ 63 4) (e64 : s 64 = σ 64) (e65 : s 65 = σ 65) : my_tx s t T := by
  obtain ⟨b, n, ⟨a1, a2, a3, a4, a5⟩, h2, h3, h4⟩ := h
  exact ⟨b, n, ⟨a1, a2, by rw [e65]; exact a3, fun i hi => by rw [e64]; exact a4 i hi, a5⟩, e4.trans h2, h3, h4⟩
theorem m_cl_eq {M : Nat} (hM : M ≤ 1000000) (r : Int32) : (if r < 0 then 0 else (if nI M < r then nI M else r)) = m_cl (nI M) r := by
  have e0 : (0 : Int32).toInt = 0 := rfl
  have eM : (nI M).toInt = (M : Int) := nI_toInt (by omega)
  unfold m_cl
  by_cases h1 : r < 0
  · have h1' := h1
    rw [Int32.lt_iff_toInt_lt] at h1'
    have h2 : r < nI M ∨ ¬ r < nI M := Decidable.em _
    rw [if_pos h1]
    rcases h2 with h2 | h2
    · rw [if_pos h2, if_neg (by rw [Int32.lt_iff_toInt_lt]; omega)]
    · exact absurd (by rw [Int32.lt_iff_toInt_lt]; omega) h2
  · have h1' := h1
    rw [Int32.lt_iff_toInt_lt] at h1'
    rw [if_neg h1]
    by_cases h2 : nI M < r
    · have h2' := h2
      rw [Int32.lt_iff_toInt_lt] at h2'
      have h3 : ¬ r < nI M := by rw [Int32.lt_iff_toInt_lt]; omega
      rw [if_pos h2, if_neg h3]
      by_cases h4 : (0 : Int32) < nI M
      · rw [if_pos h4]
      · have h4' := h4
        rw [Int32.lt_iff_toInt_lt] at h4'
        rw [if_neg h4]
        exact Int32.toInt_inj.mp (by omega)
    · have h2' := h2
      rw [Int32.lt_iff_toInt_lt] at h2'
      rw [if_neg h2]
      by_cases h3 : r < nI M
      · rw [if_pos h3]
        by_cases h4 : (0 : Int32) < r
        · rw [if_pos h4]
        · have h4' := h4
          rw [Int32.lt_iff_toInt_lt] at h4'
          rw [if_neg h4]
          exact Int32.toInt_inj.mp (by omega)
      · have h3' := h3
        rw [Int32.lt_iff_toInt_lt] at h3'
        rw [if_neg h3]
        by_cases h4 : (0 : Int32) < nI M
        · rw [if_pos h4]
          exact Int32.toInt_inj.mp (by omega)
        · have h4' := h4
          rw [Int32.lt_iff_toInt_lt] at h4'
          rw [if_neg h4]
          exact Int32.toInt_inj.mp (by omega)
theorem p_seg_val {l : Nat → Int32} {nm : gF} {v0 v1 v2 : Int32} (h0 : p_val nm (p_start l) (p_1 l) v0) (h1 : p_val nm (p_1 l) (p_2 l) v1) (h2 : p_val nm (p_2 l) (p_3 l) v2) {w : Nat} (hw : w < 3) : (e_run nm (p_seg l w) []).headD 0 = if w = 0 then v0 else if w = 1 then v1 else v2 := by
  unfold p_seg
  by_cases w0 : w = 0
  · rw [if_pos w0, if_pos w0]
    obtain ⟨c, e, hc⟩ := h0
    rw [e, show p_cd (p_start l) = [] from rfl, List.nil_append, hc]
    rfl
  · rw [if_neg w0, if_neg w0]
    by_cases w1 : w = 1
    · rw [if_pos w1, if_pos w1]
      obtain ⟨c, e, hc⟩ := h1
      rw [e, List.drop_left, hc]
      rfl
    · rw [if_neg w1, if_neg w1]
      obtain ⟨c, e, hc⟩ := h2
      rw [e, List.drop_left, hc]
      rfl
theorem k_says {h : Nat} (hh : 66 ≤ h) (σ : gS) {t : Nat} {T : mT} (hx : my_tx σ t T) {w hr : Nat} (hw : w < 3) (h24 : hr < 24) {x : Int32} (hxw : x = nI w) (pl rt sz go : Int32) : g_Met yX8_says cX8_says 7 (some .int) h kM [.ref 63, .int x, .int (nI hr), .int pl, .int rt, .int sz, .int go] σ (fun rv s => rv = some (.int (T w (if w = 0 then 99 else 999) (m_nm (σ 67 hr) (nI hr) pl rt sz go))) ∧ mfr σ s) := by
  subst hxw
  obtain ⟨b, n, hb, h4, hg, rfl⟩ := hx
  refine w_X8_says (by omega) ?_
  unfold P_X8_says
  have m0 : mfr σ (g_up (g_up (g_up (g_up (g_up (g_up σ 63 20 (σ 67 hr)) 63 21 (nI hr)) 63 22 pl) 63 23 rt) 63 24 sz) 63 25 go) := ((((((mfr.zrefl σ).zup _ (by omega)).zup _ (by omega)).zup _ (by omega)).zup _ (by omega)).zup _ (by omega)).zup _ (by omega)
  have hb' : mtx b n t (g_up (g_up (g_up (g_up (g_up (g_up σ 63 20 (σ 67 hr)) 63 21 (nI hr)) 63 22 pl) 63 23 rt) 63 24 sz) 63 25 go) := ⟨hb.1, hb.2.1, by rw [m0.1 65 (by decide)]; exact hb.2.2.1, fun i hi => by rw [m0.1 64 (by decide)]; exact hb.2.2.2.1 i hi, hb.2.2.2.2⟩
  refine ⟨hr, rfl, h24, g_call.i (k_M_read (h := 64) (by omega) _ (nm := m_nm (σ 67 hr) (nI hr) pl rt sz go) hb' ⟨?_, ?_, ?_, ?_, ?_, ?_⟩ h4 hw) (by omega) (fun rv s hq => ?_)⟩
  · simp [g_up, m_nm]
  · simp [g_up, m_nm]
  · simp [g_up, m_nm]
  · simp [g_up, m_nm]
  · simp [g_up, m_nm]
  · simp [g_up, m_nm]
  · obtain ⟨r, rfl, q1, q2, -⟩ := hq
    obtain ⟨-, v0, v1, v2, a0, a1, a2, er⟩ := q2 hg
    refine ⟨r, rfl, ?_, m0.ztrans q1⟩
    have ev := p_seg_val a0 a1 a2 hw
    rw [← er] at ev
    rw [t_of, ev]
    by_cases w0 : w = 0
    · subst w0
      exact congrArg (fun z => some (Value.int z)) (m_cl_eq (M := 99) (by decide) r)
    · rw [if_neg w0, if_neg (show ¬ nI w = 0 from fun z => w0 ((n_eq (b := 0) (by omega) (by omega)).mp z))]
      exact congrArg (fun z => some (Value.int z)) (m_cl_eq (M := 999) (by decide) r)
theorem k_M_where {h : Nat} (hh : 6 ≤ h) (σ : gS) {d hr : Nat} (hd : d < 6) (hr24 : hr < 24) : g_Met yX8_where cX8_where 4 (some .int) h kM [.ref 63, .int (nI d), .int (nI hr)] σ (fun rv s => rv = some (.int (m_wh (σ 68) (σ 69) (σ 71) (σ 67) d hr)) ∧ s = σ) := by
  refine w_X8_where hh ?_
  unfold P_X8_where
  refine ⟨d, rfl, hd, fun h1 => ⟨?_, rfl⟩, fun h1 => ⟨fun h2 => ⟨hr, rfl, hr24, fun h3 => ⟨?_, rfl⟩, fun h3 => ⟨?_, rfl⟩⟩, fun h2 => ⟨?_, rfl⟩⟩⟩
  · rw [m_wh, if_neg (by rw [h1]; decide), if_pos h1]; rfl
  · rw [m_wh, if_pos h2, if_pos h3]; rfl
  · rw [m_wh, if_pos h2, if_neg h3]
  · rw [m_wh, if_neg h2, if_neg h1]
theorem k_fallsOn {h : Nat} (hh : 68 ≤ h) (σ : gS) {d hr t : Nat} {T : mT} (p : Int32) (hd : d < 6) (hr24 : hr < 24) (hx : my_tx σ t T) : g_Met yX8_fallsOn cX8_fallsOn 7 (some .int) h kM [.ref 63, .int (nI d), .int (nI hr), .int p] σ (fun rv s => rv = some (.int (m_A T (σ 68) (σ 69) (σ 70) (σ 67) d hr p)) ∧ mfr σ s) := by
  refine w_X8_fallsOn (by omega) ?_
  unfold P_X8_fallsOn
  refine ⟨d, rfl, hd, g_call.i (k_says (h := 66) (by omega) σ hx (w := 0) (by decide) hr24 rfl p (σ 70 d) 0 0) (by omega) (fun rv s hq => ?_)⟩
  obtain ⟨rfl, hf⟩ := hq
  have e : T 0 (if (0 : Nat) = 0 then 99 else 999) (m_nm (σ 67 hr) (nI hr) p (σ 70 d) 0 0) = T 0 99 (m_nm (σ 67 hr) (nI hr) p (σ 70 d) 0 0) := rfl
  rw [e, hf.1 69 (by decide), hf.1 67 (by decide)]
  unfold m_A
  generalize T 0 99 (m_nm (σ 67 hr) (nI hr) p (σ 70 d) 0 0) = v
  refine ⟨v, rfl, fun h1 => ⟨by rw [m_amt, if_pos h1], hf⟩, fun h1 => ⟨fun h3 => ⟨?_, hf⟩, fun h3 => ⟨fun h5 => ⟨?_, hf⟩, fun h5 => ⟨σ 68 d = 2 ∨ σ 68 d = 4, ⟨fun h2 => Or.inl h2, fun h2 => ⟨fun h4 => Or.inr h4, fun h4 => ⟨?_, hf⟩⟩⟩, fun hJ => ⟨hr, rfl, hr24, fun w => w = m_wd (σ 69 d) (σ 67 hr) v, ⟨fun g => by rw [m_wd, if_pos g], fun g => by rw [m_wd, if_neg g]⟩, fun w hw => ?_⟩⟩⟩⟩⟩
  · have n2 : ¬ σ 68 d = 2 := by rw [h3]; decide
    rw [m_amt, if_neg h1, if_neg n2, if_pos h3]
  · have n2 : ¬ σ 68 d = 2 := by rw [h5]; decide
    have n4 : ¬ σ 68 d = 4 := by rw [h5]; decide
    rw [m_amt, if_neg h1, if_neg n2, if_neg h3, if_neg n4, if_pos h5]
  · rw [m_amt, if_neg h1, if_neg h2, if_neg h3, if_neg h4, if_neg h5]
  · subst hw
    refine ⟨fun h4 => ⟨?_, hf⟩, fun h4 => ⟨?_, hf⟩⟩
    · have n2 : ¬ σ 68 d = 2 := by rw [h4]; decide
      rw [m_amt, if_neg h1, if_neg n2, if_neg h3, if_pos h4]
      generalize m_wd (σ 69 d) (σ 67 hr) v = w
      by_cases g : w < 9
      · rw [if_pos g, if_neg (fun z => by rw [Int32.lt_iff_toInt_lt] at g z; omega)]
      · by_cases g2 : (9 : Int32) < w
        · rw [if_neg g, if_pos g2]
        · rw [if_neg g, if_neg g2]
          rw [Int32.lt_iff_toInt_lt] at g g2
          exact congrArg (fun z => some (Value.int z)) (Int32.toInt_inj.mp (by omega))
    · have h2 := hJ.resolve_right h4
      rw [m_amt, if_neg h1, if_pos h2]
/-- drips as the reference holds them, with that rain -/
def md (s : gS) (H : mH) (ra : gF) : Prop := s 63 15 = nI (h_nd H) ∧ (∀ h, h < 24 → s 67 h = ra h) ∧ ∀ d, d < h_nd H → s 68 d = h_kd H d ∧ s 69 d = h_nu H d ∧ s 70 d = h_rt H d ∧ s 71 d = h_pl H d
theorem md.zfr {σ s : gS} {H : mH} {ra : gF} (h : md σ H ra) (e : ∀ a, 67 ≤ a → a ≤ 71 → s a = σ a) (e15 : s 63 15 = σ 63 15) : md s H ra := by
  obtain ⟨h1, h2, h3⟩ := h
  exact ⟨e15.trans h1, fun a b => by rw [e 67 (by omega) (by omega)]; exact h2 a b, fun a b => by rw [e 68 (by omega) (by omega), e 69 (by omega) (by omega), e 70 (by omega) (by omega), e 71 (by omega) (by omega)]; exact h3 a b⟩
/-- what pouring leaves alone -/
def mpf (σ s : gS) : Prop := (∀ a, a ≠ 63 → a ≠ 75 → s a = σ a) ∧ ∀ j, (j < 20 ∨ 34 < j) → s 63 j = σ 63 j
theorem mpf.zrefl (σ : gS) : mpf σ σ := ⟨fun _ _ _ => rfl, fun _ _ => rfl⟩
theorem mpf.ztrans {σ s u : gS} (h1 : mpf σ s) (h2 : mpf s u) : mpf σ u := ⟨fun a b c => (h2.1 a b c).trans (h1.1 a b c), fun j b => (h2.2 j b).trans (h1.2 j b)⟩
theorem mfr.zp {σ s : gS} (h : mfr σ s) : mpf σ s := ⟨fun a b _ => h.1 a b, h.2⟩
theorem mpf.zup {σ s : gS} (h : mpf σ s) (j : Nat) (v : Int32) : mpf σ (g_up s 75 j v) := ⟨fun a b c => by rw [g_up_ne c]; exact h.1 a b c, fun i hi => by rw [g_up_ne (by decide)]; exact h.2 i hi⟩
theorem md.zpf {σ s : gS} {H : mH} {ra : gF} (h : md σ H ra) (e : mpf σ s) : md s H ra := h.zfr (fun a b c => e.1 a (by omega) (by omega)) (e.2 15 (by omega))
theorem my_tx.zpf {σ s : gS} {t : Nat} {T : mT} (h : my_tx σ t T) (e : mpf σ s) : my_tx s t T := h.zfr (e.2 4 (by omega)) (e.1 64 (by decide) (by decide)) (e.1 65 (by decide) (by decide))
theorem m_wh_bd {H : mH} (hH : h_ok H) (ra : gF) {d hr : Nat} (hd : d < h_nd H) : ∃ p, p < 8 ∧ m_wh (h_kd H) (h_nu H) (h_pl H) ra d hr = nI p := by
  obtain ⟨-, ⟨q, eq, hq⟩, -, ⟨p, ep, hp⟩⟩ := hH.2.1 d hd
  have r8 : ∀ x : Nat, x ≤ 100 → m_r8 (nI x) = nI (x % 8) := fun x hx => pk_rem (a := x) (d := 8) (by omega) (by omega) (by omega)
  unfold m_wh
  rw [eq, ep]
  split
  · split
    · rw [nI_1, r8 _ (by omega)]
      exact ⟨_, Nat.mod_lt _ (by decide), rfl⟩
    · exact ⟨p, by omega, rfl⟩
  · split
    · rw [r8 _ (by omega)]
      exact ⟨_, Nat.mod_lt _ (by decide), rfl⟩
    · exact ⟨p, by omega, rfl⟩
/-- what drip d, led to lt if that is a place, gives n times to place p in hour h -/
def m_pc (T : mT) (H : mH) (ra : gF) (lt n : Int32) (d h p : Nat) : Int32 := if (if lt = -1 then m_wh (h_kd H) (h_nu H) (h_pl H) ra d h else lt) = nI p then n * m_A T (h_kd H) (h_nu H) (h_rt H) ra d h (nI p) else 0
theorem k_M_pour {h : Nat} (hh : 70 ≤ h) (σ : gS) {t : Nat} {T : mT} {H : mH} {ra : gF} (hT : my_tx σ t T) (hm : md σ H ra) (hH : h_ok H) {d : Nat} (hd : d < h_nd H) {lt : Int32} (hlt : lt = -1 ∨ ∃ q, q < 8 ∧ lt = nI q) (n : Int32) : g_Met yX8_pour cX8_pour 6 none h kM [.ref 63, .int (nI d), .int lt, .int n] σ (fun rv s => rv = none ∧ (∀ hr p, hr < 24 → p < 8 → s 75 (8 * hr + p) = σ 75 (8 * hr + p) + m_pc T H ra lt n d hr p) ∧ mpf σ s) := by
  refine w_X8_pour (by omega) ?_
  unfold P_X8_pour
  have hd6 : d < 6 := by have := hH.1.1; omega
  refine ⟨fun k v s => ∃ hr, v = nI hr ∧ k + hr = 24 ∧ (∀ h' p, h' < 24 → p < 8 → s 75 (8 * h' + p) = if h' < hr then σ 75 (8 * h' + p) + m_pc T H ra lt n d h' p else σ 75 (8 * h' + p)) ∧ mpf σ s, ⟨24, 0, rfl, rfl, fun h' p _ _ => by rw [if_neg (Nat.not_lt_zero _)], mpf.zrefl σ⟩, fun k v s hI => ?_⟩
  obtain ⟨hr, rfl, hk, hs, hf⟩ := hI
  refine ⟨fun h1 => ?_, fun h1 => ?_⟩
  · have h24 := (n_lt (b := 24) (by omega) (by omega)).mp h1
    have hm2 := hm.zpf hf
    obtain ⟨e68, e69, e70, e71⟩ := hm2.2.2 d hd
    have e67 := hm2.2.1 hr h24
    have ewh : m_wh (s 68) (s 69) (s 71) (s 67) d hr = m_wh (h_kd H) (h_nu H) (h_pl H) ra d hr := by
      unfold m_wh
      rw [e68, e69, e71, e67]
    refine ⟨fun w s' => s' = s ∧ w = if lt = -1 then m_wh (h_kd H) (h_nu H) (h_pl H) ra d hr else lt, ⟨fun g => ?_, fun g => ⟨rfl, by rw [if_neg g]⟩⟩, fun w s' hJ => ?_⟩
    · refine g_call.i (k_M_where (h := 6) (by omega) s hd6 h24) (by omega) (fun rv s' hq => ?_)
      obtain ⟨rfl, rfl⟩ := hq
      exact ⟨_, rfl, rfl, by rw [if_pos g, ewh]⟩
    · obtain ⟨rfl, hw⟩ := hJ
      have hw8 : ∃ p, p < 8 ∧ w = nI p := by
        rw [hw]
        by_cases g : lt = -1
        · rw [if_pos g]; exact m_wh_bd hH ra hd
        · rw [if_neg g]; exact hlt.resolve_left g
      obtain ⟨p, hp, rfl⟩ := hw8
      refine ⟨8 * hr + p, n_8mul hr p, by omega, g_call.i (k_fallsOn (h := 68) (by omega) s' (nI p) hd6 h24 (hT.zpf hf)) (by omega) (fun rv s2 hq => ?_)⟩
      obtain ⟨rfl, hf2⟩ := hq
      have eA : m_A T (s' 68) (s' 69) (s' 70) (s' 67) d hr (nI p) = m_A T (h_kd H) (h_nu H) (h_rt H) ra d hr (nI p) := by
        unfold m_A
        rw [e68, e69, e70, e67]
      rw [eA]
      refine ⟨_, rfl, k - 1, by omega, hr + 1, nI_1 hr, by omega, fun h' p' a b => ?_, (hf.ztrans hf2.zp).zup _ _⟩
      by_cases e : 8 * h' + p' = 8 * hr + p
      · have eh : h' = hr := by omega
        have ep : p' = p := by omega
        subst eh ep
        rw [u_eq, if_pos (by omega), hs _ _ a b, if_neg (by omega), m_pc, if_pos hw.symm]
      · rw [u_ne e, hf2.1 75 (by decide), hs _ _ a b]
        by_cases eh : h' = hr
        · subst eh
          rw [if_neg (by omega), if_pos (by omega), m_pc, if_neg (fun z => e (by rw [← hw, n_eq (by omega) (by omega)] at z; omega)), Int32.add_zero]
        · by_cases e2 : h' < hr
          · rw [if_pos e2, if_pos (by omega)]
          · rw [if_neg e2, if_neg (by omega)]
  · have : hr = 24 := by
      rcases Nat.lt_or_ge hr 24 with z | z
      · exact absurd ((n_lt (b := 24) (by omega) (by omega)).mpr z) h1
      · omega
    subst this
    exact ⟨rfl, fun h' p a b => by rw [hs h' p a b, if_pos a], hf⟩
theorem m_sg_cut {f : gF} {n : Nat} : ∀ {k : Nat}, n ≤ k → (∀ d, n ≤ d → d < k → f d = 0) → m_sg f k = m_sg f n
  | 0, h, _ => by rw [show n = 0 by omega]
  | k + 1, h, h0 => by
    rcases Nat.lt_or_ge k n with z | z
    · rw [show n = k + 1 by omega]
    · rw [m_sg, h0 k z (by omega), Int32.add_zero]
      exact m_sg_cut z (fun d h1 h2 => h0 d h1 (by omega))
/-- the drips of a set -/
def m_tb (H : mH) (set : Int32) : gF := m_kp H set
theorem k_poursOf {h : Nat} (hh : 72 ≤ h) (σ : gS) {t : Nat} {T : mT} {H : mH} {ra : gF} (hT : my_tx σ t T) (hm : md σ H ra) (hH : h_ok H) (set : Int32) : g_Met yX8_poursOf cX8_poursOf 3 none h kM [.ref 63, .int set] σ (fun rv s => rv = none ∧ (∀ hr p, hr < 24 → p < 8 → s 75 (8 * hr + p) = m_sg (fun d => m_ct T (h_kd H) (h_nu H) (h_rt H) (h_pl H) ra (m_kp H set) (-1) (-1) hr p d) 6) ∧ mpf σ s) := by
  refine w_X8_poursOf (by omega) ?_
  unfold P_X8_poursOf
  have hnd := hH.1.1
  have ct : ∀ d hr p, d < h_nd H → m_ct T (h_kd H) (h_nu H) (h_rt H) (h_pl H) ra (m_kp H set) (-1) (-1) hr p d = if ((set >>> (nI d &&& 31)) &&& 1) = 0 then 0 else m_pc T H ra (-1) 1 d hr p := by
    intro d hr p hd
    have hdm : ¬ nI d = -1 := nI_m1 (by omega)
    unfold m_ct m_pc m_W
    by_cases g : ((set >>> (nI d &&& 31)) &&& 1) = 0
    · have k0 : m_kp H set d = 0 := if_neg (fun z => z.2 g)
      rw [k0, if_pos g]
      exact if_neg (fun z => absurd z.1 (by decide))
    · have k1 : m_kp H set d = 1 := if_pos ⟨hd, g⟩
      rw [k1, if_neg g, if_neg hdm, if_pos rfl]
      by_cases w : m_wh (h_kd H) (h_nu H) (h_pl H) ra d hr = nI p
      · rw [if_pos w]
        exact if_pos ⟨by decide, w⟩
      · rw [if_neg w]
        exact if_neg (fun z => w z.2)
  refine ⟨fun k v s => ∃ i, v = nI i ∧ k + i = 192 ∧ (∀ q, q < i → s 75 q = 0) ∧ mpf σ s, ⟨192, 0, rfl, rfl, fun q hq => absurd hq (Nat.not_lt_zero q), mpf.zrefl σ⟩, fun k v s hI => ?_⟩
  obtain ⟨i, rfl, hk, hz, hf⟩ := hI
  refine ⟨fun h1 => ?_, fun h1 => ?_⟩
  · have hi := (n_lt (b := 192) (by omega) (by omega)).mp h1
    refine ⟨i, rfl, hi, k - 1, by omega, i + 1, nI_1 i, by omega, fun q hq => ?_, hf.zup _ _⟩
    by_cases e : q = i
    · subst e; rw [u_eq]
    · rw [u_ne e]; exact hz q (by omega)
  · have hi : i = 192 := by
      rcases Nat.lt_or_ge i 192 with z | z
      · exact absurd ((n_lt (b := 192) (by omega) (by omega)).mpr z) h1
      · omega
    subst hi
    refine ⟨fun k v s => ∃ d, v = nI d ∧ k + d = h_nd H ∧ (∀ hr p, hr < 24 → p < 8 → s 75 (8 * hr + p) = m_sg (fun d => m_ct T (h_kd H) (h_nu H) (h_rt H) (h_pl H) ra (m_kp H set) (-1) (-1) hr p d) d) ∧ mpf σ s, ⟨h_nd H, 0, rfl, rfl, fun hr p a b => hz _ (by omega), hf⟩, fun k v s hI => ?_⟩
    obtain ⟨d, rfl, hk2, hs, hf2⟩ := hI
    rw [(hm.zpf hf2).1]
    refine ⟨fun h2 => ?_, fun h2 => ?_⟩
    · have hd := (n_lt (by omega) (by omega)).mp h2
      have b01 := m_bit01 (set >>> (nI d &&& 31))
      refine ⟨fun g => ?_, fun g => ?_⟩
      · have g0 : ¬ ((set >>> (nI d &&& 31)) &&& 1) = 0 := fun z => by
          have g' : ((set >>> (nI d &&& 31)) &&& 1) = 1 := g
          rw [z] at g'; exact absurd g' (by decide)
        refine g_call.i (k_M_pour (h := 70) (by omega) s (hT.zpf hf2) (hm.zpf hf2) hH hd (Or.inl rfl) 1) (by omega) (fun rv s2 hq => ?_)
        obtain ⟨rfl, q1, q2⟩ := hq
        refine ⟨rfl, k - 1, by omega, d + 1, nI_1 d, by omega, fun hr p a b => ?_, hf2.ztrans q2⟩
        rw [q1 hr p a b, hs hr p a b, m_sg, ct d hr p hd, if_neg g0]
      · have g0 : ((set >>> (nI d &&& 31)) &&& 1) = 0 := b01.resolve_right g
        refine ⟨k - 1, by omega, d + 1, nI_1 d, by omega, fun hr p a b => ?_, hf2⟩
        rw [hs hr p a b, m_sg, ct d hr p hd, if_pos g0, Int32.add_zero]
    · have : d = h_nd H := by
        rcases Nat.lt_or_ge d (h_nd H) with z | z
        · exact absurd ((n_lt (by omega) (by omega)).mpr z) h2
        · omega
      subst this
      refine ⟨rfl, fun hr p a b => ?_, hf2⟩
      rw [hs hr p a b, m_sg_cut (n := h_nd H) (k := 6) hnd (fun d h3 h4 => ?_)]
      have k0 : m_kp H set d = 0 := if_neg (fun z => by have := z.1; omega)
      unfold m_ct
      rw [k0]
      exact if_neg (fun z => absurd z.1 (by decide))
