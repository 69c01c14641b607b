/-! THE REFERENCE'S CALLS OVER A DAY -/
def mxf (σ s : gS) : Prop := (∀ a, a ≠ 63 → (a < 75 ∨ 82 < a) → s a = σ a) ∧ ∀ j, (j < 20 ∨ (34 < j ∧ j < 39) ∨ j = 44 ∨ 49 < j) → s 63 j = σ 63 j
theorem mxf.zrefl (σ : gS) : mxf σ σ := ⟨fun _ _ _ => rfl, fun _ _ => rfl⟩
theorem mxf.ztrans {σ s u : gS} (h1 : mxf σ s) (h2 : mxf s u) : mxf σ u := ⟨fun a b c => (h2.1 a b c).trans (h1.1 a b c), fun j b => (h2.2 j b).trans (h1.2 j b)⟩
theorem mfr.zx {σ s : gS} (h : mfr σ s) : mxf σ s := ⟨fun a b _ => h.1 a b, fun j b => h.2 j (by omega)⟩
theorem mpf.zx {σ s : gS} (h : mpf σ s) : mxf σ s := ⟨fun a b c => h.1 a b (by omega), fun j b => h.2 j (by omega)⟩
theorem mgf.zx {σ s : gS} (h : mgf σ s) : mxf σ s := ⟨fun a b c => h.1 a b (by omega) (by omega) (by omega) (by omega), fun j b => h.2 j (by omega)⟩
def mv (s : gS) (t : Nat) (T : mT) (H : mH) (V : mV) : Prop := my_tx s t T ∧ md s H (v_ra V) ∧ s 63 19 = nI (h_nv H) ∧ (∀ v, v < h_nv H → s 72 v = h_sz H v ∧ s 73 v = v_st V v ∧ s 74 v = h_w H v) ∧ (s 63 8 = v_up V ∧ s 63 10 = v_so V ∧ s 63 9 = nI (v_hd V)) ∧ s 63 44 = 0
def mp (s : gS) (T : mT) (H : mH) (V : mV) : Prop := ∀ i, i < 192 → s 75 i = m_su T H V i
def v_dj (H : mH) (V : mV) : Prop := ∀ u v, u < h_nv H → v < h_nv H → u ≠ v → v_st V u = v_st V v → v_st V u = -1
theorem mv.zx {σ s : gS} {t : Nat} {T : mT} {H : mH} {V : mV} (h : mv σ t T H V) (e : mxf σ s) : mv s t T H V := by
  obtain ⟨h1, h2, h3, h4, h5, h6⟩ := h
  have E : ∀ a, 63 < a → a < 75 → s a = σ a := fun a x y => e.1 a (by omega) (by omega)
  exact ⟨h1.zfr (e.2 4 (by omega)) (E 64 (by omega) (by omega)) (E 65 (by omega) (by omega)), h2.zfr (fun a x y => E a (by omega) (by omega)) (e.2 15 (by omega)), by rw [e.2 19 (by omega)]; exact h3, fun a b => by rw [E 72 (by omega) (by omega), E 73 (by omega) (by omega), E 74 (by omega) (by omega)]; exact h4 a b, by rw [e.2 8 (by omega), e.2 9 (by omega), e.2 10 (by omega)]; exact h5, by rw [e.2 44 (by omega)]; exact h6⟩
theorem mv.zmc {s : gS} {t : Nat} {T : mT} {H : mH} {V : mV} (h : mv s t T H V) (hp : mp s T H V) (hH : h_ok H) (hV : v_ok H V) : mc s (c_of T H V) t := by
  obtain ⟨h1, h2, h3, h4, h5, h6⟩ := h
  exact ⟨h1, h2.2.1, ⟨hH.1.2.1, h3⟩, h4, hp, h5.1, h5.2.1, h5.2.2, hV.2.2⟩
theorem mp.zg {σ s : gS} {T : mT} {H : mH} {V : mV} (h : mp σ T H V) (e : mgf σ s) : mp s T H V := fun i hi => by rw [e.1 75 (by decide) (by decide) (by decide) (by decide) (by decide)]; exact h i hi
theorem k_M_cost {h : Nat} (hh : 72 ≤ h) (σ : gS) {t : Nat} {T : mT} {H : mH} {V : mV} (hx : mv σ t T H V) (hp : mp σ T H V) (hT : t_ok T) (hH : h_ok H) (hV : v_ok H V) (hdj : v_dj H V) : g_Met yX8_cost cX8_cost 1 (some .int) h kM [.ref 63] σ (fun rv s => rv = some (.int (m_cost (m_day T H V 24))) ∧ mgf σ s ∧ mdd s (c_of T H V) (m_day T H V 24) ∧ mrw s (c_of T H V) 24) := by
  refine w_X8_cost (by omega) ?_
  unfold P_X8_cost
  refine g_call.i (k_goes (h := 70) (by omega) σ (hx.zmc hp hH hV) (c_of_ok hT hH hV) hdj (Or.inl hx.2.2.2.2.2) (n := 24) (by omega) rfl) (by omega) (fun rv s hq => ?_)
  obtain ⟨rfl, h1, h2, h3, h4⟩ := hq
  exact ⟨rfl, by rw [h3.2.1, h3.2.2.1]; rfl, h1, h3, h4⟩
theorem k_allDrips {h : Nat} (hh : 6 ≤ h) (σ : gS) {H : mH} {ra : gF} (hm : md σ H ra) : g_Met yX8_allDrips cX8_allDrips 1 (some .int) h kM [.ref 63] σ (fun rv s => rv = some (.int (((1 : Int32) <<< (nI (h_nd H) &&& 31)) - 1)) ∧ s = σ) := by
  refine w_X8_allDrips hh ?_
  unfold P_X8_allDrips
  rw [hm.1]
  exact ⟨rfl, rfl⟩
theorem kp_all {H : mH} (hH : h_ok H) : m_kp H (((1 : Int32) <<< (nI (h_nd H) &&& 31)) - 1) = v_tm (m_v0 H) := by
  funext u
  show m_kp H _ u = if u < h_nd H then 1 else 0
  unfold m_kp
  by_cases hu : u < h_nd H
  · have HH : ∀ n : Fin 7, ∀ u : Fin 6, u.val < n.val → ¬ (((((1 : Int32) <<< (nI n.val &&& 31)) - 1) >>> (nI u.val &&& 31)) &&& 1) = 0 := by decide +kernel
    rw [if_pos hu, if_pos ⟨hu, HH ⟨h_nd H, by have := hH.1.1; omega⟩ ⟨u, by have := hH.1.1; omega⟩ hu⟩]
  · rw [if_neg hu, if_neg (fun z => hu z.1)]
/-- poured of a set, the rows as the class has them -/
theorem k_pours {h : Nat} (hh : 72 ≤ h) (σ : gS) {t : Nat} {T : mT} {H : mH} {V : mV} (hx : mv σ t T H V) (hH : h_ok H) (set : Int32) {V2 : mV} (e1 : v_ra V2 = v_ra V) (e2 : v_tm V2 = m_kp H set) (e3 : v_ld V2 = -1) (e4 : v_lt V2 = -1) : g_Met yX8_poursOf cX8_poursOf 3 none h kM [.ref 63, .int set] σ (fun rv s => rv = none ∧ mp s T H V2 ∧ mpf σ s) :=
  k_mono (k_poursOf hh σ hx.1 hx.2.1 hH set) (fun rv s hq => by
    obtain ⟨rfl, q1, q2⟩ := hq
    refine ⟨rfl, fun i hi => ?_, q2⟩
    have e : i = 8 * (i / 8) + i % 8 := by omega
    rw [m_su, e1, e2, e3, e4]
    have := q1 (i / 8) (i % 8) (by omega) (Nat.mod_lt _ (by decide))
    rw [← e] at this
    exact this)
theorem k_costNowX {h : Nat} (hh : 76 ≤ h) (σ : gS) {t : Nat} {T : mT} {H : mH} {V : mV} (hx : mv σ t T H V) (hT : t_ok T) (hH : h_ok H) (hV : v_ok H V) (hdj : v_dj H V) (e2 : v_tm V = v_tm (m_v0 H)) (e3 : v_ld V = -1) (e4 : v_lt V = -1) : g_Met yX8_costNow cX8_costNow 1 (some .int) h kM [.ref 63] σ (fun rv s => rv = some (.int (m_cost (m_day T H V 24))) ∧ mxf σ s ∧ mp s T H V ∧ mdd s (c_of T H V) (m_day T H V 24) ∧ mrw s (c_of T H V) 24 ∧ s 82 = σ 82) := by
  refine w_X8_costNow (by omega) ?_
  unfold P_X8_costNow
  refine g_call.i (k_allDrips (h := 6) (by omega) σ hx.2.1) (by omega) (fun rv s hq => ?_)
  obtain ⟨rfl, rfl⟩ := hq
  refine ⟨_, rfl, g_call.i (k_pours (h := 72) (by omega) s hx hH _ (V2 := V) rfl (e2.trans (kp_all hH).symm) e3 e4) (by omega) (fun rv s1 hq => ?_)⟩
  obtain ⟨rfl, q1, q2⟩ := hq
  refine ⟨rfl, g_call.i (k_M_cost (h := 72) (by omega) s1 (hx.zx q2.zx) q1 hT hH hV hdj) (by omega) (fun rv s2 hq => ?_)⟩
  obtain ⟨rfl, g1, g2, g3⟩ := hq
  exact ⟨_, rfl, rfl, q2.zx.ztrans g1.zx, q1.zg g1, g2, g3, (g1.1 82 (by decide) (by decide) (by decide) (by decide) (by decide)).trans (q2.1 82 (by decide) (by decide))⟩
theorem k_costNow {h : Nat} (hh : 76 ≤ h) (σ : gS) {t : Nat} {T : mT} {H : mH} {V : mV} (hx : mv σ t T H V) (hT : t_ok T) (hH : h_ok H) (hV : v_ok H V) (hdj : v_dj H V) (e2 : v_tm V = v_tm (m_v0 H)) (e3 : v_ld V = -1) (e4 : v_lt V = -1) : g_Met yX8_costNow cX8_costNow 1 (some .int) h kM [.ref 63] σ (fun rv s => rv = some (.int (m_cost (m_day T H V 24))) ∧ mxf σ s ∧ mp s T H V ∧ mdd s (c_of T H V) (m_day T H V 24) ∧ mrw s (c_of T H V) 24) :=
  k_mono (k_costNowX hh σ hx hT hH hV hdj e2 e3 e4) (fun rv s hq => ⟨hq.1, hq.2.1, hq.2.2.1, hq.2.2.2.1, hq.2.2.2.2.1⟩)
theorem v0_dj {H : mH} (hH : h_ok H) : v_dj H (m_v0 H) := hH.2.2.2.2
/-- what falls in all -/
theorem m_pf_fa (c : mC) (h : Nat) : ∀ (k p : Nat) (x : mD), k + p = 8 → d_fa x = m_sg (c_su c) (8 * h + p) → d_fa (m_pf c h k p x) = m_sg (c_su c) (8 * h + 8)
  | 0, p, x, hk, e => by rw [m_pf, e, show p = 8 by omega]
  | k + 1, p, x, hk, e => by
    rw [m_pf]
    refine m_pf_fa c h k (p + 1) _ (by omega) ?_
    have : d_fa (m_s1 c h p (m_c1 c h p x)) = d_fa x + c_su c (8 * h + p) := by
      unfold m_s1
      split <;> rfl
    rw [this, e]
    rfl
theorem m_go_fa (c : mC) : ∀ n, d_fa (m_go c n 0 (m_x0 c)) = m_sg (c_su c) (8 * n)
  | 0 => rfl
  | n + 1 => by
    rw [m_go_snoc, Nat.zero_add]
    show d_fa (m_pf c n 8 0 (m_wake c n (m_go c n 0 (m_x0 c)))) = _
    rw [m_pf_fa c n 8 0 _ rfl ?_]
    · rfl
    · have : d_fa (m_wake c n (m_go c n 0 (m_x0 c))) = d_fa (m_go c n 0 (m_x0 c)) := by
        unfold m_wake
        split <;> rfl
      rw [this, m_go_fa c n]
      rfl
/-- the reference's state holds H, with that text -/
def mok (σ : gS) (t : Nat) (T : mT) (H : mH) : Prop := mv σ t T H (m_v0 H) ∧ h_ok H ∧ t_ok T
theorem k_M_day {h : Nat} (hh : 78 ≤ h) (σ : gS) {t : Nat} {T : mT} {H : mH} (hx : mok σ t T H) (wh : Int32) : g_Met yX8_day cX8_day 5 (some .int) h kM [.ref 63, .int wh] σ (fun rv s => rv = some (.int (a_day T H wh)) ∧ mxf σ s) := by
  obtain ⟨hm, hH, hT⟩ := hx
  refine w_X8_day (by omega) ?_
  unfold P_X8_day
  refine ⟨fun h1 => ?_, fun h1 => ⟨by rw [a_day, if_neg h1], mxf.zrefl σ⟩⟩
  refine g_call.i (k_costNow (h := 76) (by omega) σ hm hT hH (m_v0_ok hH) (v0_dj hH) rfl rfl rfl) (by omega) (fun rv s hq => ?_)
  obtain ⟨rfl, hf, hp, ⟨-, d1, d2, d3, d4⟩, -⟩ := hq
  rw [a_day, if_pos h1, d1, d2, d3, d4]
  obtain ⟨w, hw, rfl⟩ := n_of (M := 5) h1 (by decide)
  have N : ∀ j : Nat, j ≤ 5 → (nI w = nI j ↔ w = j) := fun j hj => n_eq (by omega) (by omega)
  have n0 := N 0 (by omega)
  have n1 := N 1 (by omega)
  have n2 := N 2 (by omega)
  have n3 := N 3 (by omega)
  have n4 := N 4 (by omega)
  refine ⟨_, rfl, fun g => ⟨fun g0 => ⟨by rw [if_pos g0], hf⟩, fun g0 => ⟨?_, hf⟩⟩, fun g => ⟨fun g5 => ⟨?_, hf⟩, fun g5 => ?_⟩⟩
  · have g' := (n_lt (b := 3) (by omega) (by omega)).mp g
    rw [if_neg g0]
    by_cases g1 : nI w = 1
    · rw [if_pos g1, if_pos g1]
    · have : w = 2 := by
        have a0 : ¬ w = 0 := fun z => g0 (n0.mpr z)
        have a1 : ¬ w = 1 := fun z => g1 (n1.mpr z)
        omega
      rw [if_neg g1, if_neg g1, if_pos (show nI w = 2 from n2.mpr this)]
  · have g' : ¬ w < 3 := fun z => g ((n_lt (b := 3) (by omega) (by omega)).mpr z)
    have g5' := (n_lt (b := 5) (by omega) (by omega)).mp g5
    rw [if_neg (show ¬ nI w = 0 from fun z => absurd (n0.mp z) (by omega)), if_neg (show ¬ nI w = 1 from fun z => absurd (n1.mp z) (by omega)), if_neg (show ¬ nI w = 2 from fun z => absurd (n2.mp z) (by omega))]
    by_cases g3 : nI w = 3
    · rw [if_pos g3, if_pos g3]
    · have : w = 4 := by
        have a3 : ¬ w = 3 := fun z => g3 (n3.mpr z)
        omega
      rw [if_neg g3, if_neg g3, if_pos (show nI w = 4 from n4.mpr this)]
  · have g5' : ¬ w < 5 := fun z => g5 ((n_lt (b := 5) (by omega) (by omega)).mpr z)
    rw [if_neg (show ¬ nI w = 0 from fun z => absurd (n0.mp z) (by omega)), if_neg (show ¬ nI w = 1 from fun z => absurd (n1.mp z) (by omega)), if_neg (show ¬ nI w = 2 from fun z => absurd (n2.mp z) (by omega)), if_neg (show ¬ nI w = 3 from fun z => absurd (n3.mp z) (by omega)), if_neg (show ¬ nI w = 4 from fun z => absurd (n4.mp z) (by omega))]
    refine ⟨fun k a i => ∃ q, i = nI q ∧ k + q = 192 ∧ a = m_sg (m_su T H (m_v0 H)) q, ⟨192, 0, rfl, rfl, rfl⟩, fun k a i hI => ?_⟩
    obtain ⟨q, rfl, hk, rfl⟩ := hI
    refine ⟨fun g6 => ?_, fun g6 => ⟨?_, hf⟩⟩
    · have hq := (n_lt (b := 192) (by omega) (by omega)).mp g6
      exact ⟨q, rfl, hq, k - 1, by omega, q + 1, nI_1 q, by omega, by rw [hp q hq]; rfl⟩
    · have : q = 192 := by
        rcases Nat.lt_or_ge q 192 with z | z
        · exact absurd ((n_lt (b := 192) (by omega) (by omega)).mpr z) g6
        · omega
      subst this
      have := m_go_fa (c_of T H (m_v0 H)) 24
      exact congrArg (fun z => some (Value.int z)) this.symm
theorem k_M_water {h : Nat} (hh : 78 ≤ h) (σ : gS) {t : Nat} {T : mT} {H : mH} (hx : mok σ t T H) (of_ hr wh : Int32) : g_Met yX8_water cX8_water 4 (some .int) h kM [.ref 63, .int of_, .int hr, .int wh] σ (fun rv s => rv = some (.int (a_water T H of_ hr wh)) ∧ mxf σ s) := by
  obtain ⟨hm, hH, hT⟩ := hx
  refine w_X8_water (by omega) ?_
  unfold P_X8_water
  rw [hm.2.2.1]
  refine ⟨fun h1 => ⟨fun h2 => ⟨(if wh = 0 then g_in of_ 0 (nI (h_nv H) - 1) else g_in of_ 0 7), ⟨fun g0 => ⟨fun h3 => by rw [if_pos g0]; exact h3, fun h3 => ⟨by rw [a_water, if_neg (fun z => h3 (by have := z.2.2; rw [if_pos g0] at this; exact this))], mxf.zrefl σ⟩⟩, fun g0 => ⟨fun h3 => by rw [if_neg g0]; exact h3, fun h3 => ⟨by rw [a_water, if_neg (fun z => h3 (by have := z.2.2; rw [if_neg g0] at this; exact this))], mxf.zrefl σ⟩⟩⟩, fun h3 => ?_⟩, fun h2 => ⟨by rw [a_water, if_neg (fun z => h2 z.2.1)], mxf.zrefl σ⟩⟩, fun h1 => ⟨by rw [a_water, if_neg (fun z => h1 z.1)], mxf.zrefl σ⟩⟩
  obtain ⟨hr, hr24, rfl⟩ := n_of (M := 23) h2 (by decide)
  refine g_call.i (k_costNow (h := 76) (by omega) σ hm hT hH (m_v0_ok hH) (v0_dj hH) rfl rfl rfl) (by omega) (fun rv s hq => ?_)
  obtain ⟨rfl, hf, hp, -, hrw⟩ := hq
  rw [a_water, if_pos ⟨h1, h2, h3⟩, ix_nI (a := hr) (by omega)]
  refine ⟨_, rfl, fun g0 => ?_, fun g0 => ?_⟩
  · rw [if_pos g0] at h3 ⊢
    have hn5 := hH.1.2.1
    obtain ⟨v, hv, rfl⟩ := g_nat h3 rfl (by omega)
    have e5 : 5 * nI hr + nI v = nI (5 * hr + v) := by
      have e : 5 * nI hr = nI (5 * hr) := pk_mul 5 hr
      rw [e, nI_add]
    refine ⟨5 * hr + v, e5, by omega, ?_, hf⟩
    have e := (hrw hr (by omega)).1 v hv
    rw [ix_nI (by omega), e]
    rfl
  · rw [if_neg g0] at h3 ⊢
    obtain ⟨p, hp8, rfl⟩ := n_of (M := 7) h3 (by decide)
    refine ⟨8 * hr + p, n_8mul hr p, by omega, ?_, hf⟩
    have e := (hrw hr (by omega)).2 p (by omega)
    rw [ix_nI (by omega), e]
    rfl
theorem k_M_pass {h : Nat} (hh : 78 ≤ h) (σ : gS) {t : Nat} {T : mT} {H : mH} (hx : mok σ t T H) (n : Int32) : g_Met yX8_pass cX8_pass 3 (some .int) h kM [.ref 63, .int n] σ (fun rv s => rv = some (.int (a_pass T H n)) ∧ mv s t T (h_pass T H n) (m_v0 (h_pass T H n)) ∧ (∀ a, a ≠ 63 → a ≠ 74 → (a < 75 ∨ 82 < a) → s a = σ a) ∧ ∀ j, (j < 20 ∨ (34 < j ∧ j < 39) ∨ j = 44 ∨ 49 < j) → s 63 j = σ 63 j) := by
  obtain ⟨hm, hH, hT⟩ := hx
  have hV := m_v0_ok hH
  refine w_X8_pass (by omega) ?_
  unfold P_X8_pass
  refine ⟨fun h1 => ?_, fun h1 => ⟨by rw [a_pass, if_neg h1], by rw [h_pass, if_neg h1]; exact hm, fun _ _ _ _ => rfl, fun _ _ => rfl⟩⟩
  rw [a_pass, h_pass, if_pos h1, if_pos h1]
  obtain ⟨n, hn, rfl⟩ := n_of (M := 24) h1 (by decide)
  rw [ix_nI (by omega)]
  refine g_call.i (k_allDrips (h := 6) (by omega) σ hm.2.1) (by omega) (fun rv s hq => ?_)
  obtain ⟨rfl, rfl⟩ := hq
  refine ⟨_, rfl, g_call.i (k_pours (h := 72) (by omega) s hm hH _ (V2 := m_v0 H) rfl (kp_all hH).symm rfl rfl) (by omega) (fun rv s1 hq => ?_)⟩
  obtain ⟨rfl, q1, q2⟩ := hq
  have hm1 := hm.zx q2.zx
  refine ⟨rfl, g_call.i (k_goes (h := 70) (by omega) s1 (hm1.zmc q1 hH hV) (c_of_ok hT hH hV) (v0_dj hH) (Or.inl hm1.2.2.2.2.2) (n := n) hn rfl) (by omega) (fun rv s2 hq => ?_)⟩
  obtain ⟨rfl, g1, g2, g3, g4⟩ := hq
  have hx2 := q2.zx.ztrans g1.zx
  have hm2 := hm.zx hx2
  have hn5 := hH.1.2.1
  refine ⟨rfl, fun k i u => ∃ v, i = nI v ∧ k + v = h_nv H ∧ (∀ w, w < v → u 74 w = d_w (m_day T H (m_v0 H) n) w) ∧ ∀ a, a ≠ 74 → u a = s2 a, ⟨h_nv H, 0, rfl, by omega, fun w hw => absurd hw (Nat.not_lt_zero w), fun _ _ => rfl⟩, fun k i u hI => ?_⟩
  obtain ⟨v, rfl, hk, h74, hfu⟩ := hI
  rw [hfu 63 (by decide), hm2.2.2.1]
  refine ⟨fun h2 => ?_, fun h2 => ?_⟩
  · have hv := (n_lt (by omega) (by omega)).mp h2
    refine ⟨v, rfl, by omega, k - 1, by omega, v + 1, nI_1 v, by omega, fun w hw => ?_, fun a ha => by rw [g_up_ne ha]; exact hfu a ha⟩
    by_cases e : w = v
    · subst e; rw [u_eq, hfu 76 (by decide)]; exact g3.1 w hv
    · rw [u_ne e]; exact h74 w (by omega)
  · have hvn : v = h_nv H := by
      rcases Nat.lt_or_ge v (h_nv H) with z | z
      · exact absurd ((n_lt (by omega) (by omega)).mpr z) h2
      · omega
    subst hvn
    refine ⟨by rw [g3.2.1, g3.2.2.1]; rfl, ?_, fun a b1 b2 b3 => by rw [hfu a b2]; exact hx2.1 a b1 b3, fun j hj => by rw [hfu 63 (by decide)]; exact hx2.2 j hj⟩
    obtain ⟨m1, m2, m3, m4, m5, m6⟩ := hm2
    refine ⟨m1.zfr (by rw [hfu 63 (by decide)]) (hfu 64 (by decide)) (hfu 65 (by decide)), m2.zfr (fun a x y => hfu a (by omega)) (by rw [hfu 63 (by decide)]), by rw [hfu 63 (by decide)]; exact m3, fun a b => ⟨by rw [hfu 72 (by decide)]; exact (m4 a b).1, by rw [hfu 73 (by decide)]; exact (m4 a b).2.1, h74 a b⟩, by rw [hfu 63 (by decide)]; exact m5, by rw [hfu 63 (by decide)]; exact m6⟩
theorem k_M_falls {h : Nat} (hh : 72 ≤ h) (σ : gS) {t : Nat} {T : mT} {H : mH} (hx : mok σ t T H) (d hr wh : Int32) : g_Met yX8_falls cX8_falls 4 (some .int) h kM [.ref 63, .int d, .int hr, .int wh] σ (fun rv s => rv = some (.int (a_falls T H d hr wh)) ∧ mxf σ s) := by
  obtain ⟨hm, hH, hT⟩ := hx
  refine w_X8_falls (by omega) ?_
  unfold P_X8_falls
  rw [hm.2.1.1]
  refine ⟨fun h1 => ⟨fun h2 => ⟨fun h3 => ?_, fun h3 => ⟨by rw [a_falls, if_neg (fun z => h3 z.2.2)], mxf.zrefl σ⟩⟩, fun h2 => ⟨by rw [a_falls, if_neg (fun z => h2 z.2.1)], mxf.zrefl σ⟩⟩, fun h1 => ⟨by rw [a_falls, if_neg (fun z => h1 z.1)], mxf.zrefl σ⟩⟩
  rw [a_falls, if_pos ⟨h1, h2, h3⟩]
  obtain ⟨d, hd, rfl⟩ := g_nat h1 rfl (by have := hH.1.1; omega)
  obtain ⟨hr, hr24, rfl⟩ := n_of (M := 23) h2 (by decide)
  obtain ⟨w, hw, rfl⟩ := n_of (M := 1) h3 (by decide)
  have hd6 : d < 6 := by have := hH.1.1; omega
  obtain ⟨e68, e69, e70, e71⟩ := hm.2.1.2.2 d hd
  have e67 : σ 67 hr = h_ra H hr := hm.2.1.2.1 hr (by omega)
  have ewh : m_wh (σ 68) (σ 69) (σ 71) (σ 67) d hr = m_wh (h_kd H) (h_nu H) (h_pl H) (h_ra H) d hr := by
    unfold m_wh
    rw [e68, e69, e71, e67]
  rw [ix_nI (by omega), ix_nI (by omega)]
  refine ⟨fun g => ?_, fun g => ?_⟩
  · refine g_call.i (k_M_where (h := 6) (by omega) σ hd6 (show hr < 24 by omega)) (by omega) (fun rv s hq => ?_)
    obtain ⟨rfl, rfl⟩ := hq
    rw [ewh]
    refine ⟨_, rfl, g_call.i (k_fallsOn (h := 68) (by omega) s _ hd6 (show hr < 24 by omega) hm.1) (by omega) (fun rv s2 hq => ?_)⟩
    obtain ⟨rfl, hf⟩ := hq
    refine ⟨_, rfl, ?_, hf.zx⟩
    have g1 : ¬ nI w = 1 := fun z => by rw [z] at g; exact absurd g (by decide)
    rw [if_neg g1]
    unfold m_A
    rw [e68, e69, e70, e67]
  · refine g_call.i (k_M_where (h := 6) (by omega) σ hd6 (show hr < 24 by omega)) (by omega) (fun rv s hq => ?_)
    obtain ⟨rfl, rfl⟩ := hq
    have hw1 : w = 1 := by
      have : ¬ w = 0 := fun z => g (by rw [z]; rfl)
      omega
    subst hw1
    exact ⟨_, rfl, by rw [ewh, if_pos (show nI 1 = 1 from rfl)], mxf.zrefl s⟩
