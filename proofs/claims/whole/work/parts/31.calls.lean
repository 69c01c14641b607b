/-! THE CLASS'S CALLS OVER A DAY -/
theorem k_mono {y : MethodName} {b : ByteArray} {n : Nat} {ret : Option FieldType} {h : Nat} {KR : Nat → Bool} {av : List Value} {σ : gS} {Q1 Q2 : Option Value → gS → Prop} (M : g_Met y b n ret h KR av σ Q1) (hQ : ∀ rv s, Q1 rv s → Q2 rv s) : g_Met y b n ret h KR av σ Q2 := by
  intro l G K sz hD hKR
  have hM := M l G K sz hD hKR
  intro p e ha hc hk s m args below hf happ hP hK
  obtain ⟨n, o, h1, h2, h3, ⟨q1, q2⟩⟩ := hM p e ha hc hk s m args below hf happ hP hK
  obtain ⟨⟨rv, s', e1, e2, e3⟩, e4⟩ := q1
  exact ⟨n, o, h1, h2, h3, ⟨⟨rv, s', e1, hQ rv s' e2, e3⟩, e4⟩, q2⟩
def xok (σ : gS) (t : Nat) (T : mT) (H : mH) : Prop := x_rl σ t T ∧ xh σ H ∧ h_ok H ∧ t_ok T
theorem xok.zfr {σ s : gS} {t : Nat} {T : mT} {H : mH} (h : xok σ t T H) (e : xfr σ s) : xok s t T H := by
  obtain ⟨⟨r1, r2, r3⟩, h2, h3, h4⟩ := h
  obtain ⟨e1, e2⟩ := r2.same (e (46 + 3 * t) (by omega)) (e (47 + 3 * t) (by omega))
  exact ⟨⟨by rw [e 1 (by omega)]; exact r1, e1, fun pa hp mo nm => (e2 pa mo nm).trans (r3 pa hp mo nm)⟩, h2.same (fun a ha => e a (by omega)), h3, h4⟩
def a_falls (T : mT) (H : mH) (d hr wh : Int32) : Int32 := if g_in d 0 (nI (h_nd H) - 1) ∧ g_in hr 0 23 ∧ g_in wh 0 1 then (if wh = 1 then m_wh (h_kd H) (h_nu H) (h_pl H) (h_ra H) (ix d) (ix hr) else m_A T (h_kd H) (h_nu H) (h_rt H) (h_ra H) (ix d) (ix hr) (m_wh (h_kd H) (h_nu H) (h_pl H) (h_ra H) (ix d) (ix hr))) else -2
theorem k_falls {h : Nat} (hh : 14 ≤ h) (σ : gS) {t : Nat} {T : mT} {H : mH} (hx : xok σ t T H) (d hr wh : Int32) : g_Met yX7_falls cX7_falls 6 (some .int) h kX [.ref 0, .int d, .int hr, .int wh] σ (fun rv s => rv = some (.int (a_falls T H d hr wh)) ∧ xfr σ s) := by
  obtain ⟨hrl, hxh, hH, hT⟩ := hx
  refine w_X7_falls (by omega) ?_
  unfold P_X7_falls
  rw [hxh.1.1]
  refine ⟨fun h1 => ⟨fun h2 => ⟨fun h3 => ?_, fun h3 => ⟨by rw [a_falls, if_neg (fun z => h3 z.2.2)], xfr.refl σ⟩⟩, fun h2 => ⟨by rw [a_falls, if_neg (fun z => h2 z.2.1)], xfr.refl σ⟩⟩, fun h1 => ⟨by rw [a_falls, if_neg (fun z => h1 z.1)], xfr.refl σ⟩⟩
  obtain ⟨d, hd, rfl⟩ := g_nat h1 rfl (by have := hH.1.1; omega)
  obtain ⟨hr, hr24, rfl⟩ := n_of (M := 23) h2 (by decide)
  have hd6 : d < 6 := by have := hH.1.1; omega
  refine g_call.i (k_dawn (h := 10) (by omega) σ hrl hxh hH) (by omega) (fun rv s1 hq => ?_)
  obtain ⟨rfl, hxa, hf⟩ := hq
  refine ⟨rfl, g_call.i (k_where (h := 6) (by omega) s1 hd6 (show hr < 24 by omega)) (by omega) (fun rv s2 hq => ?_)⟩
  obtain ⟨rfl, rfl⟩ := hq
  obtain ⟨b1, ⟨-, -, b2, -⟩, b3, -, -, -, -⟩ := hxa
  obtain ⟨e3, e4, e5, e6⟩ := b2 d hd
  have b4 : ∀ x, x < 24 → s2 34 x = h_ra H x := b3
  have ew : m_wh (s2 3) (s2 4) (s2 6) (s2 34) d hr = m_wh (h_kd H) (h_nu H) (h_pl H) (h_ra H) d hr := by
    unfold m_wh
    rw [e3, e4, e6, b4 hr (by omega)]
  rw [ew]
  refine ⟨_, rfl, fun h4 => ⟨?_, hf⟩, fun h4 => g_call.i (k_amount (h := 10) (by omega) s2 _ hd6 (show hr < 24 by omega) b1) (by omega) (fun rv s3 hq => ?_)⟩
  · rw [a_falls, if_pos ⟨h1, h2, h3⟩, if_pos h4, ix_nI (by omega), ix_nI (by omega)]
  · obtain ⟨rfl, hf3⟩ := hq
    refine ⟨_, rfl, ?_, hf.trans (fun a ha => hf3 a (by omega) (by omega))⟩
    rw [a_falls, if_pos ⟨h1, h2, h3⟩, if_neg h4, ix_nI (by omega), ix_nI (by omega)]
    unfold m_A
    rw [e3, e4, e5, b4 hr (by omega)]
def a_day (T : mT) (H : mH) (wh : Int32) : Int32 := if g_in wh 0 5 then (if wh = 0 then d_hm (m_day T H (m_v0 H) 24) else if wh = 1 then d_wk (m_day T H (m_v0 H) 24) else if wh = 2 then m_cost (m_day T H (m_v0 H) 24) else if wh = 3 then d_ov (m_day T H (m_v0 H) 24) else if wh = 4 then d_fi (m_day T H (m_v0 H) 24) else d_fa (m_day T H (m_v0 H) 24)) else -2
theorem k_day {h : Nat} (hh : 18 ≤ h) (σ : gS) {t : Nat} {T : mT} {H : mH} (hx : xok σ t T H) (wh : Int32) : g_Met yX7_day cX7_day 3 (some .int) h kX [.ref 0, .int wh] σ (fun rv s => rv = some (.int (a_day T H wh)) ∧ xfr σ s) := by
  obtain ⟨hrl, hxh, hH, hT⟩ := hx
  refine w_X7_day (by omega) ?_
  unfold P_X7_day
  refine ⟨fun h1 => ?_, fun h1 => ⟨by rw [a_day, if_neg h1], xfr.refl σ⟩⟩
  refine g_call.i (k_dawn (h := 10) (by omega) σ hrl hxh hH) (by omega) (fun rv s1 hq => ?_)
  obtain ⟨rfl, hxa, hf⟩ := hq
  refine ⟨rfl, g_call.i (k_costInAll (h := 16) (by omega) s1 hxa hT hH (m_v0_ok hH)) (by omega) (fun rv s2 hq => ?_)⟩
  obtain ⟨rfl, hL, ⟨-, ⟨d2, d3, d4, d5, d6, d7⟩, -⟩, hf2⟩ := hq
  have hff := hf.trans hf2
  rw [a_day, if_pos h1, d2, d3, d4, d5, d7]
  refine ⟨_, rfl, fun g0 => ⟨by rw [if_pos g0], hff⟩, fun g0 => ⟨fun g1 => ⟨by rw [if_neg g0, if_pos g1], hff⟩, fun g1 => ⟨fun g2 => ⟨by rw [if_neg g0, if_neg g1, if_pos g2], hff⟩, fun g2 => ⟨fun g3 => ⟨by rw [if_neg g0, if_neg g1, if_neg g2, if_pos g3], hff⟩, fun g3 => ⟨fun g4 => ⟨by rw [if_neg g0, if_neg g1, if_neg g2, if_neg g3, if_pos g4], hff⟩, fun g4 => ⟨by rw [if_neg g0, if_neg g1, if_neg g2, if_neg g3, if_neg g4], hff⟩⟩⟩⟩⟩⟩
def a_water (T : mT) (H : mH) (of_ hr wh : Int32) : Int32 := if g_in wh 0 1 ∧ g_in hr 0 23 ∧ (if wh = 0 then g_in of_ 0 (nI (h_nv H) - 1) else g_in of_ 0 7) then (if wh = 0 then d_w (m_day T H (m_v0 H) (ix hr + 1)) (ix of_) else d_sp (m_day T H (m_v0 H) (ix hr + 1)) (ix of_)) else -2
/-- a laid day, run for n hours -/
theorem k_runL {h : Nat} (hh : 14 ≤ h) (σ : gS) {T : mT} {t : Nat} {H : mH} {V : mV} (hL : xL σ T t H V) (hT : t_ok T) (hH : h_ok H) (hV : v_ok H V) {n : Nat} (hn : n ≤ 24) {x : Int32} (ex : x = nI n) : g_Met yX0_run cX0_run 4 none h kX [.ref 26, .int x, .int 2147483647] σ (fun rv s => rv = none ∧ xL s T t H V ∧ xd s (c_of T H V) (m_day T H V n) ∧ xfr σ s) := by
  subst ex
  have hc := c_of_ok hT hH hV
  exact k_mono (k_runAll hh σ (c_of T H V) t (hL.xr hH hV) hc hL.2.2 hn) (fun rv s hq => by
    obtain ⟨rfl, hst, hm, -, k, hk, hd, ho⟩ := hq
    have hk2 := m_k_all hc hn hk ho
    subst hk2
    exact ⟨rfl, hL.same hst hm, hd, hst.xfr⟩)
theorem k_water {h : Nat} (hh : 18 ≤ h) (σ : gS) {t : Nat} {T : mT} {H : mH} (hx : xok σ t T H) (of_ hr wh : Int32) : g_Met yX7_water cX7_water 4 (some .int) h kX [.ref 0, .int of_, .int hr, .int wh] σ (fun rv s => rv = some (.int (a_water T H of_ hr wh)) ∧ xfr σ s) := by
  obtain ⟨hrl, hxh, hH, hT⟩ := hx
  refine w_X7_water (by omega) ?_
  unfold P_X7_water
  rw [hxh.1.2.1]
  refine ⟨fun h1 => ⟨fun h2 => ⟨(if wh = 0 then g_in of_ 0 (nI (h_nv H) - 1) else g_in of_ 0 7), ⟨fun g0 => ⟨fun h3 => by rw [if_pos g0]; exact h3, fun h3 => ⟨by rw [a_water, if_neg (fun z => h3 (by have := z.2.2; rw [if_pos g0] at this; exact this))], xfr.refl σ⟩⟩, fun g0 => ⟨fun h3 => by rw [if_neg g0]; exact h3, fun h3 => ⟨by rw [a_water, if_neg (fun z => h3 (by have := z.2.2; rw [if_neg g0] at this; exact this))], xfr.refl σ⟩⟩⟩, fun h3 => ?_⟩, fun h2 => ⟨by rw [a_water, if_neg (fun z => h2 z.2.1)], xfr.refl σ⟩⟩, fun h1 => ⟨by rw [a_water, if_neg (fun z => h1 z.1)], xfr.refl σ⟩⟩
  obtain ⟨hr, hr24, rfl⟩ := n_of (M := 23) h2 (by decide)
  refine g_call.i (k_dawn (h := 10) (by omega) σ hrl hxh hH) (by omega) (fun rv s1 hq => ?_)
  obtain ⟨rfl, hxa, hf⟩ := hq
  refine ⟨rfl, g_call.i (k_D_lay (h := 14) (by omega) s1 hxa (m_v0_ok hH)) (by omega) (fun rv s2 hq => ?_)⟩
  obtain ⟨rfl, hL, hf2⟩ := hq
  refine ⟨rfl, g_call.i (k_runL (h := 14) (by omega) s2 hL hT hH (m_v0_ok hH) (n := hr + 1) (by omega) (nI_1 hr)) (by omega) (fun rv s3 hq => ?_)⟩
  obtain ⟨rfl, hL3, ⟨d1, -, d8⟩, hf3⟩ := hq
  have hff := (hf.trans hf2).trans hf3
  rw [a_water, if_pos ⟨h1, h2, h3⟩, ix_nI (a := hr) (by omega)]
  refine ⟨rfl, fun g0 => ?_, fun g0 => ?_⟩
  · rw [if_pos g0] at h3 ⊢
    obtain ⟨v, hv, rfl⟩ := g_nat h3 rfl (by have := hH.1.2.1; omega)
    have hv5 : v < 5 := by have := hH.1.2.1; omega
    have d1v : s3 29 v = _ := d1 v hv
    exact ⟨v, rfl, hv5, by rw [ix_nI (by omega), d1v], hff⟩
  · rw [if_neg g0] at h3 ⊢
    obtain ⟨p, hp, rfl⟩ := n_of (M := 7) h3 (by decide)
    exact ⟨p, rfl, by omega, by rw [ix_nI (by omega), d8 p (by omega)], hff⟩
def a_gone (T : mT) (H : mH) : Int32 := if d_fi (m_day T H (h_ra H, v_tm (m_v0 H), -1, -1, h_st H, 0, h_so H, h_hd H) 24) = -1 then 24 else d_fi (m_day T H (h_ra H, v_tm (m_v0 H), -1, -1, h_st H, 0, h_so H, h_hd H) 24)
/-- one thing thought otherwise -/
theorem xa.zup {s : gS} {T : mT} {t : Nat} {H : mH} {V : mV} (h : xa s T t H V) (x : Int32) : xa (g_up s 26 3 x) T t H (v_ra V, v_tm V, v_ld V, v_lt V, v_st V, x, v_so V, v_hd V) := by
  obtain ⟨h1, h2, h3, h4, h5, h6, h7⟩ := h
  exact ⟨h1.same (by rw [g_up_ne (by decide)]) (g_up_ne (by omega)) (g_up_ne (by omega)), h2.same (fun a ha => g_up_ne (by omega)), fun a b => by rw [g_up_ne (by decide)]; exact h3 a b, fun a b => by rw [g_up_ne (by decide)]; exact h4 a b, by rw [g_up_ne (by decide)]; exact h5, fun a b => by rw [g_up_ne (by decide)]; exact h6 a b, u_eq _ _ _ _, by rw [u_ne (by decide)]; exact h7.2.1, by rw [u_ne (by decide)]; exact h7.2.2⟩
theorem xa.zso {s : gS} {T : mT} {t : Nat} {H : mH} {V : mV} (h : xa s T t H V) (x : Int32) : xa (g_up s 26 5 x) T t H (v_ra V, v_tm V, v_ld V, v_lt V, v_st V, v_up V, x, v_hd V) := by
  obtain ⟨h1, h2, h3, h4, h5, h6, h7⟩ := h
  exact ⟨h1.same (by rw [g_up_ne (by decide)]) (g_up_ne (by omega)) (g_up_ne (by omega)), h2.same (fun a ha => g_up_ne (by omega)), fun a b => by rw [g_up_ne (by decide)]; exact h3 a b, fun a b => by rw [g_up_ne (by decide)]; exact h4 a b, by rw [g_up_ne (by decide)]; exact h5, fun a b => by rw [g_up_ne (by decide)]; exact h6 a b, by rw [u_ne (by decide)]; exact h7.1, u_eq _ _ _ _, by rw [u_ne (by decide)]; exact h7.2.2⟩
theorem xa.zhd {s : gS} {T : mT} {t : Nat} {H : mH} {V : mV} (h : xa s T t H V) {x : Int32} {n : Nat} (e : x = nI n) : xa (g_up s 26 4 x) T t H (v_ra V, v_tm V, v_ld V, v_lt V, v_st V, v_up V, v_so V, n) := by
  obtain ⟨h1, h2, h3, h4, h5, h6, h7⟩ := h
  exact ⟨h1.same (by rw [g_up_ne (by decide)]) (g_up_ne (by omega)) (g_up_ne (by omega)), h2.same (fun a ha => g_up_ne (by omega)), fun a b => by rw [g_up_ne (by decide)]; exact h3 a b, fun a b => by rw [g_up_ne (by decide)]; exact h4 a b, by rw [g_up_ne (by decide)]; exact h5, fun a b => by rw [g_up_ne (by decide)]; exact h6 a b, by rw [u_ne (by decide)]; exact h7.1, by rw [u_ne (by decide)]; exact h7.2.1, by rw [u_eq]; exact e⟩
theorem k_gone {h : Nat} (hh : 18 ≤ h) (σ : gS) {t : Nat} {T : mT} {H : mH} (hx : xok σ t T H) : g_Met yX7_gone cX7_gone 1 (some .int) h kX [.ref 0] σ (fun rv s => rv = some (.int (a_gone T H)) ∧ xfr σ s) := by
  obtain ⟨hrl, hxh, hH, hT⟩ := hx
  refine w_X7_gone (by omega) ?_
  unfold P_X7_gone
  refine g_call.i (k_dawn (h := 10) (by omega) σ hrl hxh hH) (by omega) (fun rv s1 hq => ?_)
  obtain ⟨rfl, hxa, hf⟩ := hq
  refine ⟨rfl, g_call.i (k_costInAll (h := 16) (by omega) _ (hxa.zup 0) hT hH ⟨(m_v0_ok hH).1, (m_v0_ok hH).2.1, (m_v0_ok hH).2.2⟩) (by omega) (fun rv s2 hq => ?_)⟩
  obtain ⟨rfl, hL, ⟨-, ⟨d2, d3, d4, d5, d6, d7⟩, -⟩, hf2⟩ := hq
  refine ⟨_, rfl, ?_, (hf.up 3 0 (by decide)).trans hf2⟩
  rw [d5]
  rfl
/-- drip d falls n times -/
def m_vt (H : mH) (d : Nat) (x : Int32) : mV := (h_ra H, m_put (v_tm (m_v0 H)) d x, -1, -1, h_st H, h_up H, h_so H, h_hd H)
theorem m_vt_ok {H : mH} (hH : h_ok H) {d q : Nat} (hd : d < h_nd H) (hq : q ≤ 10) : v_ok H (m_vt H d (nI q)) := by
  refine ⟨fun u hu => ?_, fun u h1 h2 => ?_, hH.1.2.2.1⟩
  · show ∃ q', m_put (v_tm (m_v0 H)) d (nI q) u = nI q' ∧ q' ≤ 10
    by_cases e : u = d
    · exact ⟨q, by rw [m_put, if_pos e], hq⟩
    · rw [m_put, if_neg e]
      exact (m_v0_ok hH).1 u hu
  · show m_put (v_tm (m_v0 H)) d (nI q) u = 0
    rw [m_put, if_neg (by omega)]
    exact (m_v0_ok hH).2.1 u h1 h2
theorem k_repeat {h : Nat} (hh : 6 ≤ h) (σ : gS) {T : mT} {t : Nat} {H : mH} (hx : xa σ T t H (m_v0 H)) {d : Nat} (hd : d < 6) (x : Int32) : g_Met yX5_repeat cX5_repeat 3 none h kX [.ref 33, .int (nI d), .int x] σ (fun rv s => rv = none ∧ xa s T t H (m_vt H d x) ∧ xfr σ s) := by
  refine w_X5_repeat (by omega) ?_
  unfold P_X5_repeat
  refine ⟨fun _ => ⟨d, rfl, hd, rfl, ?_, (xfr.refl σ).up _ _ (by decide)⟩, fun z => absurd ((n_in (lo := 0) (hi := 5) (by omega) (by omega) (by omega)).mpr (by omega)) z⟩
  obtain ⟨h1, h2, h3, h4, h5, h6, h7⟩ := hx
  refine ⟨h1.same (by rw [g_up_ne (by decide)]) (g_up_ne (by omega)) (g_up_ne (by omega)), h2.same (fun a ha => g_up_ne (by omega)), fun a b => by rw [g_up_ne (by decide)]; exact h3 a b, fun a b => ?_, by rw [g_up_ne (by decide)]; exact h5, fun a b => by rw [g_up_ne (by decide)]; exact h6 a b, by rw [g_up_ne (by decide)]; exact h7⟩
  show _ = m_put (v_tm (m_v0 H)) d x a
  by_cases e : a = d
  · subst e; rw [u_eq, m_put, if_pos rfl]
  · rw [u_ne e, m_put, if_neg e]; exact h4 a b
def a_tile (T : mT) (H : mH) (d : Int32) : Int32 := if g_in d 0 (nI (h_nd H) - 1) then m_cost (m_day T H (m_v0 H) 24) - m_cost (m_day T H (m_vt H (ix d) 0) 24) else -100000
theorem k_tile {h : Nat} (hh : 18 ≤ h) (σ : gS) {t : Nat} {T : mT} {H : mH} (hx : xok σ t T H) (d : Int32) : g_Met yX7_tile cX7_tile 3 (some .int) h kX [.ref 0, .int d] σ (fun rv s => rv = some (.int (a_tile T H d)) ∧ xfr σ s) := by
  obtain ⟨hrl, hxh, hH, hT⟩ := hx
  refine w_X7_tile (by omega) ?_
  unfold P_X7_tile
  rw [hxh.1.1]
  refine ⟨fun h1 => ?_, fun h1 => ⟨by rw [a_tile, if_neg h1], xfr.refl σ⟩⟩
  rw [a_tile, if_pos h1]
  obtain ⟨d, hd, rfl⟩ := g_nat h1 rfl (by have := hH.1.1; omega)
  have hd6 : d < 6 := by have := hH.1.1; omega
  refine g_call.i (k_dawn (h := 10) (by omega) σ hrl hxh hH) (by omega) (fun rv s1 hq => ?_)
  obtain ⟨rfl, hxa, hf⟩ := hq
  refine ⟨rfl, g_call.i (k_costInAll (h := 16) (by omega) s1 hxa hT hH (m_v0_ok hH)) (by omega) (fun rv s2 hq => ?_)⟩
  obtain ⟨rfl, hL, -, hf2⟩ := hq
  refine ⟨_, rfl, g_call.i (k_repeat (h := 6) (by omega) s2 hL.1 hd6 0) (by omega) (fun rv s3 hq => ?_)⟩
  obtain ⟨rfl, hxa3, hf3⟩ := hq
  refine ⟨rfl, g_call.i (k_costInAll (h := 16) (by omega) s3 hxa3 hT hH (m_vt_ok hH hd (q := 0) (by omega))) (by omega) (fun rv s4 hq => ?_)⟩
  obtain ⟨rfl, -, -, hf4⟩ := hq
  exact ⟨_, rfl, by rw [ix_nI (by omega)], ((hf.trans hf2).trans hf3).trans hf4⟩
def a_more (T : mT) (H : mH) (d n : Int32) : Int32 := if g_in d 0 (nI (h_nd H) - 1) ∧ g_in n 1 9 then m_cost (m_day T H (m_vt H (ix d) (1 + n)) 24) - m_cost (m_day T H (m_v0 H) 24) else -100000
theorem n_of1 {x : Int32} {M : Nat} (h : g_in x 1 (nI M)) (hM : M ≤ 1000000) : ∃ a, 1 ≤ a ∧ a ≤ M ∧ x = nI a := by
  have h1 := h
  rw [g_in_toInt, nI_toInt (by omega)] at h
  have e1 : (1 : Int32).toInt = 1 := rfl
  have e0 : (0 : Int32).toInt = 0 := rfl
  obtain ⟨a, ha, rfl⟩ := n_of (x := x) (M := M) (by rw [g_in_toInt, nI_toInt (by omega)]; omega) hM
  rw [nI_toInt (by omega)] at h
  exact ⟨a, by omega, ha, rfl⟩
theorem k_more {h : Nat} (hh : 18 ≤ h) (σ : gS) {t : Nat} {T : mT} {H : mH} (hx : xok σ t T H) (d n : Int32) : g_Met yX7_more cX7_more 4 (some .int) h kX [.ref 0, .int d, .int n] σ (fun rv s => rv = some (.int (a_more T H d n)) ∧ xfr σ s) := by
  obtain ⟨hrl, hxh, hH, hT⟩ := hx
  refine w_X7_more (by omega) ?_
  unfold P_X7_more
  rw [hxh.1.1]
  refine ⟨fun h1 => ⟨fun h2 => ?_, fun h2 => ⟨by rw [a_more, if_neg (fun z => h2 z.2)], xfr.refl σ⟩⟩, fun h1 => ⟨by rw [a_more, if_neg (fun z => h1 z.1)], xfr.refl σ⟩⟩
  rw [a_more, if_pos ⟨h1, h2⟩]
  obtain ⟨d, hd, rfl⟩ := g_nat h1 rfl (by have := hH.1.1; omega)
  obtain ⟨n, hn1, hn9, rfl⟩ := n_of1 (M := 9) h2 (by decide)
  have hd6 : d < 6 := by have := hH.1.1; omega
  refine g_call.i (k_dawn (h := 10) (by omega) σ hrl hxh hH) (by omega) (fun rv s1 hq => ?_)
  obtain ⟨rfl, hxa, hf⟩ := hq
  refine ⟨rfl, g_call.i (k_costInAll (h := 16) (by omega) s1 hxa hT hH (m_v0_ok hH)) (by omega) (fun rv s2 hq => ?_)⟩
  obtain ⟨rfl, hL, -, hf2⟩ := hq
  have e1n : (1 : Int32) + nI n = nI (1 + n) := nI_add 1 n
  rw [e1n]
  refine ⟨_, rfl, g_call.i (k_repeat (h := 6) (by omega) s2 hL.1 hd6 _) (by omega) (fun rv s3 hq => ?_)⟩
  obtain ⟨rfl, hxa3, hf3⟩ := hq
  refine ⟨rfl, g_call.i (k_costInAll (h := 16) (by omega) s3 hxa3 hT hH (m_vt_ok hH hd (q := 1 + n) (by omega))) (by omega) (fun rv s4 hq => ?_)⟩
  obtain ⟨rfl, -, -, hf4⟩ := hq
  exact ⟨_, rfl, by rw [ix_nI (by omega)], ((hf.trans hf2).trans hf3).trans hf4⟩
